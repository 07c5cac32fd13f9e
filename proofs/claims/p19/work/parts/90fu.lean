/-! what is told: not here -/
