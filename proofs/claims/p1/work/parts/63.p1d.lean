set_option maxRecDepth 1000000 in
theorem fa_minutes_0 : ∀ n, n < 6 → p1_t 131 244 [.int (Int32.ofNat (n + 0))] = true := by decide +kernel
set_option maxRecDepth 1000000 in
theorem fa_minutes_1 : ∀ n, n < 6 → p1_t 131 244 [.int (Int32.ofNat (n + 6))] = true := by decide +kernel
set_option maxRecDepth 1000000 in
theorem fa_minutes_2 : ∀ n, n < 6 → p1_t 131 244 [.int (Int32.ofNat (n + 12))] = true := by decide +kernel
set_option maxRecDepth 1000000 in
theorem fa_minutes_3 : ∀ n, n < 6 → p1_t 131 244 [.int (Int32.ofNat (n + 18))] = true := by decide +kernel
set_option maxRecDepth 1000000 in
theorem fa_minutes_4 : ∀ n, n < 6 → p1_t 131 244 [.int (Int32.ofNat (n + 24))] = true := by decide +kernel
set_option maxRecDepth 1000000 in
theorem fa_minutes_5 : ∀ n, n < 6 → p1_t 131 244 [.int (Int32.ofNat (n + 30))] = true := by decide +kernel
set_option maxRecDepth 1000000 in
theorem fa_minutes_6 : ∀ n, n < 6 → p1_t 131 244 [.int (Int32.ofNat (n + 36))] = true := by decide +kernel
set_option maxRecDepth 1000000 in
theorem fa_minutes_7 : ∀ n, n < 6 → p1_t 131 244 [.int (Int32.ofNat (n + 42))] = true := by decide +kernel
set_option maxRecDepth 1000000 in
theorem fa_minutes_8 : ∀ n, n < 6 → p1_t 131 244 [.int (Int32.ofNat (n + 48))] = true := by decide +kernel
set_option maxRecDepth 1000000 in
theorem fa_minutes_9 : ∀ n, n < 6 → p1_t 131 244 [.int (Int32.ofNat (n + 54))] = true := by decide +kernel
set_option maxRecDepth 1000000 in
theorem fa_minutes_10 : ∀ n, n < 1 → p1_t 131 244 [.int (Int32.ofNat (n + 60))] = true := by decide +kernel
theorem fa_minutes : ∀ n, n < 61 → p1_t 131 244 [.int (Int32.ofNat n)] = true := fun n hn => by
  by_cases h0 : n < 6
  · have e := fa_minutes_0 (n - 0) (by omega)
    rw [show n - 0 + 0 = n by omega] at e
    exact e
  by_cases h1 : n < 12
  · have e := fa_minutes_1 (n - 6) (by omega)
    rw [show n - 6 + 6 = n by omega] at e
    exact e
  by_cases h2 : n < 18
  · have e := fa_minutes_2 (n - 12) (by omega)
    rw [show n - 12 + 12 = n by omega] at e
    exact e
  by_cases h3 : n < 24
  · have e := fa_minutes_3 (n - 18) (by omega)
    rw [show n - 18 + 18 = n by omega] at e
    exact e
  by_cases h4 : n < 30
  · have e := fa_minutes_4 (n - 24) (by omega)
    rw [show n - 24 + 24 = n by omega] at e
    exact e
  by_cases h5 : n < 36
  · have e := fa_minutes_5 (n - 30) (by omega)
    rw [show n - 30 + 30 = n by omega] at e
    exact e
  by_cases h6 : n < 42
  · have e := fa_minutes_6 (n - 36) (by omega)
    rw [show n - 36 + 36 = n by omega] at e
    exact e
  by_cases h7 : n < 48
  · have e := fa_minutes_7 (n - 42) (by omega)
    rw [show n - 42 + 42 = n by omega] at e
    exact e
  by_cases h8 : n < 54
  · have e := fa_minutes_8 (n - 48) (by omega)
    rw [show n - 48 + 48 = n by omega] at e
    exact e
  by_cases h9 : n < 60
  · have e := fa_minutes_9 (n - 54) (by omega)
    rw [show n - 54 + 54 = n by omega] at e
    exact e
  have e := fa_minutes_10 (n - 60) (by omega)
  rw [show n - 60 + 60 = n by omega] at e
  exact e
