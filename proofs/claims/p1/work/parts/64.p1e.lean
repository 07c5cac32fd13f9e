set_option maxRecDepth 1000000 in
theorem fa_paidIn_0 : ∀ n, n < 10 → p1_t 149 275 [.int (Int32.ofNat (n + 0))] = true := by decide +kernel
set_option maxRecDepth 1000000 in
theorem fa_paidIn_1 : ∀ n, n < 10 → p1_t 149 275 [.int (Int32.ofNat (n + 10))] = true := by decide +kernel
set_option maxRecDepth 1000000 in
theorem fa_paidIn_2 : ∀ n, n < 10 → p1_t 149 275 [.int (Int32.ofNat (n + 20))] = true := by decide +kernel
set_option maxRecDepth 1000000 in
theorem fa_paidIn_3 : ∀ n, n < 10 → p1_t 149 275 [.int (Int32.ofNat (n + 30))] = true := by decide +kernel
set_option maxRecDepth 1000000 in
theorem fa_paidIn_4 : ∀ n, n < 10 → p1_t 149 275 [.int (Int32.ofNat (n + 40))] = true := by decide +kernel
set_option maxRecDepth 1000000 in
theorem fa_paidIn_5 : ∀ n, n < 10 → p1_t 149 275 [.int (Int32.ofNat (n + 50))] = true := by decide +kernel
set_option maxRecDepth 1000000 in
theorem fa_paidIn_6 : ∀ n, n < 1 → p1_t 149 275 [.int (Int32.ofNat (n + 60))] = true := by decide +kernel
theorem fa_paidIn : ∀ n, n < 61 → p1_t 149 275 [.int (Int32.ofNat n)] = true := fun n hn => by
  by_cases h0 : n < 10
  · have e := fa_paidIn_0 (n - 0) (by omega)
    rw [show n - 0 + 0 = n by omega] at e
    exact e
  by_cases h1 : n < 20
  · have e := fa_paidIn_1 (n - 10) (by omega)
    rw [show n - 10 + 10 = n by omega] at e
    exact e
  by_cases h2 : n < 30
  · have e := fa_paidIn_2 (n - 20) (by omega)
    rw [show n - 20 + 20 = n by omega] at e
    exact e
  by_cases h3 : n < 40
  · have e := fa_paidIn_3 (n - 30) (by omega)
    rw [show n - 30 + 30 = n by omega] at e
    exact e
  by_cases h4 : n < 50
  · have e := fa_paidIn_4 (n - 40) (by omega)
    rw [show n - 40 + 40 = n by omega] at e
    exact e
  by_cases h5 : n < 60
  · have e := fa_paidIn_5 (n - 50) (by omega)
    rw [show n - 50 + 50 = n by omega] at e
    exact e
  have e := fa_paidIn_6 (n - 60) (by omega)
  rw [show n - 60 + 60 = n by omega] at e
  exact e
