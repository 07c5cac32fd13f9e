set_option maxRecDepth 1000000 in
theorem fa_paint_0 : ∀ m, m < 10 → p1_t 130 242 [.int (Int32.ofNat 0), .int (Int32.ofNat m)] = true := by decide +kernel
set_option maxRecDepth 1000000 in
theorem fa_paint_1 : ∀ m, m < 10 → p1_t 130 242 [.int (Int32.ofNat 1), .int (Int32.ofNat m)] = true := by decide +kernel
set_option maxRecDepth 1000000 in
theorem fa_paint_2 : ∀ m, m < 10 → p1_t 130 242 [.int (Int32.ofNat 2), .int (Int32.ofNat m)] = true := by decide +kernel
set_option maxRecDepth 1000000 in
theorem fa_paint_3 : ∀ m, m < 10 → p1_t 130 242 [.int (Int32.ofNat 3), .int (Int32.ofNat m)] = true := by decide +kernel
set_option maxRecDepth 1000000 in
theorem fa_paint_4 : ∀ m, m < 10 → p1_t 130 242 [.int (Int32.ofNat 4), .int (Int32.ofNat m)] = true := by decide +kernel
set_option maxRecDepth 1000000 in
theorem fa_paint_5 : ∀ m, m < 10 → p1_t 130 242 [.int (Int32.ofNat 5), .int (Int32.ofNat m)] = true := by decide +kernel
set_option maxRecDepth 1000000 in
theorem fa_paint_6 : ∀ m, m < 10 → p1_t 130 242 [.int (Int32.ofNat 6), .int (Int32.ofNat m)] = true := by decide +kernel
set_option maxRecDepth 1000000 in
theorem fa_paint_7 : ∀ m, m < 10 → p1_t 130 242 [.int (Int32.ofNat 7), .int (Int32.ofNat m)] = true := by decide +kernel
set_option maxRecDepth 1000000 in
theorem fa_paint_8 : ∀ m, m < 10 → p1_t 130 242 [.int (Int32.ofNat 8), .int (Int32.ofNat m)] = true := by decide +kernel
set_option maxRecDepth 1000000 in
theorem fa_paint_9 : ∀ m, m < 10 → p1_t 130 242 [.int (Int32.ofNat 9), .int (Int32.ofNat m)] = true := by decide +kernel
set_option maxRecDepth 1000000 in
theorem fa_paint_10 : ∀ m, m < 10 → p1_t 130 242 [.int (Int32.ofNat 10), .int (Int32.ofNat m)] = true := by decide +kernel
set_option maxRecDepth 1000000 in
theorem fa_paint_11 : ∀ m, m < 10 → p1_t 130 242 [.int (Int32.ofNat 11), .int (Int32.ofNat m)] = true := by decide +kernel
set_option maxRecDepth 1000000 in
theorem fa_paint_12 : ∀ m, m < 10 → p1_t 130 242 [.int (Int32.ofNat 12), .int (Int32.ofNat m)] = true := by decide +kernel
set_option maxRecDepth 1000000 in
theorem fa_paint_13 : ∀ m, m < 10 → p1_t 130 242 [.int (Int32.ofNat 13), .int (Int32.ofNat m)] = true := by decide +kernel
set_option maxRecDepth 1000000 in
theorem fa_paint_14 : ∀ m, m < 10 → p1_t 130 242 [.int (Int32.ofNat 14), .int (Int32.ofNat m)] = true := by decide +kernel
set_option maxRecDepth 1000000 in
theorem fa_paint_15 : ∀ m, m < 10 → p1_t 130 242 [.int (Int32.ofNat 15), .int (Int32.ofNat m)] = true := by decide +kernel
theorem fa_paint : ∀ n, n < 16 → ∀ m, m < 10 → p1_t 130 242 [.int (Int32.ofNat n), .int (Int32.ofNat m)] = true := fun n hn => match n, hn with
  | 0, _ => fa_paint_0
  | 1, _ => fa_paint_1
  | 2, _ => fa_paint_2
  | 3, _ => fa_paint_3
  | 4, _ => fa_paint_4
  | 5, _ => fa_paint_5
  | 6, _ => fa_paint_6
  | 7, _ => fa_paint_7
  | 8, _ => fa_paint_8
  | 9, _ => fa_paint_9
  | 10, _ => fa_paint_10
  | 11, _ => fa_paint_11
  | 12, _ => fa_paint_12
  | 13, _ => fa_paint_13
  | 14, _ => fa_paint_14
  | 15, _ => fa_paint_15
  | n + 16, h => absurd h (by omega)
