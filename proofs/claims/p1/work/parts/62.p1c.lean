set_option maxRecDepth 1000000 in
theorem fa_read : p1_t 124 186 [] = true := by decide +kernel
set_option maxRecDepth 1000000 in
theorem fa_place : p1_t 125 187 [] = true := by decide +kernel
set_option maxRecDepth 1000000 in
theorem fa_undo : p1_t 132 245 [] = true := by decide +kernel
set_option maxRecDepth 1000000 in
theorem fa_forget : p1_t 152 278 [] = true := by decide +kernel
set_option maxRecDepth 1000000 in
theorem fa_flag : ∀ n0, n0 < 16 → ∀ n1, n1 < 3 → p1_t 126 236 [.int (Int32.ofNat n0), .int (Int32.ofNat n1)] = true := by decide +kernel
set_option maxRecDepth 1000000 in
theorem fa_tell : ∀ n0, n0 < 6 → ∀ n1, n1 < 10 → ∀ n2, n2 < 2 → p1_t 151 277 [.int (Int32.ofNat n0), .int (Int32.ofNat n1), .int (Int32.ofNat n2)] = true := by decide +kernel
set_option maxRecDepth 1000000 in
theorem fa_hold : ∀ n0, n0 < 3 → p1_t 155 284 [.int (Int32.ofNat n0)] = true := by decide +kernel
set_option maxRecDepth 1000000 in
theorem fa_restore : ∀ n0, n0 < 3 → p1_t 156 285 [.int (Int32.ofNat n0)] = true := by decide +kernel
set_option maxRecDepth 1000000 in
theorem fa_count : ∀ n0, n0 < 17 → p1_t 157 287 [.int (Int32.ofNat n0)] = true := by decide +kernel
set_option maxRecDepth 1000000 in
theorem fa_back : ∀ n0, n0 < 1 → p1_t 123 171 [.int (Int32.ofNat n0)] = true := by decide +kernel
