set_option maxRecDepth 1000000 in
theorem kc_t1 : (match mm_exec mm_cd mm_nL 20000 9 175 [.long 5, .int 97] hB with | some (_, some (.long x)) => decide (x = 136) | _ => false) = true := by decide +kernel
