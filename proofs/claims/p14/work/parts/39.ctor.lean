set_option maxRecDepth 1000000 in
theorem ck_1 : mm_to (mm_steps (mm_exec mm_cd mm_nL 20000 8) mc_121 31 0 [some (.ref 0)] [] hA) 65 [some (.ref 0)] [.ref 31, .ref 31, .ref 0] hp1 = true := by decide +kernel
set_option maxRecDepth 1000000 in
theorem ck_2 : mm_to (mm_steps (mm_exec mm_cd mm_nL 20000 7) mc_96 1201 0 [some (.ref 31), none, none, none, none] [] hp1) 107 [some (.ref 31), some (.int 16), some (.int 5), some (.int 3), some (.int 1)] [.int 16] hp2 = true := by decide +kernel
set_option maxRecDepth 1000000 in
theorem ck_3 : mm_to (mm_steps (mm_exec mm_cd mm_nL 20000 7) mc_96 546 107 [some (.ref 31), some (.int 16), some (.int 5), some (.int 3), some (.int 1)] [.int 16] hp2) 107 [some (.ref 31), some (.int 22), some (.int 8), some (.int 3), some (.int 2)] [.int 21] hp3 = true := by decide +kernel
set_option maxRecDepth 1000000 in
theorem ck_4 : mm_to (mm_steps (mm_exec mm_cd mm_nL 20000 7) mc_96 440 107 [some (.ref 31), some (.int 22), some (.int 8), some (.int 3), some (.int 2)] [.int 21] hp3) 107 [some (.ref 31), some (.int 23), some (.int 11), some (.int 2), some (.int 22)] [.int 20] hp4 = true := by decide +kernel
set_option maxRecDepth 1000000 in
theorem ck_5 : mm_to (mm_steps (mm_exec mm_cd mm_nL 20000 7) mc_96 462 107 [some (.ref 31), some (.int 23), some (.int 11), some (.int 2), some (.int 22)] [.int 20] hp4) 107 [some (.ref 31), some (.int 23), some (.int 14), some (.int 2), some (.int 21)] [.int 15] hp5 = true := by decide +kernel
set_option maxRecDepth 1000000 in
theorem ck_6 : mm_to (mm_steps (mm_exec mm_cd mm_nL 20000 7) mc_96 512 107 [some (.ref 31), some (.int 23), some (.int 14), some (.int 2), some (.int 21)] [.int 15] hp5) 107 [some (.ref 31), some (.int 24), some (.int 17), some (.int 3), some (.int 6)] [.int 8] hp6 = true := by decide +kernel
set_option maxRecDepth 1000000 in
theorem ck_7 : mm_to (mm_steps (mm_exec mm_cd mm_nL 20000 7) mc_96 580 107 [some (.ref 31), some (.int 24), some (.int 17), some (.int 3), some (.int 6)] [.int 8] hp6) 107 [some (.ref 31), some (.int 24), some (.int 21), some (.int 2), some (.int 8)] [.int 11] hp7 = true := by decide +kernel
set_option maxRecDepth 1000000 in
theorem ck_8 : mm_is (mm_run (mm_exec mm_cd mm_nL 20000 7) mc_96 368 107 [some (.ref 31), some (.int 24), some (.int 21), some (.int 2), some (.int 8)] [.int 11] hp7) hp8 = true := by decide +kernel
set_option maxRecDepth 100000 in
theorem kc_96 : mm_K 8 96 [.ref 31] hp1 (fun h r => h = hp8 ∧ r = none) := by
  refine mm_K.of rfl ?_
  show mm_W 7 (mm_cd 96) 0 [some (.ref 31), none, none, none, none] [] hp1 _
  refine w_steps (N := 20000) (mo_all 96) ck_2 ?_
  refine w_steps (N := 20000) (mo_all 96) ck_3 ?_
  refine w_steps (N := 20000) (mo_all 96) ck_4 ?_
  refine w_steps (N := 20000) (mo_all 96) ck_5 ?_
  refine w_steps (N := 20000) (mo_all 96) ck_6 ?_
  refine w_steps (N := 20000) (mo_all 96) ck_7 ?_
  exact w_end (N := 20000) (mm_is_eq ck_8) ⟨⟨Nat.le_of_ble_eq_true rfl, Nat.le_of_ble_eq_true rfl⟩, rfl, rfl⟩
set_option maxRecDepth 1000000 in
theorem ck_9 : mm_is (mm_run (mm_exec mm_cd mm_nL 20000 8) mc_121 51 68 [some (.ref 0)] [.ref 31, .ref 0] hp8) hp9 = true := by decide +kernel
set_option maxRecDepth 100000 in
theorem kc_X : mm_K 9 121 [.ref 0] hA (fun h r => h = hp9 ∧ r = none) := by
  refine mm_K.of rfl ?_
  show mm_W 8 (mm_cd 121) 0 [some (.ref 0)] [] hA _
  refine w_steps (N := 20000) (mo_all 121) ck_1 ?_
  refine w_ivI (as := []) (i := 31) rfl (mo_all 121) rfl rfl rfl ?_
  refine kc_96.mono (Nat.le_refl _) ?_
  rintro _ _ ⟨rfl, rfl⟩
  refine ⟨rfl, ?_⟩
  exact w_end (N := 20000) (mm_is_eq ck_9) ⟨⟨Nat.le_of_ble_eq_true rfl, Nat.le_of_ble_eq_true rfl⟩, rfl, rfl⟩
set_option maxRecDepth 1000000 in
theorem ck_10 : mm_to (mm_steps (mm_exec mm_cd mm_nL 20000 8) mc_168 488 0 [some (.ref 284)] [] hB) 930 [some (.ref 284)] [.ref 284] hp10 = true := by decide +kernel
set_option maxRecDepth 1000000 in
theorem ck_11 : mm_to (mm_steps (mm_exec mm_cd mm_nL 20000 7) mc_205 5401 0 [some (.ref 284), none, none, none] [] hp10) 96 [some (.ref 284), some (.int 9), some (.int 2), some (.int 6)] [.int 18, .int 38, .ref 320] hp11 = true := by decide +kernel
set_option maxRecDepth 1000000 in
theorem ck_12 : mm_to (mm_steps (mm_exec mm_cd mm_nL 20000 7) mc_205 4483 96 [some (.ref 284), some (.int 9), some (.int 2), some (.int 6)] [.int 18, .int 38, .ref 320] hp11) 57 [some (.ref 284), some (.int 17), some (.int 3), some (.int 5)] [.ref 284] hp12 = true := by decide +kernel
set_option maxRecDepth 1000000 in
theorem ck_13 : mm_is (mm_run (mm_exec mm_cd mm_nL 20000 7) mc_205 3322 57 [some (.ref 284), some (.int 17), some (.int 3), some (.int 5)] [.ref 284] hp12) hp13 = true := by decide +kernel
set_option maxRecDepth 100000 in
theorem kc_205 : mm_K 8 205 [.ref 284] hp10 (fun h r => h = hp13 ∧ r = none) := by
  refine mm_K.of rfl ?_
  show mm_W 7 (mm_cd 205) 0 [some (.ref 284), none, none, none] [] hp10 _
  refine w_steps (N := 20000) (mo_all 205) ck_11 ?_
  refine w_steps (N := 20000) (mo_all 205) ck_12 ?_
  exact w_end (N := 20000) (mm_is_eq ck_13) ⟨⟨Nat.le_of_ble_eq_true rfl, Nat.le_of_ble_eq_true rfl⟩, rfl, rfl⟩
set_option maxRecDepth 1000000 in
theorem ck_14 : mm_is (mm_run (mm_exec mm_cd mm_nL 20000 8) mc_168 5 933 [some (.ref 284)] [] hp13) hp14 = true := by decide +kernel
set_option maxRecDepth 100000 in
theorem kc_M : mm_K 9 168 [.ref 284] hB (fun h r => h = hp14 ∧ r = none) := by
  refine mm_K.of rfl ?_
  show mm_W 8 (mm_cd 168) 0 [some (.ref 284)] [] hB _
  refine w_steps (N := 20000) (mo_all 168) ck_10 ?_
  refine w_ivV (as := []) (i := 284) rfl (mo_all 168) rfl rfl rfl rfl ?_
  refine kc_205.mono (Nat.le_refl _) ?_
  rintro _ _ ⟨rfl, rfl⟩
  exact w_end (N := 20000) (mm_is_eq ck_14) ⟨⟨Nat.le_of_ble_eq_true rfl, Nat.le_of_ble_eq_true rfl⟩, rfl, rfl⟩
