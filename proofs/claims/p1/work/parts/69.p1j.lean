theorem w_alenL {D : Nat} {code : Nat → mm_A} {pc nx n : Nat} {ls : List (Option Value)} {r : List Value} {h : mm_H} {Q : mm_Q} {xs : List Int32} (hc : code pc = a_alen (mm_xl xs) nx) (hn : xs.length = n) (k : mm_W D code nx ls (.int (Int32.ofNat n) :: r) h Q) : mm_W D code pc ls (.ref 1400 :: r) h Q :=
  w_st (fun F => by
    subst hn
    rw [hc]
    show mm_fI (Int32.ofNat xs.length) (fun z => some (Sum.inl (nx, ls, Value.int z :: r, h))) = _
    rw [mm_fI_eq]) k
def p1_lq : mm_Q := fun h2 r => r = some (.int 1) ∧ h2.1 ≤ 600000 ∧ h2.2.1 ≤ 7302250
set_option maxRecDepth 20000 in
theorem p1_end (a0 a1 a2 a3 a4 a5 : Int32) (h : mm_H) (h1 : h.1 ≤ 600000) (h2 : h.2.1 ≤ 7302250) : mm_W 9 (mc_law [a0, a1, a2, a3, a4, a5]) 1386 [some (.ref 1400), some (.ref 0), some (.ref 284), some (.int 0)] [] h p1_lq := by
  refine w_st (fun _ => rfl) ?_
  refine w_st (fun _ => rfl) ?_
  refine w_st (fun _ => rfl) ?_
  refine w_st (fun _ => rfl) ?_
  refine w_alenL (n := 6) rfl rfl ?_
  refine w_st (fun _ => rfl) ?_
  refine w_i2 rfl ?_
  refine w_st (fun _ => rfl) ?_
  refine w_st (fun _ => rfl) ?_
  exact w_rt (fun _ => rfl) ⟨rfl, h1, h2⟩
set_option maxRecDepth 20000 in
theorem p1_c0 (a0 a1 a2 a3 a4 a5 : Int32) : mm_W 9 (mc_law [a0, a1, a2, a3, a4, a5]) 192 [some (.ref 1400), some (.ref 0), some (.ref 284), some (.int 0)] [] hM p1_lq := by
  refine w_st (fun _ => rfl) ?_
  refine w_st (fun _ => rfl) ?_
  refine w_st (fun _ => rfl) ?_
  refine w_st (fun _ => rfl) ?_
  refine w_st (fun _ => rfl) ?_
  refine w_st (fun _ => rfl) ?_
  refine w_st (fun _ => rfl) ?_
  refine w_st (fun _ => rfl) ?_
  refine w_st (fun _ => rfl) ?_
  refine w_st (fun _ => rfl) ?_
  refine w_st (fun _ => rfl) ?_
  refine w_st (fun _ => rfl) ?_
  refine w_st (fun _ => rfl) ?_
  refine w_st (fun _ => rfl) ?_
  refine w_st (fun _ => rfl) ?_
  refine w_st (fun _ => rfl) ?_
  refine w_st (fun _ => rfl) ?_
  refine w_st (fun _ => rfl) ?_
  refine w_st (fun _ => rfl) ?_
  refine w_st (fun _ => rfl) ?_
  refine w_st (fun _ => rfl) ?_
  refine w_st (fun _ => rfl) ?_
  refine w_st (fun _ => rfl) ?_
  refine w_st (fun _ => rfl) ?_
  refine w_st (fun _ => rfl) ?_
  refine w_st (fun _ => rfl) ?_
  refine w_ivV (as := [_, _, _, _, _]) rfl (mg_law _) rfl rfl rfl rfl ?_
  refine (pr_feed a1 a2 a3 a4 a5).mono (Nat.le_refl _) ?_
  rintro h2 _ ⟨z, fs, rfl, hg, hm⟩
  refine w_st (fun _ => rfl) ?_
  refine w_st (fun _ => rfl) ?_
  refine w_st (fun _ => rfl) ?_
  refine w_st (fun _ => rfl) ?_
  refine w_st (fun _ => rfl) ?_
  refine w_st (fun _ => rfl) ?_
  refine w_st (fun _ => rfl) ?_
  refine w_st (fun _ => rfl) ?_
  refine w_st (fun _ => rfl) ?_
  refine w_st (fun _ => rfl) ?_
  refine w_st (fun _ => rfl) ?_
  refine w_st (fun _ => rfl) ?_
  refine w_st (fun _ => rfl) ?_
  refine w_st (fun _ => rfl) ?_
  refine w_st (fun _ => rfl) ?_
  refine w_st (fun _ => rfl) ?_
  refine w_st (fun _ => rfl) ?_
  refine w_st (fun _ => rfl) ?_
  refine w_st (fun _ => rfl) ?_
  refine w_st (fun _ => rfl) ?_
  refine w_st (fun _ => rfl) ?_
  refine w_st (fun _ => rfl) ?_
  refine w_st (fun _ => rfl) ?_
  refine w_st (fun _ => rfl) ?_
  refine w_st (fun _ => rfl) ?_
  refine w_st (fun _ => rfl) ?_
  refine w_ivV (as := [_, _, _, _, _]) rfl (mg_law _) rfl rfl hg rfl ?_
  refine hm.mono (Nat.le_refl _) ?_
  rintro h3 _ ⟨rfl, b1, b2⟩
  refine w_icT rfl (decide_eq_true rfl) ?_
  exact p1_end a0 a1 a2 a3 a4 a5 h3 b1 b2
set_option maxRecDepth 20000 in
theorem p1_c1 (a0 a1 a2 a3 a4 a5 : Int32) : mm_W 9 (mc_law [a0, a1, a2, a3, a4, a5]) 255 [some (.ref 1400), some (.ref 0), some (.ref 284), some (.int 0)] [] hM p1_lq := by
  refine w_st (fun _ => rfl) ?_
  refine w_st (fun _ => rfl) ?_
  refine w_st (fun _ => rfl) ?_
  refine w_st (fun _ => rfl) ?_
  refine w_st (fun _ => rfl) ?_
  refine w_st (fun _ => rfl) ?_
  refine w_ivV (as := [_]) rfl (mg_law _) rfl rfl rfl rfl ?_
  refine (pr_back a1).mono (Nat.le_refl _) ?_
  rintro h2 _ ⟨z, fs, rfl, hg, hm⟩
  refine w_st (fun _ => rfl) ?_
  refine w_st (fun _ => rfl) ?_
  refine w_st (fun _ => rfl) ?_
  refine w_st (fun _ => rfl) ?_
  refine w_st (fun _ => rfl) ?_
  refine w_st (fun _ => rfl) ?_
  refine w_ivV (as := [_]) rfl (mg_law _) rfl rfl hg rfl ?_
  refine hm.mono (Nat.le_refl _) ?_
  rintro h3 _ ⟨rfl, b1, b2⟩
  refine w_icT rfl (decide_eq_true rfl) ?_
  exact p1_end a0 a1 a2 a3 a4 a5 h3 b1 b2
set_option maxRecDepth 20000 in
theorem p1_c2 (a0 a1 a2 a3 a4 a5 : Int32) : mm_W 9 (mc_law [a0, a1, a2, a3, a4, a5]) 278 [some (.ref 1400), some (.ref 0), some (.ref 284), some (.int 0)] [] hM p1_lq := by
  refine w_st (fun _ => rfl) ?_
  refine w_ivV (as := []) rfl (mg_law _) rfl rfl rfl rfl ?_
  refine (p1_t_ok fa_read).mono (Nat.le_refl _) ?_
  rintro h2 _ ⟨z, fs, rfl, hg, hm⟩
  refine w_st (fun _ => rfl) ?_
  refine w_ivV (as := []) rfl (mg_law _) rfl rfl hg rfl ?_
  refine hm.mono (Nat.le_refl _) ?_
  rintro h3 _ ⟨rfl, b1, b2⟩
  refine w_icT rfl (decide_eq_true rfl) ?_
  exact p1_end a0 a1 a2 a3 a4 a5 h3 b1 b2
set_option maxRecDepth 20000 in
theorem p1_c3 (a0 a1 a2 a3 a4 a5 : Int32) : mm_W 9 (mc_law [a0, a1, a2, a3, a4, a5]) 291 [some (.ref 1400), some (.ref 0), some (.ref 284), some (.int 0)] [] hM p1_lq := by
  refine w_st (fun _ => rfl) ?_
  refine w_ivV (as := []) rfl (mg_law _) rfl rfl rfl rfl ?_
  refine (p1_t_ok fa_place).mono (Nat.le_refl _) ?_
  rintro h2 _ ⟨z, fs, rfl, hg, hm⟩
  refine w_st (fun _ => rfl) ?_
  refine w_ivV (as := []) rfl (mg_law _) rfl rfl hg rfl ?_
  refine hm.mono (Nat.le_refl _) ?_
  rintro h3 _ ⟨rfl, b1, b2⟩
  refine w_icT rfl (decide_eq_true rfl) ?_
  exact p1_end a0 a1 a2 a3 a4 a5 h3 b1 b2
set_option maxRecDepth 20000 in
theorem p1_c4 (a0 a1 a2 a3 a4 a5 : Int32) : mm_W 9 (mc_law [a0, a1, a2, a3, a4, a5]) 304 [some (.ref 1400), some (.ref 0), some (.ref 284), some (.int 0)] [] hM p1_lq := by
  refine w_st (fun _ => rfl) ?_
  refine w_st (fun _ => rfl) ?_
  refine w_st (fun _ => rfl) ?_
  refine w_st (fun _ => rfl) ?_
  refine w_st (fun _ => rfl) ?_
  refine w_st (fun _ => rfl) ?_
  refine w_st (fun _ => rfl) ?_
  refine w_st (fun _ => rfl) ?_
  refine w_st (fun _ => rfl) ?_
  refine w_st (fun _ => rfl) ?_
  refine w_st (fun _ => rfl) ?_
  refine w_ivV (as := [_, _]) rfl (mg_law _) rfl rfl rfl rfl ?_
  refine (pr_flag a1 a2).mono (Nat.le_refl _) ?_
  rintro h2 _ ⟨z, fs, rfl, hg, hm⟩
  refine w_st (fun _ => rfl) ?_
  refine w_st (fun _ => rfl) ?_
  refine w_st (fun _ => rfl) ?_
  refine w_st (fun _ => rfl) ?_
  refine w_st (fun _ => rfl) ?_
  refine w_st (fun _ => rfl) ?_
  refine w_st (fun _ => rfl) ?_
  refine w_st (fun _ => rfl) ?_
  refine w_st (fun _ => rfl) ?_
  refine w_st (fun _ => rfl) ?_
  refine w_st (fun _ => rfl) ?_
  refine w_ivV (as := [_, _]) rfl (mg_law _) rfl rfl hg rfl ?_
  refine hm.mono (Nat.le_refl _) ?_
  rintro h3 _ ⟨rfl, b1, b2⟩
  refine w_icT rfl (decide_eq_true rfl) ?_
  exact p1_end a0 a1 a2 a3 a4 a5 h3 b1 b2
set_option maxRecDepth 20000 in
theorem p1_c5 (a0 a1 a2 a3 a4 a5 : Int32) : mm_W 9 (mc_law [a0, a1, a2, a3, a4, a5]) 337 [some (.ref 1400), some (.ref 0), some (.ref 284), some (.int 0)] [] hM p1_lq := by
  refine w_st (fun _ => rfl) ?_
  refine w_st (fun _ => rfl) ?_
  refine w_st (fun _ => rfl) ?_
  refine w_st (fun _ => rfl) ?_
  refine w_st (fun _ => rfl) ?_
  refine w_st (fun _ => rfl) ?_
  refine w_st (fun _ => rfl) ?_
  refine w_st (fun _ => rfl) ?_
  refine w_st (fun _ => rfl) ?_
  refine w_st (fun _ => rfl) ?_
  refine w_st (fun _ => rfl) ?_
  refine w_ivV (as := [_, _]) rfl (mg_law _) rfl rfl rfl rfl ?_
  refine (pr_crate a1 a2).mono (Nat.le_refl _) ?_
  rintro h2 _ ⟨z, fs, rfl, hg, hm⟩
  refine w_st (fun _ => rfl) ?_
  refine w_st (fun _ => rfl) ?_
  refine w_st (fun _ => rfl) ?_
  refine w_st (fun _ => rfl) ?_
  refine w_st (fun _ => rfl) ?_
  refine w_st (fun _ => rfl) ?_
  refine w_st (fun _ => rfl) ?_
  refine w_st (fun _ => rfl) ?_
  refine w_st (fun _ => rfl) ?_
  refine w_st (fun _ => rfl) ?_
  refine w_st (fun _ => rfl) ?_
  refine w_ivV (as := [_, _]) rfl (mg_law _) rfl rfl hg rfl ?_
  refine hm.mono (Nat.le_refl _) ?_
  rintro h3 _ ⟨rfl, b1, b2⟩
  refine w_icT rfl (decide_eq_true rfl) ?_
  exact p1_end a0 a1 a2 a3 a4 a5 h3 b1 b2
set_option maxRecDepth 20000 in
theorem p1_c6 (a0 a1 a2 a3 a4 a5 : Int32) : mm_W 9 (mc_law [a0, a1, a2, a3, a4, a5]) 370 [some (.ref 1400), some (.ref 0), some (.ref 284), some (.int 0)] [] hM p1_lq := by
  refine w_st (fun _ => rfl) ?_
  refine w_st (fun _ => rfl) ?_
  refine w_st (fun _ => rfl) ?_
  refine w_st (fun _ => rfl) ?_
  refine w_st (fun _ => rfl) ?_
  refine w_st (fun _ => rfl) ?_
  refine w_st (fun _ => rfl) ?_
  refine w_st (fun _ => rfl) ?_
  refine w_st (fun _ => rfl) ?_
  refine w_st (fun _ => rfl) ?_
  refine w_st (fun _ => rfl) ?_
  refine w_st (fun _ => rfl) ?_
  refine w_st (fun _ => rfl) ?_
  refine w_st (fun _ => rfl) ?_
  refine w_st (fun _ => rfl) ?_
  refine w_st (fun _ => rfl) ?_
  refine w_ivV (as := [_, _, _]) rfl (mg_law _) rfl rfl rfl rfl ?_
  refine (pr_tells a1 a2 a3).mono (Nat.le_refl _) ?_
  rintro h2 _ ⟨z, fs, rfl, hg, hm⟩
  refine w_st (fun _ => rfl) ?_
  refine w_st (fun _ => rfl) ?_
  refine w_st (fun _ => rfl) ?_
  refine w_st (fun _ => rfl) ?_
  refine w_st (fun _ => rfl) ?_
  refine w_st (fun _ => rfl) ?_
  refine w_st (fun _ => rfl) ?_
  refine w_st (fun _ => rfl) ?_
  refine w_st (fun _ => rfl) ?_
  refine w_st (fun _ => rfl) ?_
  refine w_st (fun _ => rfl) ?_
  refine w_st (fun _ => rfl) ?_
  refine w_st (fun _ => rfl) ?_
  refine w_st (fun _ => rfl) ?_
  refine w_st (fun _ => rfl) ?_
  refine w_st (fun _ => rfl) ?_
  refine w_ivV (as := [_, _, _]) rfl (mg_law _) rfl rfl hg rfl ?_
  refine hm.mono (Nat.le_refl _) ?_
  rintro h3 _ ⟨rfl, b1, b2⟩
  refine w_icT rfl (decide_eq_true rfl) ?_
  exact p1_end a0 a1 a2 a3 a4 a5 h3 b1 b2
set_option maxRecDepth 20000 in
theorem p1_c7 (a0 a1 a2 a3 a4 a5 : Int32) : mm_W 9 (mc_law [a0, a1, a2, a3, a4, a5]) 413 [some (.ref 1400), some (.ref 0), some (.ref 284), some (.int 0)] [] hM p1_lq := by
  refine w_st (fun _ => rfl) ?_
  refine w_st (fun _ => rfl) ?_
  refine w_st (fun _ => rfl) ?_
  refine w_st (fun _ => rfl) ?_
  refine w_st (fun _ => rfl) ?_
  refine w_st (fun _ => rfl) ?_
  refine w_st (fun _ => rfl) ?_
  refine w_st (fun _ => rfl) ?_
  refine w_st (fun _ => rfl) ?_
  refine w_st (fun _ => rfl) ?_
  refine w_st (fun _ => rfl) ?_
  refine w_ivV (as := [_, _]) rfl (mg_law _) rfl rfl rfl rfl ?_
  refine (pr_tip a1 a2).mono (Nat.le_refl _) ?_
  rintro h2 _ ⟨z, fs, rfl, hg, hm⟩
  refine w_st (fun _ => rfl) ?_
  refine w_st (fun _ => rfl) ?_
  refine w_st (fun _ => rfl) ?_
  refine w_st (fun _ => rfl) ?_
  refine w_st (fun _ => rfl) ?_
  refine w_st (fun _ => rfl) ?_
  refine w_st (fun _ => rfl) ?_
  refine w_st (fun _ => rfl) ?_
  refine w_st (fun _ => rfl) ?_
  refine w_st (fun _ => rfl) ?_
  refine w_st (fun _ => rfl) ?_
  refine w_ivV (as := [_, _]) rfl (mg_law _) rfl rfl hg rfl ?_
  refine hm.mono (Nat.le_refl _) ?_
  rintro h3 _ ⟨rfl, b1, b2⟩
  refine w_icT rfl (decide_eq_true rfl) ?_
  exact p1_end a0 a1 a2 a3 a4 a5 h3 b1 b2
set_option maxRecDepth 20000 in
theorem p1_c8 (a0 a1 a2 a3 a4 a5 : Int32) : mm_W 9 (mc_law [a0, a1, a2, a3, a4, a5]) 446 [some (.ref 1400), some (.ref 0), some (.ref 284), some (.int 0)] [] hM p1_lq := by
  refine w_st (fun _ => rfl) ?_
  refine w_st (fun _ => rfl) ?_
  refine w_st (fun _ => rfl) ?_
  refine w_st (fun _ => rfl) ?_
  refine w_st (fun _ => rfl) ?_
  refine w_st (fun _ => rfl) ?_
  refine w_st (fun _ => rfl) ?_
  refine w_st (fun _ => rfl) ?_
  refine w_st (fun _ => rfl) ?_
  refine w_st (fun _ => rfl) ?_
  refine w_st (fun _ => rfl) ?_
  refine w_ivV (as := [_, _]) rfl (mg_law _) rfl rfl rfl rfl ?_
  refine (pr_paint a1 a2).mono (Nat.le_refl _) ?_
  rintro h2 _ ⟨z, fs, rfl, hg, hm⟩
  refine w_st (fun _ => rfl) ?_
  refine w_st (fun _ => rfl) ?_
  refine w_st (fun _ => rfl) ?_
  refine w_st (fun _ => rfl) ?_
  refine w_st (fun _ => rfl) ?_
  refine w_st (fun _ => rfl) ?_
  refine w_st (fun _ => rfl) ?_
  refine w_st (fun _ => rfl) ?_
  refine w_st (fun _ => rfl) ?_
  refine w_st (fun _ => rfl) ?_
  refine w_st (fun _ => rfl) ?_
  refine w_ivV (as := [_, _]) rfl (mg_law _) rfl rfl hg rfl ?_
  refine hm.mono (Nat.le_refl _) ?_
  rintro h3 _ ⟨rfl, b1, b2⟩
  refine w_icT rfl (decide_eq_true rfl) ?_
  exact p1_end a0 a1 a2 a3 a4 a5 h3 b1 b2
set_option maxRecDepth 20000 in
theorem p1_c9 (a0 a1 a2 a3 a4 a5 : Int32) : mm_W 9 (mc_law [a0, a1, a2, a3, a4, a5]) 479 [some (.ref 1400), some (.ref 0), some (.ref 284), some (.int 0)] [] hM p1_lq := by
  refine w_st (fun _ => rfl) ?_
  refine w_st (fun _ => rfl) ?_
  refine w_st (fun _ => rfl) ?_
  refine w_st (fun _ => rfl) ?_
  refine w_st (fun _ => rfl) ?_
  refine w_st (fun _ => rfl) ?_
  refine w_ivV (as := [_]) rfl (mg_law _) rfl rfl rfl rfl ?_
  refine (pr_minutes a1).mono (Nat.le_refl _) ?_
  rintro h2 _ ⟨z, fs, rfl, hg, hm⟩
  refine w_st (fun _ => rfl) ?_
  refine w_st (fun _ => rfl) ?_
  refine w_st (fun _ => rfl) ?_
  refine w_st (fun _ => rfl) ?_
  refine w_st (fun _ => rfl) ?_
  refine w_st (fun _ => rfl) ?_
  refine w_ivV (as := [_]) rfl (mg_law _) rfl rfl hg rfl ?_
  refine hm.mono (Nat.le_refl _) ?_
  rintro h3 _ ⟨rfl, b1, b2⟩
  refine w_icT rfl (decide_eq_true rfl) ?_
  exact p1_end a0 a1 a2 a3 a4 a5 h3 b1 b2
set_option maxRecDepth 20000 in
theorem p1_c10 (a0 a1 a2 a3 a4 a5 : Int32) : mm_W 9 (mc_law [a0, a1, a2, a3, a4, a5]) 502 [some (.ref 1400), some (.ref 0), some (.ref 284), some (.int 0)] [] hM p1_lq := by
  refine w_st (fun _ => rfl) ?_
  refine w_ivV (as := []) rfl (mg_law _) rfl rfl rfl rfl ?_
  refine (p1_t_ok fa_undo).mono (Nat.le_refl _) ?_
  rintro h2 _ ⟨z, fs, rfl, hg, hm⟩
  refine w_st (fun _ => rfl) ?_
  refine w_ivV (as := []) rfl (mg_law _) rfl rfl hg rfl ?_
  refine hm.mono (Nat.le_refl _) ?_
  rintro h3 _ ⟨rfl, b1, b2⟩
  refine w_icT rfl (decide_eq_true rfl) ?_
  exact p1_end a0 a1 a2 a3 a4 a5 h3 b1 b2
set_option maxRecDepth 20000 in
theorem p1_c11 (a0 a1 a2 a3 a4 a5 : Int32) : mm_W 9 (mc_law [a0, a1, a2, a3, a4, a5]) 515 [some (.ref 1400), some (.ref 0), some (.ref 284), some (.int 0)] [] hM p1_lq := by
  refine w_st (fun _ => rfl) ?_
  refine w_st (fun _ => rfl) ?_
  refine w_st (fun _ => rfl) ?_
  refine w_st (fun _ => rfl) ?_
  refine w_st (fun _ => rfl) ?_
  refine w_st (fun _ => rfl) ?_
  refine w_st (fun _ => rfl) ?_
  refine w_st (fun _ => rfl) ?_
  refine w_st (fun _ => rfl) ?_
  refine w_st (fun _ => rfl) ?_
  refine w_st (fun _ => rfl) ?_
  refine w_st (fun _ => rfl) ?_
  refine w_st (fun _ => rfl) ?_
  refine w_st (fun _ => rfl) ?_
  refine w_st (fun _ => rfl) ?_
  refine w_st (fun _ => rfl) ?_
  refine w_st (fun _ => rfl) ?_
  refine w_st (fun _ => rfl) ?_
  refine w_st (fun _ => rfl) ?_
  refine w_st (fun _ => rfl) ?_
  refine w_st (fun _ => rfl) ?_
  refine w_ivV (as := [_, _, _, _]) rfl (mg_law _) rfl rfl rfl rfl ?_
  refine (pr_fewest a1 a2 a3 a4).mono (Nat.le_refl _) ?_
  rintro h2 _ ⟨z, fs, rfl, hg, hm⟩
  refine w_st (fun _ => rfl) ?_
  refine w_st (fun _ => rfl) ?_
  refine w_st (fun _ => rfl) ?_
  refine w_st (fun _ => rfl) ?_
  refine w_st (fun _ => rfl) ?_
  refine w_st (fun _ => rfl) ?_
  refine w_st (fun _ => rfl) ?_
  refine w_st (fun _ => rfl) ?_
  refine w_st (fun _ => rfl) ?_
  refine w_st (fun _ => rfl) ?_
  refine w_st (fun _ => rfl) ?_
  refine w_st (fun _ => rfl) ?_
  refine w_st (fun _ => rfl) ?_
  refine w_st (fun _ => rfl) ?_
  refine w_st (fun _ => rfl) ?_
  refine w_st (fun _ => rfl) ?_
  refine w_st (fun _ => rfl) ?_
  refine w_st (fun _ => rfl) ?_
  refine w_st (fun _ => rfl) ?_
  refine w_st (fun _ => rfl) ?_
  refine w_st (fun _ => rfl) ?_
  refine w_ivV (as := [_, _, _, _]) rfl (mg_law _) rfl rfl hg rfl ?_
  refine hm.mono (Nat.le_refl _) ?_
  rintro h3 _ ⟨rfl, b1, b2⟩
  refine w_icT rfl (decide_eq_true rfl) ?_
  exact p1_end a0 a1 a2 a3 a4 a5 h3 b1 b2
set_option maxRecDepth 20000 in
theorem p1_c12 (a0 a1 a2 a3 a4 a5 : Int32) : mm_W 9 (mc_law [a0, a1, a2, a3, a4, a5]) 568 [some (.ref 1400), some (.ref 0), some (.ref 284), some (.int 0)] [] hM p1_lq := by
  refine w_st (fun _ => rfl) ?_
  refine w_st (fun _ => rfl) ?_
  refine w_st (fun _ => rfl) ?_
  refine w_st (fun _ => rfl) ?_
  refine w_st (fun _ => rfl) ?_
  refine w_st (fun _ => rfl) ?_
  refine w_st (fun _ => rfl) ?_
  refine w_st (fun _ => rfl) ?_
  refine w_st (fun _ => rfl) ?_
  refine w_st (fun _ => rfl) ?_
  refine w_st (fun _ => rfl) ?_
  refine w_ivV (as := [_, _]) rfl (mg_law _) rfl rfl rfl rfl ?_
  refine (pr_cheapest a1 a2).mono (Nat.le_refl _) ?_
  rintro h2 _ ⟨z, fs, rfl, hg, hm⟩
  refine w_st (fun _ => rfl) ?_
  refine w_st (fun _ => rfl) ?_
  refine w_st (fun _ => rfl) ?_
  refine w_st (fun _ => rfl) ?_
  refine w_st (fun _ => rfl) ?_
  refine w_st (fun _ => rfl) ?_
  refine w_st (fun _ => rfl) ?_
  refine w_st (fun _ => rfl) ?_
  refine w_st (fun _ => rfl) ?_
  refine w_st (fun _ => rfl) ?_
  refine w_st (fun _ => rfl) ?_
  refine w_ivV (as := [_, _]) rfl (mg_law _) rfl rfl hg rfl ?_
  refine hm.mono (Nat.le_refl _) ?_
  rintro h3 _ ⟨rfl, b1, b2⟩
  refine w_icT rfl (decide_eq_true rfl) ?_
  exact p1_end a0 a1 a2 a3 a4 a5 h3 b1 b2
set_option maxRecDepth 20000 in
theorem p1_c13 (a0 a1 a2 a3 a4 a5 : Int32) : mm_W 9 (mc_law [a0, a1, a2, a3, a4, a5]) 601 [some (.ref 1400), some (.ref 0), some (.ref 284), some (.int 0)] [] hM p1_lq := by
  refine w_st (fun _ => rfl) ?_
  refine w_st (fun _ => rfl) ?_
  refine w_st (fun _ => rfl) ?_
  refine w_st (fun _ => rfl) ?_
  refine w_st (fun _ => rfl) ?_
  refine w_st (fun _ => rfl) ?_
  refine w_st (fun _ => rfl) ?_
  refine w_st (fun _ => rfl) ?_
  refine w_st (fun _ => rfl) ?_
  refine w_st (fun _ => rfl) ?_
  refine w_st (fun _ => rfl) ?_
  refine w_ivV (as := [_, _]) rfl (mg_law _) rfl rfl rfl rfl ?_
  refine (pr_never a1 a2).mono (Nat.le_refl _) ?_
  rintro h2 _ ⟨z, fs, rfl, hg, hm⟩
  refine w_st (fun _ => rfl) ?_
  refine w_st (fun _ => rfl) ?_
  refine w_st (fun _ => rfl) ?_
  refine w_st (fun _ => rfl) ?_
  refine w_st (fun _ => rfl) ?_
  refine w_st (fun _ => rfl) ?_
  refine w_st (fun _ => rfl) ?_
  refine w_st (fun _ => rfl) ?_
  refine w_st (fun _ => rfl) ?_
  refine w_st (fun _ => rfl) ?_
  refine w_st (fun _ => rfl) ?_
  refine w_ivV (as := [_, _]) rfl (mg_law _) rfl rfl hg rfl ?_
  refine hm.mono (Nat.le_refl _) ?_
  rintro h3 _ ⟨rfl, b1, b2⟩
  refine w_icT rfl (decide_eq_true rfl) ?_
  exact p1_end a0 a1 a2 a3 a4 a5 h3 b1 b2
set_option maxRecDepth 20000 in
theorem p1_c14 (a0 a1 a2 a3 a4 a5 : Int32) : mm_W 9 (mc_law [a0, a1, a2, a3, a4, a5]) 634 [some (.ref 1400), some (.ref 0), some (.ref 284), some (.int 0)] [] hM p1_lq := by
  refine w_st (fun _ => rfl) ?_
  refine w_st (fun _ => rfl) ?_
  refine w_st (fun _ => rfl) ?_
  refine w_st (fun _ => rfl) ?_
  refine w_st (fun _ => rfl) ?_
  refine w_st (fun _ => rfl) ?_
  refine w_st (fun _ => rfl) ?_
  refine w_st (fun _ => rfl) ?_
  refine w_st (fun _ => rfl) ?_
  refine w_st (fun _ => rfl) ?_
  refine w_st (fun _ => rfl) ?_
  refine w_st (fun _ => rfl) ?_
  refine w_st (fun _ => rfl) ?_
  refine w_st (fun _ => rfl) ?_
  refine w_st (fun _ => rfl) ?_
  refine w_st (fun _ => rfl) ?_
  refine w_ivV (as := [_, _, _]) rfl (mg_law _) rfl rfl rfl rfl ?_
  refine (pr_nearest a1 a2 a3).mono (Nat.le_refl _) ?_
  rintro h2 _ ⟨z, fs, rfl, hg, hm⟩
  refine w_st (fun _ => rfl) ?_
  refine w_st (fun _ => rfl) ?_
  refine w_st (fun _ => rfl) ?_
  refine w_st (fun _ => rfl) ?_
  refine w_st (fun _ => rfl) ?_
  refine w_st (fun _ => rfl) ?_
  refine w_st (fun _ => rfl) ?_
  refine w_st (fun _ => rfl) ?_
  refine w_st (fun _ => rfl) ?_
  refine w_st (fun _ => rfl) ?_
  refine w_st (fun _ => rfl) ?_
  refine w_st (fun _ => rfl) ?_
  refine w_st (fun _ => rfl) ?_
  refine w_st (fun _ => rfl) ?_
  refine w_st (fun _ => rfl) ?_
  refine w_st (fun _ => rfl) ?_
  refine w_ivV (as := [_, _, _]) rfl (mg_law _) rfl rfl hg rfl ?_
  refine hm.mono (Nat.le_refl _) ?_
  rintro h3 _ ⟨rfl, b1, b2⟩
  refine w_icT rfl (decide_eq_true rfl) ?_
  exact p1_end a0 a1 a2 a3 a4 a5 h3 b1 b2
set_option maxRecDepth 20000 in
theorem p1_c15 (a0 a1 a2 a3 a4 a5 : Int32) : mm_W 9 (mc_law [a0, a1, a2, a3, a4, a5]) 677 [some (.ref 1400), some (.ref 0), some (.ref 284), some (.int 0)] [] hM p1_lq := by
  refine w_st (fun _ => rfl) ?_
  refine w_st (fun _ => rfl) ?_
  refine w_st (fun _ => rfl) ?_
  refine w_st (fun _ => rfl) ?_
  refine w_st (fun _ => rfl) ?_
  refine w_st (fun _ => rfl) ?_
  refine w_ivV (as := [_]) rfl (mg_law _) rfl rfl rfl rfl ?_
  refine (pr_spots a1).mono (Nat.le_refl _) ?_
  rintro h2 _ ⟨z, fs, rfl, hg, hm⟩
  refine w_st (fun _ => rfl) ?_
  refine w_st (fun _ => rfl) ?_
  refine w_st (fun _ => rfl) ?_
  refine w_st (fun _ => rfl) ?_
  refine w_st (fun _ => rfl) ?_
  refine w_st (fun _ => rfl) ?_
  refine w_ivV (as := [_]) rfl (mg_law _) rfl rfl hg rfl ?_
  refine hm.mono (Nat.le_refl _) ?_
  rintro h3 _ ⟨rfl, b1, b2⟩
  refine w_icT rfl (decide_eq_true rfl) ?_
  exact p1_end a0 a1 a2 a3 a4 a5 h3 b1 b2
set_option maxRecDepth 20000 in
theorem p1_c16 (a0 a1 a2 a3 a4 a5 : Int32) : mm_W 9 (mc_law [a0, a1, a2, a3, a4, a5]) 700 [some (.ref 1400), some (.ref 0), some (.ref 284), some (.int 0)] [] hM p1_lq := by
  refine w_st (fun _ => rfl) ?_
  refine w_st (fun _ => rfl) ?_
  refine w_st (fun _ => rfl) ?_
  refine w_st (fun _ => rfl) ?_
  refine w_st (fun _ => rfl) ?_
  refine w_st (fun _ => rfl) ?_
  refine w_st (fun _ => rfl) ?_
  refine w_st (fun _ => rfl) ?_
  refine w_st (fun _ => rfl) ?_
  refine w_st (fun _ => rfl) ?_
  refine w_st (fun _ => rfl) ?_
  refine w_ivV (as := [_, _]) rfl (mg_law _) rfl rfl rfl rfl ?_
  refine (pr_round a1 a2).mono (Nat.le_refl _) ?_
  rintro h2 _ ⟨z, fs, rfl, hg, hm⟩
  refine w_st (fun _ => rfl) ?_
  refine w_st (fun _ => rfl) ?_
  refine w_st (fun _ => rfl) ?_
  refine w_st (fun _ => rfl) ?_
  refine w_st (fun _ => rfl) ?_
  refine w_st (fun _ => rfl) ?_
  refine w_st (fun _ => rfl) ?_
  refine w_st (fun _ => rfl) ?_
  refine w_st (fun _ => rfl) ?_
  refine w_st (fun _ => rfl) ?_
  refine w_st (fun _ => rfl) ?_
  refine w_ivV (as := [_, _]) rfl (mg_law _) rfl rfl hg rfl ?_
  refine hm.mono (Nat.le_refl _) ?_
  rintro h3 _ ⟨rfl, b1, b2⟩
  refine w_icT rfl (decide_eq_true rfl) ?_
  exact p1_end a0 a1 a2 a3 a4 a5 h3 b1 b2
set_option maxRecDepth 20000 in
theorem p1_c17 (a0 a1 a2 a3 a4 a5 : Int32) : mm_W 9 (mc_law [a0, a1, a2, a3, a4, a5]) 733 [some (.ref 1400), some (.ref 0), some (.ref 284), some (.int 0)] [] hM p1_lq := by
  refine w_st (fun _ => rfl) ?_
  refine w_st (fun _ => rfl) ?_
  refine w_st (fun _ => rfl) ?_
  refine w_st (fun _ => rfl) ?_
  refine w_st (fun _ => rfl) ?_
  refine w_st (fun _ => rfl) ?_
  refine w_st (fun _ => rfl) ?_
  refine w_st (fun _ => rfl) ?_
  refine w_st (fun _ => rfl) ?_
  refine w_st (fun _ => rfl) ?_
  refine w_st (fun _ => rfl) ?_
  refine w_st (fun _ => rfl) ?_
  refine w_st (fun _ => rfl) ?_
  refine w_st (fun _ => rfl) ?_
  refine w_st (fun _ => rfl) ?_
  refine w_st (fun _ => rfl) ?_
  refine w_ivV (as := [_, _, _]) rfl (mg_law _) rfl rfl rfl rfl ?_
  refine (pr_richest a1 a2 a3).mono (Nat.le_refl _) ?_
  rintro h2 _ ⟨z, fs, rfl, hg, hm⟩
  refine w_st (fun _ => rfl) ?_
  refine w_st (fun _ => rfl) ?_
  refine w_st (fun _ => rfl) ?_
  refine w_st (fun _ => rfl) ?_
  refine w_st (fun _ => rfl) ?_
  refine w_st (fun _ => rfl) ?_
  refine w_st (fun _ => rfl) ?_
  refine w_st (fun _ => rfl) ?_
  refine w_st (fun _ => rfl) ?_
  refine w_st (fun _ => rfl) ?_
  refine w_st (fun _ => rfl) ?_
  refine w_st (fun _ => rfl) ?_
  refine w_st (fun _ => rfl) ?_
  refine w_st (fun _ => rfl) ?_
  refine w_st (fun _ => rfl) ?_
  refine w_st (fun _ => rfl) ?_
  refine w_ivV (as := [_, _, _]) rfl (mg_law _) rfl rfl hg rfl ?_
  refine hm.mono (Nat.le_refl _) ?_
  rintro h3 _ ⟨rfl, b1, b2⟩
  refine w_icT rfl (decide_eq_true rfl) ?_
  exact p1_end a0 a1 a2 a3 a4 a5 h3 b1 b2
set_option maxRecDepth 20000 in
theorem p1_c18 (a0 a1 a2 a3 a4 a5 : Int32) : mm_W 9 (mc_law [a0, a1, a2, a3, a4, a5]) 776 [some (.ref 1400), some (.ref 0), some (.ref 284), some (.int 0)] [] hM p1_lq := by
  refine w_st (fun _ => rfl) ?_
  refine w_st (fun _ => rfl) ?_
  refine w_st (fun _ => rfl) ?_
  refine w_st (fun _ => rfl) ?_
  refine w_st (fun _ => rfl) ?_
  refine w_st (fun _ => rfl) ?_
  refine w_st (fun _ => rfl) ?_
  refine w_st (fun _ => rfl) ?_
  refine w_st (fun _ => rfl) ?_
  refine w_st (fun _ => rfl) ?_
  refine w_st (fun _ => rfl) ?_
  refine w_st (fun _ => rfl) ?_
  refine w_st (fun _ => rfl) ?_
  refine w_st (fun _ => rfl) ?_
  refine w_st (fun _ => rfl) ?_
  refine w_st (fun _ => rfl) ?_
  refine w_ivV (as := [_, _, _]) rfl (mg_law _) rfl rfl rfl rfl ?_
  refine (pr_spell a1 a2 a3).mono (Nat.le_refl _) ?_
  rintro h2 _ ⟨z, fs, rfl, hg, hm⟩
  refine w_st (fun _ => rfl) ?_
  refine w_st (fun _ => rfl) ?_
  refine w_st (fun _ => rfl) ?_
  refine w_st (fun _ => rfl) ?_
  refine w_st (fun _ => rfl) ?_
  refine w_st (fun _ => rfl) ?_
  refine w_st (fun _ => rfl) ?_
  refine w_st (fun _ => rfl) ?_
  refine w_st (fun _ => rfl) ?_
  refine w_st (fun _ => rfl) ?_
  refine w_st (fun _ => rfl) ?_
  refine w_st (fun _ => rfl) ?_
  refine w_st (fun _ => rfl) ?_
  refine w_st (fun _ => rfl) ?_
  refine w_st (fun _ => rfl) ?_
  refine w_st (fun _ => rfl) ?_
  refine w_ivV (as := [_, _, _]) rfl (mg_law _) rfl rfl hg rfl ?_
  refine hm.mono (Nat.le_refl _) ?_
  rintro h3 _ ⟨rfl, b1, b2⟩
  refine w_icT rfl (decide_eq_true rfl) ?_
  exact p1_end a0 a1 a2 a3 a4 a5 h3 b1 b2
set_option maxRecDepth 20000 in
theorem p1_c19 (a0 a1 a2 a3 a4 a5 : Int32) : mm_W 9 (mc_law [a0, a1, a2, a3, a4, a5]) 819 [some (.ref 1400), some (.ref 0), some (.ref 284), some (.int 0)] [] hM p1_lq := by
  refine w_st (fun _ => rfl) ?_
  refine w_st (fun _ => rfl) ?_
  refine w_st (fun _ => rfl) ?_
  refine w_st (fun _ => rfl) ?_
  refine w_st (fun _ => rfl) ?_
  refine w_st (fun _ => rfl) ?_
  refine w_st (fun _ => rfl) ?_
  refine w_st (fun _ => rfl) ?_
  refine w_st (fun _ => rfl) ?_
  refine w_st (fun _ => rfl) ?_
  refine w_st (fun _ => rfl) ?_
  refine w_st (fun _ => rfl) ?_
  refine w_st (fun _ => rfl) ?_
  refine w_st (fun _ => rfl) ?_
  refine w_st (fun _ => rfl) ?_
  refine w_st (fun _ => rfl) ?_
  refine w_ivV (as := [_, _, _]) rfl (mg_law _) rfl rfl rfl rfl ?_
  refine (pr_game a1 a2 a3).mono (Nat.le_refl _) ?_
  rintro h2 _ ⟨z, fs, rfl, hg, hm⟩
  refine w_st (fun _ => rfl) ?_
  refine w_st (fun _ => rfl) ?_
  refine w_st (fun _ => rfl) ?_
  refine w_st (fun _ => rfl) ?_
  refine w_st (fun _ => rfl) ?_
  refine w_st (fun _ => rfl) ?_
  refine w_st (fun _ => rfl) ?_
  refine w_st (fun _ => rfl) ?_
  refine w_st (fun _ => rfl) ?_
  refine w_st (fun _ => rfl) ?_
  refine w_st (fun _ => rfl) ?_
  refine w_st (fun _ => rfl) ?_
  refine w_st (fun _ => rfl) ?_
  refine w_st (fun _ => rfl) ?_
  refine w_st (fun _ => rfl) ?_
  refine w_st (fun _ => rfl) ?_
  refine w_ivV (as := [_, _, _]) rfl (mg_law _) rfl rfl hg rfl ?_
  refine hm.mono (Nat.le_refl _) ?_
  rintro h3 _ ⟨rfl, b1, b2⟩
  refine w_icT rfl (decide_eq_true rfl) ?_
  exact p1_end a0 a1 a2 a3 a4 a5 h3 b1 b2
set_option maxRecDepth 20000 in
theorem p1_c20 (a0 a1 a2 a3 a4 a5 : Int32) : mm_W 9 (mc_law [a0, a1, a2, a3, a4, a5]) 862 [some (.ref 1400), some (.ref 0), some (.ref 284), some (.int 0)] [] hM p1_lq := by
  refine w_st (fun _ => rfl) ?_
  refine w_st (fun _ => rfl) ?_
  refine w_st (fun _ => rfl) ?_
  refine w_st (fun _ => rfl) ?_
  refine w_st (fun _ => rfl) ?_
  refine w_st (fun _ => rfl) ?_
  refine w_ivV (as := [_]) rfl (mg_law _) rfl rfl rfl rfl ?_
  refine (pr_tops a1).mono (Nat.le_refl _) ?_
  rintro h2 _ ⟨z, fs, rfl, hg, hm⟩
  refine w_st (fun _ => rfl) ?_
  refine w_st (fun _ => rfl) ?_
  refine w_st (fun _ => rfl) ?_
  refine w_st (fun _ => rfl) ?_
  refine w_st (fun _ => rfl) ?_
  refine w_st (fun _ => rfl) ?_
  refine w_ivV (as := [_]) rfl (mg_law _) rfl rfl hg rfl ?_
  refine hm.mono (Nat.le_refl _) ?_
  rintro h3 _ ⟨rfl, b1, b2⟩
  refine w_icT rfl (decide_eq_true rfl) ?_
  exact p1_end a0 a1 a2 a3 a4 a5 h3 b1 b2
set_option maxRecDepth 20000 in
theorem p1_c21 (a0 a1 a2 a3 a4 a5 : Int32) : mm_W 9 (mc_law [a0, a1, a2, a3, a4, a5]) 885 [some (.ref 1400), some (.ref 0), some (.ref 284), some (.int 0)] [] hM p1_lq := by
  refine w_st (fun _ => rfl) ?_
  refine w_st (fun _ => rfl) ?_
  refine w_st (fun _ => rfl) ?_
  refine w_st (fun _ => rfl) ?_
  refine w_st (fun _ => rfl) ?_
  refine w_st (fun _ => rfl) ?_
  refine w_st (fun _ => rfl) ?_
  refine w_st (fun _ => rfl) ?_
  refine w_st (fun _ => rfl) ?_
  refine w_st (fun _ => rfl) ?_
  refine w_st (fun _ => rfl) ?_
  refine w_ivV (as := [_, _]) rfl (mg_law _) rfl rfl rfl rfl ?_
  refine (pr_beside a1 a2).mono (Nat.le_refl _) ?_
  rintro h2 _ ⟨z, fs, rfl, hg, hm⟩
  refine w_st (fun _ => rfl) ?_
  refine w_st (fun _ => rfl) ?_
  refine w_st (fun _ => rfl) ?_
  refine w_st (fun _ => rfl) ?_
  refine w_st (fun _ => rfl) ?_
  refine w_st (fun _ => rfl) ?_
  refine w_st (fun _ => rfl) ?_
  refine w_st (fun _ => rfl) ?_
  refine w_st (fun _ => rfl) ?_
  refine w_st (fun _ => rfl) ?_
  refine w_st (fun _ => rfl) ?_
  refine w_ivV (as := [_, _]) rfl (mg_law _) rfl rfl hg rfl ?_
  refine hm.mono (Nat.le_refl _) ?_
  rintro h3 _ ⟨rfl, b1, b2⟩
  refine w_icT rfl (decide_eq_true rfl) ?_
  exact p1_end a0 a1 a2 a3 a4 a5 h3 b1 b2
set_option maxRecDepth 20000 in
theorem p1_c22 (a0 a1 a2 a3 a4 a5 : Int32) : mm_W 9 (mc_law [a0, a1, a2, a3, a4, a5]) 918 [some (.ref 1400), some (.ref 0), some (.ref 284), some (.int 0)] [] hM p1_lq := by
  refine w_st (fun _ => rfl) ?_
  refine w_st (fun _ => rfl) ?_
  refine w_st (fun _ => rfl) ?_
  refine w_st (fun _ => rfl) ?_
  refine w_st (fun _ => rfl) ?_
  refine w_st (fun _ => rfl) ?_
  refine w_st (fun _ => rfl) ?_
  refine w_st (fun _ => rfl) ?_
  refine w_st (fun _ => rfl) ?_
  refine w_st (fun _ => rfl) ?_
  refine w_st (fun _ => rfl) ?_
  refine w_ivV (as := [_, _]) rfl (mg_law _) rfl rfl rfl rfl ?_
  refine (pr_alike a1 a2).mono (Nat.le_refl _) ?_
  rintro h2 _ ⟨z, fs, rfl, hg, hm⟩
  refine w_st (fun _ => rfl) ?_
  refine w_st (fun _ => rfl) ?_
  refine w_st (fun _ => rfl) ?_
  refine w_st (fun _ => rfl) ?_
  refine w_st (fun _ => rfl) ?_
  refine w_st (fun _ => rfl) ?_
  refine w_st (fun _ => rfl) ?_
  refine w_st (fun _ => rfl) ?_
  refine w_st (fun _ => rfl) ?_
  refine w_st (fun _ => rfl) ?_
  refine w_st (fun _ => rfl) ?_
  refine w_ivV (as := [_, _]) rfl (mg_law _) rfl rfl hg rfl ?_
  refine hm.mono (Nat.le_refl _) ?_
  rintro h3 _ ⟨rfl, b1, b2⟩
  refine w_icT rfl (decide_eq_true rfl) ?_
  exact p1_end a0 a1 a2 a3 a4 a5 h3 b1 b2
set_option maxRecDepth 20000 in
theorem p1_c23 (a0 a1 a2 a3 a4 a5 : Int32) : mm_W 9 (mc_law [a0, a1, a2, a3, a4, a5]) 951 [some (.ref 1400), some (.ref 0), some (.ref 284), some (.int 0)] [] hM p1_lq := by
  refine w_st (fun _ => rfl) ?_
  refine w_st (fun _ => rfl) ?_
  refine w_st (fun _ => rfl) ?_
  refine w_st (fun _ => rfl) ?_
  refine w_st (fun _ => rfl) ?_
  refine w_st (fun _ => rfl) ?_
  refine w_ivV (as := [_]) rfl (mg_law _) rfl rfl rfl rfl ?_
  refine (pr_looks a1).mono (Nat.le_refl _) ?_
  rintro h2 _ ⟨z, fs, rfl, hg, hm⟩
  refine w_st (fun _ => rfl) ?_
  refine w_st (fun _ => rfl) ?_
  refine w_st (fun _ => rfl) ?_
  refine w_st (fun _ => rfl) ?_
  refine w_st (fun _ => rfl) ?_
  refine w_st (fun _ => rfl) ?_
  refine w_ivV (as := [_]) rfl (mg_law _) rfl rfl hg rfl ?_
  refine hm.mono (Nat.le_refl _) ?_
  rintro h3 _ ⟨rfl, b1, b2⟩
  refine w_icT rfl (decide_eq_true rfl) ?_
  exact p1_end a0 a1 a2 a3 a4 a5 h3 b1 b2
set_option maxRecDepth 20000 in
theorem p1_c24 (a0 a1 a2 a3 a4 a5 : Int32) : mm_W 9 (mc_law [a0, a1, a2, a3, a4, a5]) 974 [some (.ref 1400), some (.ref 0), some (.ref 284), some (.int 0)] [] hM p1_lq := by
  refine w_st (fun _ => rfl) ?_
  refine w_st (fun _ => rfl) ?_
  refine w_st (fun _ => rfl) ?_
  refine w_st (fun _ => rfl) ?_
  refine w_st (fun _ => rfl) ?_
  refine w_st (fun _ => rfl) ?_
  refine w_ivV (as := [_]) rfl (mg_law _) rfl rfl rfl rfl ?_
  refine (pr_mirror a1).mono (Nat.le_refl _) ?_
  rintro h2 _ ⟨z, fs, rfl, hg, hm⟩
  refine w_st (fun _ => rfl) ?_
  refine w_st (fun _ => rfl) ?_
  refine w_st (fun _ => rfl) ?_
  refine w_st (fun _ => rfl) ?_
  refine w_st (fun _ => rfl) ?_
  refine w_st (fun _ => rfl) ?_
  refine w_ivV (as := [_]) rfl (mg_law _) rfl rfl hg rfl ?_
  refine hm.mono (Nat.le_refl _) ?_
  rintro h3 _ ⟨rfl, b1, b2⟩
  refine w_icT rfl (decide_eq_true rfl) ?_
  exact p1_end a0 a1 a2 a3 a4 a5 h3 b1 b2
set_option maxRecDepth 20000 in
theorem p1_c25 (a0 a1 a2 a3 a4 a5 : Int32) : mm_W 9 (mc_law [a0, a1, a2, a3, a4, a5]) 997 [some (.ref 1400), some (.ref 0), some (.ref 284), some (.int 0)] [] hM p1_lq := by
  refine w_st (fun _ => rfl) ?_
  refine w_st (fun _ => rfl) ?_
  refine w_st (fun _ => rfl) ?_
  refine w_st (fun _ => rfl) ?_
  refine w_st (fun _ => rfl) ?_
  refine w_st (fun _ => rfl) ?_
  refine w_st (fun _ => rfl) ?_
  refine w_st (fun _ => rfl) ?_
  refine w_st (fun _ => rfl) ?_
  refine w_st (fun _ => rfl) ?_
  refine w_st (fun _ => rfl) ?_
  refine w_st (fun _ => rfl) ?_
  refine w_st (fun _ => rfl) ?_
  refine w_st (fun _ => rfl) ?_
  refine w_st (fun _ => rfl) ?_
  refine w_st (fun _ => rfl) ?_
  refine w_ivV (as := [_, _, _]) rfl (mg_law _) rfl rfl rfl rfl ?_
  refine (pr_then a1 a2 a3).mono (Nat.le_refl _) ?_
  rintro h2 _ ⟨z, fs, rfl, hg, hm⟩
  refine w_st (fun _ => rfl) ?_
  refine w_st (fun _ => rfl) ?_
  refine w_st (fun _ => rfl) ?_
  refine w_st (fun _ => rfl) ?_
  refine w_st (fun _ => rfl) ?_
  refine w_st (fun _ => rfl) ?_
  refine w_st (fun _ => rfl) ?_
  refine w_st (fun _ => rfl) ?_
  refine w_st (fun _ => rfl) ?_
  refine w_st (fun _ => rfl) ?_
  refine w_st (fun _ => rfl) ?_
  refine w_st (fun _ => rfl) ?_
  refine w_st (fun _ => rfl) ?_
  refine w_st (fun _ => rfl) ?_
  refine w_st (fun _ => rfl) ?_
  refine w_st (fun _ => rfl) ?_
  refine w_ivV (as := [_, _, _]) rfl (mg_law _) rfl rfl hg rfl ?_
  refine hm.mono (Nat.le_refl _) ?_
  rintro h3 _ ⟨rfl, b1, b2⟩
  refine w_icT rfl (decide_eq_true rfl) ?_
  exact p1_end a0 a1 a2 a3 a4 a5 h3 b1 b2
set_option maxRecDepth 20000 in
theorem p1_c26 (a0 a1 a2 a3 a4 a5 : Int32) : mm_W 9 (mc_law [a0, a1, a2, a3, a4, a5]) 1040 [some (.ref 1400), some (.ref 0), some (.ref 284), some (.int 0)] [] hM p1_lq := by
  refine w_st (fun _ => rfl) ?_
  refine w_st (fun _ => rfl) ?_
  refine w_st (fun _ => rfl) ?_
  refine w_st (fun _ => rfl) ?_
  refine w_st (fun _ => rfl) ?_
  refine w_st (fun _ => rfl) ?_
  refine w_st (fun _ => rfl) ?_
  refine w_st (fun _ => rfl) ?_
  refine w_st (fun _ => rfl) ?_
  refine w_st (fun _ => rfl) ?_
  refine w_st (fun _ => rfl) ?_
  refine w_ivV (as := [_, _]) rfl (mg_law _) rfl rfl rfl rfl ?_
  refine (pr_flagIn a1 a2).mono (Nat.le_refl _) ?_
  rintro h2 _ ⟨z, fs, rfl, hg, hm⟩
  refine w_st (fun _ => rfl) ?_
  refine w_st (fun _ => rfl) ?_
  refine w_st (fun _ => rfl) ?_
  refine w_st (fun _ => rfl) ?_
  refine w_st (fun _ => rfl) ?_
  refine w_st (fun _ => rfl) ?_
  refine w_st (fun _ => rfl) ?_
  refine w_st (fun _ => rfl) ?_
  refine w_st (fun _ => rfl) ?_
  refine w_st (fun _ => rfl) ?_
  refine w_st (fun _ => rfl) ?_
  refine w_ivV (as := [_, _]) rfl (mg_law _) rfl rfl hg rfl ?_
  refine hm.mono (Nat.le_refl _) ?_
  rintro h3 _ ⟨rfl, b1, b2⟩
  refine w_icT rfl (decide_eq_true rfl) ?_
  exact p1_end a0 a1 a2 a3 a4 a5 h3 b1 b2
set_option maxRecDepth 20000 in
theorem p1_c27 (a0 a1 a2 a3 a4 a5 : Int32) : mm_W 9 (mc_law [a0, a1, a2, a3, a4, a5]) 1073 [some (.ref 1400), some (.ref 0), some (.ref 284), some (.int 0)] [] hM p1_lq := by
  refine w_st (fun _ => rfl) ?_
  refine w_st (fun _ => rfl) ?_
  refine w_st (fun _ => rfl) ?_
  refine w_st (fun _ => rfl) ?_
  refine w_st (fun _ => rfl) ?_
  refine w_st (fun _ => rfl) ?_
  refine w_ivV (as := [_]) rfl (mg_law _) rfl rfl rfl rfl ?_
  refine (pr_paidIn a1).mono (Nat.le_refl _) ?_
  rintro h2 _ ⟨z, fs, rfl, hg, hm⟩
  refine w_st (fun _ => rfl) ?_
  refine w_st (fun _ => rfl) ?_
  refine w_st (fun _ => rfl) ?_
  refine w_st (fun _ => rfl) ?_
  refine w_st (fun _ => rfl) ?_
  refine w_st (fun _ => rfl) ?_
  refine w_ivV (as := [_]) rfl (mg_law _) rfl rfl hg rfl ?_
  refine hm.mono (Nat.le_refl _) ?_
  rintro h3 _ ⟨rfl, b1, b2⟩
  refine w_icT rfl (decide_eq_true rfl) ?_
  exact p1_end a0 a1 a2 a3 a4 a5 h3 b1 b2
set_option maxRecDepth 20000 in
theorem p1_c28 (a0 a1 a2 a3 a4 a5 : Int32) : mm_W 9 (mc_law [a0, a1, a2, a3, a4, a5]) 1096 [some (.ref 1400), some (.ref 0), some (.ref 284), some (.int 0)] [] hM p1_lq := by
  refine w_st (fun _ => rfl) ?_
  refine w_st (fun _ => rfl) ?_
  refine w_st (fun _ => rfl) ?_
  refine w_st (fun _ => rfl) ?_
  refine w_st (fun _ => rfl) ?_
  refine w_st (fun _ => rfl) ?_
  refine w_st (fun _ => rfl) ?_
  refine w_st (fun _ => rfl) ?_
  refine w_st (fun _ => rfl) ?_
  refine w_st (fun _ => rfl) ?_
  refine w_st (fun _ => rfl) ?_
  refine w_st (fun _ => rfl) ?_
  refine w_st (fun _ => rfl) ?_
  refine w_st (fun _ => rfl) ?_
  refine w_st (fun _ => rfl) ?_
  refine w_st (fun _ => rfl) ?_
  refine w_st (fun _ => rfl) ?_
  refine w_st (fun _ => rfl) ?_
  refine w_st (fun _ => rfl) ?_
  refine w_st (fun _ => rfl) ?_
  refine w_st (fun _ => rfl) ?_
  refine w_ivV (as := [_, _, _, _]) rfl (mg_law _) rfl rfl rfl rfl ?_
  refine (pr_year a1 a2 a3 a4).mono (Nat.le_refl _) ?_
  rintro h2 _ ⟨z, fs, rfl, hg, hm⟩
  refine w_st (fun _ => rfl) ?_
  refine w_st (fun _ => rfl) ?_
  refine w_st (fun _ => rfl) ?_
  refine w_st (fun _ => rfl) ?_
  refine w_st (fun _ => rfl) ?_
  refine w_st (fun _ => rfl) ?_
  refine w_st (fun _ => rfl) ?_
  refine w_st (fun _ => rfl) ?_
  refine w_st (fun _ => rfl) ?_
  refine w_st (fun _ => rfl) ?_
  refine w_st (fun _ => rfl) ?_
  refine w_st (fun _ => rfl) ?_
  refine w_st (fun _ => rfl) ?_
  refine w_st (fun _ => rfl) ?_
  refine w_st (fun _ => rfl) ?_
  refine w_st (fun _ => rfl) ?_
  refine w_st (fun _ => rfl) ?_
  refine w_st (fun _ => rfl) ?_
  refine w_st (fun _ => rfl) ?_
  refine w_st (fun _ => rfl) ?_
  refine w_st (fun _ => rfl) ?_
  refine w_ivV (as := [_, _, _, _]) rfl (mg_law _) rfl rfl hg rfl ?_
  refine hm.mono (Nat.le_refl _) ?_
  rintro h3 _ ⟨rfl, b1, b2⟩
  refine w_icT rfl (decide_eq_true rfl) ?_
  exact p1_end a0 a1 a2 a3 a4 a5 h3 b1 b2
set_option maxRecDepth 20000 in
theorem p1_c29 (a0 a1 a2 a3 a4 a5 : Int32) : mm_W 9 (mc_law [a0, a1, a2, a3, a4, a5]) 1149 [some (.ref 1400), some (.ref 0), some (.ref 284), some (.int 0)] [] hM p1_lq := by
  by_cases q : a3 = 0
  · refine w_st (fun _ => rfl) ?_
    refine w_st (fun _ => rfl) ?_
    refine w_st (fun _ => rfl) ?_
    refine w_st (fun _ => rfl) ?_
    refine w_st (fun _ => rfl) ?_
    refine w_st (fun _ => rfl) ?_
    refine w_st (fun _ => rfl) ?_
    refine w_st (fun _ => rfl) ?_
    refine w_st (fun _ => rfl) ?_
    refine w_st (fun _ => rfl) ?_
    refine w_st (fun _ => rfl) ?_
    refine w_st (fun _ => rfl) ?_
    refine w_st (fun _ => rfl) ?_
    refine w_st (fun _ => rfl) ?_
    refine w_st (fun _ => rfl) ?_
    refine w_st (fun _ => rfl) ?_
    refine w_ifT rfl (decide_eq_true q) ?_
    refine w_st (fun _ => rfl) ?_
    refine w_ivV (as := [_, _, _]) rfl (mg_law _) rfl rfl rfl rfl ?_
    refine (pr_tell a1 a2 0 (by decide)).mono (Nat.le_refl _) ?_
    rintro h2 _ ⟨z, fs, rfl, hg, hm⟩
    refine w_st (fun _ => rfl) ?_
    refine w_st (fun _ => rfl) ?_
    refine w_st (fun _ => rfl) ?_
    refine w_st (fun _ => rfl) ?_
    refine w_st (fun _ => rfl) ?_
    refine w_st (fun _ => rfl) ?_
    refine w_st (fun _ => rfl) ?_
    refine w_st (fun _ => rfl) ?_
    refine w_st (fun _ => rfl) ?_
    refine w_st (fun _ => rfl) ?_
    refine w_st (fun _ => rfl) ?_
    refine w_st (fun _ => rfl) ?_
    refine w_st (fun _ => rfl) ?_
    refine w_st (fun _ => rfl) ?_
    refine w_st (fun _ => rfl) ?_
    refine w_st (fun _ => rfl) ?_
    refine w_ifT rfl (decide_eq_true q) ?_
    refine w_st (fun _ => rfl) ?_
    refine w_ivV (as := [_, _, _]) rfl (mg_law _) rfl rfl hg rfl ?_
    refine hm.mono (Nat.le_refl _) ?_
    rintro h3 _ ⟨rfl, b1, b2⟩
    refine w_icT rfl (decide_eq_true rfl) ?_
    exact p1_end a0 a1 a2 a3 a4 a5 h3 b1 b2
  · refine w_st (fun _ => rfl) ?_
    refine w_st (fun _ => rfl) ?_
    refine w_st (fun _ => rfl) ?_
    refine w_st (fun _ => rfl) ?_
    refine w_st (fun _ => rfl) ?_
    refine w_st (fun _ => rfl) ?_
    refine w_st (fun _ => rfl) ?_
    refine w_st (fun _ => rfl) ?_
    refine w_st (fun _ => rfl) ?_
    refine w_st (fun _ => rfl) ?_
    refine w_st (fun _ => rfl) ?_
    refine w_st (fun _ => rfl) ?_
    refine w_st (fun _ => rfl) ?_
    refine w_st (fun _ => rfl) ?_
    refine w_st (fun _ => rfl) ?_
    refine w_st (fun _ => rfl) ?_
    refine w_ifF rfl (decide_eq_false q) ?_
    refine w_st (fun _ => rfl) ?_
    refine w_st (fun _ => rfl) ?_
    refine w_ivV (as := [_, _, _]) rfl (mg_law _) rfl rfl rfl rfl ?_
    refine (pr_tell a1 a2 1 (by decide)).mono (Nat.le_refl _) ?_
    rintro h2 _ ⟨z, fs, rfl, hg, hm⟩
    refine w_st (fun _ => rfl) ?_
    refine w_st (fun _ => rfl) ?_
    refine w_st (fun _ => rfl) ?_
    refine w_st (fun _ => rfl) ?_
    refine w_st (fun _ => rfl) ?_
    refine w_st (fun _ => rfl) ?_
    refine w_st (fun _ => rfl) ?_
    refine w_st (fun _ => rfl) ?_
    refine w_st (fun _ => rfl) ?_
    refine w_st (fun _ => rfl) ?_
    refine w_st (fun _ => rfl) ?_
    refine w_st (fun _ => rfl) ?_
    refine w_st (fun _ => rfl) ?_
    refine w_st (fun _ => rfl) ?_
    refine w_st (fun _ => rfl) ?_
    refine w_st (fun _ => rfl) ?_
    refine w_ifF rfl (decide_eq_false q) ?_
    refine w_st (fun _ => rfl) ?_
    refine w_st (fun _ => rfl) ?_
    refine w_ivV (as := [_, _, _]) rfl (mg_law _) rfl rfl hg rfl ?_
    refine hm.mono (Nat.le_refl _) ?_
    rintro h3 _ ⟨rfl, b1, b2⟩
    refine w_icT rfl (decide_eq_true rfl) ?_
    exact p1_end a0 a1 a2 a3 a4 a5 h3 b1 b2
set_option maxRecDepth 20000 in
theorem p1_c30 (a0 a1 a2 a3 a4 a5 : Int32) : mm_W 9 (mc_law [a0, a1, a2, a3, a4, a5]) 1208 [some (.ref 1400), some (.ref 0), some (.ref 284), some (.int 0)] [] hM p1_lq := by
  refine w_st (fun _ => rfl) ?_
  refine w_ivV (as := []) rfl (mg_law _) rfl rfl rfl rfl ?_
  refine (p1_t_ok fa_forget).mono (Nat.le_refl _) ?_
  rintro h2 _ ⟨z, fs, rfl, hg, hm⟩
  refine w_st (fun _ => rfl) ?_
  refine w_ivV (as := []) rfl (mg_law _) rfl rfl hg rfl ?_
  refine hm.mono (Nat.le_refl _) ?_
  rintro h3 _ ⟨rfl, b1, b2⟩
  refine w_icT rfl (decide_eq_true rfl) ?_
  exact p1_end a0 a1 a2 a3 a4 a5 h3 b1 b2
set_option maxRecDepth 20000 in
theorem p1_c31 (a0 a1 a2 a3 a4 a5 : Int32) : mm_W 9 (mc_law [a0, a1, a2, a3, a4, a5]) 1221 [some (.ref 1400), some (.ref 0), some (.ref 284), some (.int 0)] [] hM p1_lq := by
  refine w_st (fun _ => rfl) ?_
  refine w_st (fun _ => rfl) ?_
  refine w_st (fun _ => rfl) ?_
  refine w_st (fun _ => rfl) ?_
  refine w_st (fun _ => rfl) ?_
  refine w_st (fun _ => rfl) ?_
  refine w_st (fun _ => rfl) ?_
  refine w_st (fun _ => rfl) ?_
  refine w_st (fun _ => rfl) ?_
  refine w_st (fun _ => rfl) ?_
  refine w_st (fun _ => rfl) ?_
  refine w_st (fun _ => rfl) ?_
  refine w_st (fun _ => rfl) ?_
  refine w_st (fun _ => rfl) ?_
  refine w_st (fun _ => rfl) ?_
  refine w_st (fun _ => rfl) ?_
  refine w_st (fun _ => rfl) ?_
  refine w_st (fun _ => rfl) ?_
  refine w_st (fun _ => rfl) ?_
  refine w_st (fun _ => rfl) ?_
  refine w_st (fun _ => rfl) ?_
  refine w_ivV (as := [_, _, _, _]) rfl (mg_law _) rfl rfl rfl rfl ?_
  refine (pr_rows a1 a2 a3 a4).mono (Nat.le_refl _) ?_
  rintro h2 _ ⟨z, fs, rfl, hg, hm⟩
  refine w_st (fun _ => rfl) ?_
  refine w_st (fun _ => rfl) ?_
  refine w_st (fun _ => rfl) ?_
  refine w_st (fun _ => rfl) ?_
  refine w_st (fun _ => rfl) ?_
  refine w_st (fun _ => rfl) ?_
  refine w_st (fun _ => rfl) ?_
  refine w_st (fun _ => rfl) ?_
  refine w_st (fun _ => rfl) ?_
  refine w_st (fun _ => rfl) ?_
  refine w_st (fun _ => rfl) ?_
  refine w_st (fun _ => rfl) ?_
  refine w_st (fun _ => rfl) ?_
  refine w_st (fun _ => rfl) ?_
  refine w_st (fun _ => rfl) ?_
  refine w_st (fun _ => rfl) ?_
  refine w_st (fun _ => rfl) ?_
  refine w_st (fun _ => rfl) ?_
  refine w_st (fun _ => rfl) ?_
  refine w_st (fun _ => rfl) ?_
  refine w_st (fun _ => rfl) ?_
  refine w_ivV (as := [_, _, _, _]) rfl (mg_law _) rfl rfl hg rfl ?_
  refine hm.mono (Nat.le_refl _) ?_
  rintro h3 _ ⟨rfl, b1, b2⟩
  refine w_icT rfl (decide_eq_true rfl) ?_
  exact p1_end a0 a1 a2 a3 a4 a5 h3 b1 b2
set_option maxRecDepth 20000 in
theorem p1_c32 (a0 a1 a2 a3 a4 a5 : Int32) : mm_W 9 (mc_law [a0, a1, a2, a3, a4, a5]) 1274 [some (.ref 1400), some (.ref 0), some (.ref 284), some (.int 0)] [] hM p1_lq := by
  refine w_st (fun _ => rfl) ?_
  refine w_st (fun _ => rfl) ?_
  refine w_st (fun _ => rfl) ?_
  refine w_st (fun _ => rfl) ?_
  refine w_st (fun _ => rfl) ?_
  refine w_st (fun _ => rfl) ?_
  refine w_st (fun _ => rfl) ?_
  refine w_st (fun _ => rfl) ?_
  refine w_st (fun _ => rfl) ?_
  refine w_st (fun _ => rfl) ?_
  refine w_st (fun _ => rfl) ?_
  refine w_st (fun _ => rfl) ?_
  refine w_st (fun _ => rfl) ?_
  refine w_st (fun _ => rfl) ?_
  refine w_st (fun _ => rfl) ?_
  refine w_st (fun _ => rfl) ?_
  refine w_ivV (as := [_, _, _]) rfl (mg_law _) rfl rfl rfl rfl ?_
  refine (pr_listen a1 a2 a3).mono (Nat.le_refl _) ?_
  rintro h2 _ ⟨z, fs, rfl, hg, hm⟩
  refine w_st (fun _ => rfl) ?_
  refine w_st (fun _ => rfl) ?_
  refine w_st (fun _ => rfl) ?_
  refine w_st (fun _ => rfl) ?_
  refine w_st (fun _ => rfl) ?_
  refine w_st (fun _ => rfl) ?_
  refine w_st (fun _ => rfl) ?_
  refine w_st (fun _ => rfl) ?_
  refine w_st (fun _ => rfl) ?_
  refine w_st (fun _ => rfl) ?_
  refine w_st (fun _ => rfl) ?_
  refine w_st (fun _ => rfl) ?_
  refine w_st (fun _ => rfl) ?_
  refine w_st (fun _ => rfl) ?_
  refine w_st (fun _ => rfl) ?_
  refine w_st (fun _ => rfl) ?_
  refine w_ivV (as := [_, _, _]) rfl (mg_law _) rfl rfl hg rfl ?_
  refine hm.mono (Nat.le_refl _) ?_
  rintro h3 _ ⟨rfl, b1, b2⟩
  refine w_icT rfl (decide_eq_true rfl) ?_
  exact p1_end a0 a1 a2 a3 a4 a5 h3 b1 b2
set_option maxRecDepth 20000 in
theorem p1_c33 (a0 a1 a2 a3 a4 a5 : Int32) : mm_W 9 (mc_law [a0, a1, a2, a3, a4, a5]) 1317 [some (.ref 1400), some (.ref 0), some (.ref 284), some (.int 0)] [] hM p1_lq := by
  refine w_st (fun _ => rfl) ?_
  refine w_st (fun _ => rfl) ?_
  refine w_st (fun _ => rfl) ?_
  refine w_st (fun _ => rfl) ?_
  refine w_st (fun _ => rfl) ?_
  refine w_st (fun _ => rfl) ?_
  refine w_ivV (as := [_]) rfl (mg_law _) rfl rfl rfl rfl ?_
  refine (pr_hold a1).mono (Nat.le_refl _) ?_
  rintro h2 _ ⟨z, fs, rfl, hg, hm⟩
  refine w_st (fun _ => rfl) ?_
  refine w_st (fun _ => rfl) ?_
  refine w_st (fun _ => rfl) ?_
  refine w_st (fun _ => rfl) ?_
  refine w_st (fun _ => rfl) ?_
  refine w_st (fun _ => rfl) ?_
  refine w_ivV (as := [_]) rfl (mg_law _) rfl rfl hg rfl ?_
  refine hm.mono (Nat.le_refl _) ?_
  rintro h3 _ ⟨rfl, b1, b2⟩
  refine w_icT rfl (decide_eq_true rfl) ?_
  exact p1_end a0 a1 a2 a3 a4 a5 h3 b1 b2
set_option maxRecDepth 20000 in
theorem p1_c34 (a0 a1 a2 a3 a4 a5 : Int32) : mm_W 9 (mc_law [a0, a1, a2, a3, a4, a5]) 1340 [some (.ref 1400), some (.ref 0), some (.ref 284), some (.int 0)] [] hM p1_lq := by
  refine w_st (fun _ => rfl) ?_
  refine w_st (fun _ => rfl) ?_
  refine w_st (fun _ => rfl) ?_
  refine w_st (fun _ => rfl) ?_
  refine w_st (fun _ => rfl) ?_
  refine w_st (fun _ => rfl) ?_
  refine w_ivV (as := [_]) rfl (mg_law _) rfl rfl rfl rfl ?_
  refine (pr_restore a1).mono (Nat.le_refl _) ?_
  rintro h2 _ ⟨z, fs, rfl, hg, hm⟩
  refine w_st (fun _ => rfl) ?_
  refine w_st (fun _ => rfl) ?_
  refine w_st (fun _ => rfl) ?_
  refine w_st (fun _ => rfl) ?_
  refine w_st (fun _ => rfl) ?_
  refine w_st (fun _ => rfl) ?_
  refine w_ivV (as := [_]) rfl (mg_law _) rfl rfl hg rfl ?_
  refine hm.mono (Nat.le_refl _) ?_
  rintro h3 _ ⟨rfl, b1, b2⟩
  refine w_icT rfl (decide_eq_true rfl) ?_
  exact p1_end a0 a1 a2 a3 a4 a5 h3 b1 b2
set_option maxRecDepth 20000 in
theorem p1_c35 (a0 a1 a2 a3 a4 a5 : Int32) : mm_W 9 (mc_law [a0, a1, a2, a3, a4, a5]) 1363 [some (.ref 1400), some (.ref 0), some (.ref 284), some (.int 0)] [] hM p1_lq := by
  refine w_st (fun _ => rfl) ?_
  refine w_st (fun _ => rfl) ?_
  refine w_st (fun _ => rfl) ?_
  refine w_st (fun _ => rfl) ?_
  refine w_st (fun _ => rfl) ?_
  refine w_st (fun _ => rfl) ?_
  refine w_ivV (as := [_]) rfl (mg_law _) rfl rfl rfl rfl ?_
  refine (pr_count a1).mono (Nat.le_refl _) ?_
  rintro h2 _ ⟨z, fs, rfl, hg, hm⟩
  refine w_st (fun _ => rfl) ?_
  refine w_st (fun _ => rfl) ?_
  refine w_st (fun _ => rfl) ?_
  refine w_st (fun _ => rfl) ?_
  refine w_st (fun _ => rfl) ?_
  refine w_st (fun _ => rfl) ?_
  refine w_ivV (as := [_]) rfl (mg_law _) rfl rfl hg rfl ?_
  refine hm.mono (Nat.le_refl _) ?_
  rintro h3 _ ⟨rfl, b1, b2⟩
  refine w_icT rfl (decide_eq_true rfl) ?_
  exact p1_end a0 a1 a2 a3 a4 a5 h3 b1 b2
