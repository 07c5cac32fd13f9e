/-- TippedCratesModel.views(IIII)V -/
def P_226 (d : Nat) (m : Mm) (x1 : Int) (x2 : Int) (x3 : Int) (x4 : Int) (Q : Mm → Prop) : Prop :=
  CK d 221 [.ref 284, iv x2, iv x4] m (fun m4 v4 =>
    (((0 : Int) ≤ (wr ((wr (4 * x3)) + x4)) ∧ (wr ((wr (4 * x3)) + x4)) < 96) ∧ (∀ z6_20 : Int, z6_20 = (rd m4 320 (Int.toNat (wr ((wr (4 * x3)) + x4)))) → CK d 219 [.ref 284, iv x2, iv x4] m4 (fun m31 v31 =>
    (∀ m34 : Mm, m34 = wt m31 317 0 v31 → CK d 220 [.ref 284, iv x2, iv x4] m34 (fun m44 v44 =>
    (∀ m47 : Mm, m47 = wt m44 317 1 v44 → (∃ R_69 : Int → Prop,
    ((0 ≤ v4 → (((0 : Int) ≤ v4 ∧ v4 < 51) ∧ R_69 (rd m47 323 (Int.toNat v4)))) ∧
    (¬ 0 ≤ v4 → R_69 0)) ∧
    (∀ (s2_69 : Int) , rg s2_69 → R_69 s2_69 →
    (∀ m69 : Mm, m69 = wt m47 317 2 s2_69 → CK d 227 [.ref 284, iv x1, iv z6_20, iv 0] m69 (fun m80 v80 =>
      (∀ m83 : Mm, m83 = wt m80 317 3 v80 → CK d 227 [.ref 284, iv x1, iv z6_20, iv 1] m83 (fun m94 v94 =>
      (∀ m97 : Mm, m97 = wt m94 317 4 v94 → (((0 : Int) ≤ (wr (46 + x1)) ∧ (wr (46 + x1)) < 51) ∧ (∀ m112 : Mm, m112 = wt m97 317 5 (rd m97 323 (Int.toNat (wr (46 + x1)))) → (∀ m126 : Mm, m126 = wt m112 317 6 (rd m112 323 49) → (∀ m134 : Mm, m134 = wt m126 317 7 x1 → (∀ m143 : Mm, m143 = wt m134 317 8 x4 → Q m143)))))))))))))))))))
set_option maxRecDepth 20000 in
theorem br_226 {d : Nat} {m : Mm} {x1 : Int} {x2 : Int} {x3 : Int} {x4 : Int} {Q : Mm → Prop} (r_x1 : rg x1) (r_x2 : rg x2) (r_x3 : rg x3) (r_x4 : rg x4) (H : P_226 d m x1 x2 x3 x4 Q) : CV (d + 1) 226 [.ref 284, iv x1, iv x2, iv x3, iv x4] m Q := by
  unfold P_226 at H
  refine CV_of rfl ?_
  show mm_W d mc_226 0 [some (.ref 284), some (iv x1), some (iv x2), some (iv x3), some (iv x4), none, none] [] (fm m) (XV Q)
  refine w_st (fun _ => rfl) ?_
  refine w_st (fun _ => rfl) ?_
  refine w_st (fun _ => rfl) ?_
  refine k_VK (as := [iv x2, iv x4]) rfl mg_226 rfl rfl (by decide) rfl rfl H (fun m4 v4 r_v4 H => ?_)
  refine w_st (ls2 := [some (.ref 284), some (iv x1), some (iv x2), some (iv x3), some (iv x4), some (iv v4), none]) (fun _ => rfl) ?_
  refine w_st (fun _ => rfl) ?_
  refine g_284_53 rfl ?_
  refine f_int 4 rfl rfl ?_
  refine w_st (fun _ => rfl) ?_
  refine f_mul rfl ?_
  refine w_st (fun _ => rfl) ?_
  refine f_add rfl ?_
  refine f_ld ir_320 rfl H.1 ?_
  replace H := H.2
  obtain ⟨z6_20, e_z6_20⟩ : ∃ q : Int, q = (rd m4 320 (Int.toNat (wr ((wr (4 * x3)) + x4)))) := ⟨_, rfl⟩
  have r_z6_20 : rg z6_20 := by rw [e_z6_20]; exact (rd_rg _ _ _)
  replace H := H z6_20 e_z6_20
  refine f_nm e_z6_20 ?_
  refine w_st (ls2 := [some (.ref 284), some (iv x1), some (iv x2), some (iv x3), some (iv x4), some (iv v4), some (iv z6_20)]) (fun _ => rfl) ?_
  refine w_st (fun _ => rfl) ?_
  refine g_284_49 rfl ?_
  refine f_int 0 rfl rfl ?_
  refine w_st (fun _ => rfl) ?_
  refine w_st (fun _ => rfl) ?_
  refine w_st (fun _ => rfl) ?_
  refine k_VK (as := [iv x2, iv x4]) rfl mg_226 rfl rfl (by decide) rfl rfl H (fun m31 v31 r_v31 H => ?_)
  obtain ⟨m34, e_m34⟩ : ∃ q : Mm, q = wt m31 317 0 v31 := ⟨_, rfl⟩
  refine f_st ir_317 rfl ⟨by decide, by decide⟩ e_m34 ?_
  replace H := H m34 e_m34
  refine w_st (fun _ => rfl) ?_
  refine g_284_49 rfl ?_
  refine f_int 1 rfl rfl ?_
  refine w_st (fun _ => rfl) ?_
  refine w_st (fun _ => rfl) ?_
  refine w_st (fun _ => rfl) ?_
  refine k_VK (as := [iv x2, iv x4]) rfl mg_226 rfl rfl (by decide) rfl rfl H (fun m44 v44 r_v44 H => ?_)
  obtain ⟨m47, e_m47⟩ : ∃ q : Mm, q = wt m44 317 1 v44 := ⟨_, rfl⟩
  refine f_st ir_317 rfl ⟨by decide, by decide⟩ e_m47 ?_
  replace H := H m47 e_m47
  refine w_st (fun _ => rfl) ?_
  refine g_284_49 rfl ?_
  refine f_int 2 rfl rfl ?_
  refine w_st (fun _ => rfl) ?_
  obtain ⟨R_69, H, HJ_69⟩ := H
  have tl_69 : ∀ (s2_69 : Int) , rg s2_69 → R_69 s2_69 → mm_W d mc_226 69 [some (.ref 284), some (iv x1), some (iv x2), some (iv x3), some (iv x4), some (iv v4), some (iv z6_20)] [iv s2_69, iv 2, .ref 317] (fm m47) (XV Q) := by
    intro s2_69 r_s2_69 hR
    have H := HJ_69 s2_69 r_s2_69 hR
    obtain ⟨m69, e_m69⟩ : ∃ q : Mm, q = wt m47 317 2 s2_69 := ⟨_, rfl⟩
    refine f_st ir_317 rfl ⟨by decide, by decide⟩ e_m69 ?_
    replace H := H m69 e_m69
    refine w_st (fun _ => rfl) ?_
    refine g_284_49 rfl ?_
    refine f_int 3 rfl rfl ?_
    refine w_st (fun _ => rfl) ?_
    refine w_st (fun _ => rfl) ?_
    refine w_st (fun _ => rfl) ?_
    refine f_int 0 rfl rfl ?_
    refine k_VK (as := [iv x1, iv z6_20, iv 0]) rfl mg_226 rfl rfl (by decide) rfl rfl H (fun m80 v80 r_v80 H => ?_)
    obtain ⟨m83, e_m83⟩ : ∃ q : Mm, q = wt m80 317 3 v80 := ⟨_, rfl⟩
    refine f_st ir_317 rfl ⟨by decide, by decide⟩ e_m83 ?_
    replace H := H m83 e_m83
    refine w_st (fun _ => rfl) ?_
    refine g_284_49 rfl ?_
    refine f_int 4 rfl rfl ?_
    refine w_st (fun _ => rfl) ?_
    refine w_st (fun _ => rfl) ?_
    refine w_st (fun _ => rfl) ?_
    refine f_int 1 rfl rfl ?_
    refine k_VK (as := [iv x1, iv z6_20, iv 1]) rfl mg_226 rfl rfl (by decide) rfl rfl H (fun m94 v94 r_v94 H => ?_)
    obtain ⟨m97, e_m97⟩ : ∃ q : Mm, q = wt m94 317 4 v94 := ⟨_, rfl⟩
    refine f_st ir_317 rfl ⟨by decide, by decide⟩ e_m97 ?_
    replace H := H m97 e_m97
    refine w_st (fun _ => rfl) ?_
    refine g_284_49 rfl ?_
    refine f_int 5 rfl rfl ?_
    refine w_st (fun _ => rfl) ?_
    refine g_284_57 rfl ?_
    refine f_int 46 rfl rfl ?_
    refine w_st (fun _ => rfl) ?_
    refine f_add rfl ?_
    refine f_ld ir_323 rfl H.1 ?_
    replace H := H.2
    obtain ⟨m112, e_m112⟩ : ∃ q : Mm, q = wt m97 317 5 (rd m97 323 (Int.toNat (wr (46 + x1)))) := ⟨_, rfl⟩
    refine f_st ir_317 rfl ⟨by decide, by decide⟩ e_m112 ?_
    replace H := H m112 e_m112
    refine w_st (fun _ => rfl) ?_
    refine g_284_49 rfl ?_
    refine f_int 6 rfl rfl ?_
    refine w_st (fun _ => rfl) ?_
    refine g_284_57 rfl ?_
    refine f_int 49 rfl rfl ?_
    refine f_ld ir_323 rfl ⟨by decide, by decide⟩ ?_
    obtain ⟨m126, e_m126⟩ : ∃ q : Mm, q = wt m112 317 6 (rd m112 323 49) := ⟨_, rfl⟩
    refine f_st ir_317 rfl ⟨by decide, by decide⟩ e_m126 ?_
    replace H := H m126 e_m126
    refine w_st (fun _ => rfl) ?_
    refine g_284_49 rfl ?_
    refine f_int 7 rfl rfl ?_
    refine w_st (fun _ => rfl) ?_
    obtain ⟨m134, e_m134⟩ : ∃ q : Mm, q = wt m126 317 7 x1 := ⟨_, rfl⟩
    refine f_st ir_317 rfl ⟨by decide, by decide⟩ e_m134 ?_
    replace H := H m134 e_m134
    refine w_st (fun _ => rfl) ?_
    refine g_284_49 rfl ?_
    refine f_int 8 rfl rfl ?_
    refine w_st (fun _ => rfl) ?_
    obtain ⟨m143, e_m143⟩ : ∃ q : Mm, q = wt m134 317 8 x4 := ⟨_, rfl⟩
    refine f_st ir_317 rfl ⟨by decide, by decide⟩ e_m143 ?_
    replace H := H m143 e_m143
    exact f_ret rfl H
  refine z_ge rfl r_v4 (fun hq => ?_) (fun hq => ?_)
  · replace H := H.1 hq
    refine w_st (fun _ => rfl) ?_
    refine g_284_57 rfl ?_
    refine w_st (fun _ => rfl) ?_
    refine f_ld ir_323 rfl H.1 ?_
    replace H := H.2
    exact tl_69 (rd m47 323 (Int.toNat v4)) (rd_rg _ _ _) H
  · replace H := H.2 hq
    refine f_int 0 rfl rfl ?_
    refine w_st (fun _ => rfl) ?_
    exact tl_69 0 (by unfold rg; decide) H
/-- TippedCratesModel.markAt(III)I -/
def P_227 (d : Nat) (m : Mm) (x1 : Int) (x2 : Int) (x3 : Int) (Q : Mm → Int → Prop) : Prop :=
  (((0 : Int) ≤ (wr ((wr (6 * x2)) + x3)) ∧ (wr ((wr (6 * x2)) + x3)) < 144) ∧ (((0 : Int) ≤ (wr ((wr (25 + (wr (6 * x1)))) + (rd m 319 (Int.toNat (wr ((wr (6 * x2)) + x3)))))) ∧ (wr ((wr (25 + (wr (6 * x1)))) + (rd m 319 (Int.toNat (wr ((wr (6 * x2)) + x3)))))) < 51) ∧ Q m (rd m 323 (Int.toNat (wr ((wr (25 + (wr (6 * x1)))) + (rd m 319 (Int.toNat (wr ((wr (6 * x2)) + x3))))))))))
set_option maxRecDepth 20000 in
theorem br_227 {d : Nat} {m : Mm} {x1 : Int} {x2 : Int} {x3 : Int} {Q : Mm → Int → Prop} (r_x1 : rg x1) (r_x2 : rg x2) (r_x3 : rg x3) (H : P_227 d m x1 x2 x3 Q) : CK (d + 1) 227 [.ref 284, iv x1, iv x2, iv x3] m Q := by
  unfold P_227 at H
  refine CK_of rfl ?_
  show mm_W d mc_227 0 [some (.ref 284), some (iv x1), some (iv x2), some (iv x3)] [] (fm m) (XK Q)
  refine w_st (fun _ => rfl) ?_
  refine g_284_57 rfl ?_
  refine f_int 25 rfl rfl ?_
  refine f_int 6 rfl rfl ?_
  refine w_st (fun _ => rfl) ?_
  refine f_mul rfl ?_
  refine f_add rfl ?_
  refine w_st (fun _ => rfl) ?_
  refine g_284_52 rfl ?_
  refine f_int 6 rfl rfl ?_
  refine w_st (fun _ => rfl) ?_
  refine f_mul rfl ?_
  refine w_st (fun _ => rfl) ?_
  refine f_add rfl ?_
  refine f_ld ir_319 rfl H.1 ?_
  replace H := H.2
  refine f_add rfl ?_
  refine f_ld ir_323 rfl H.1 ?_
  replace H := H.2
  exact f_iret rfl (rd_rg _ _ _) H
/-- TippedCratesModel.costsAt(IIII)I -/
def P_228 (d : Nat) (m : Mm) (x1 : Int) (x2 : Int) (x3 : Int) (x4 : Int) (Q : Mm → Int → Prop) : Prop :=
  CV d 226 [.ref 284, iv x1, iv x2, iv x3, iv x4] m (fun m6 =>
    CK d 225 [.ref 284, iv 2, iv 1] m6 (fun m12 v12 =>
    CK d 207 [iv v12, iv 0, iv 99] m12 (fun m18 v18 =>
    Q m18 v18)))
set_option maxRecDepth 20000 in
theorem br_228 {d : Nat} {m : Mm} {x1 : Int} {x2 : Int} {x3 : Int} {x4 : Int} {Q : Mm → Int → Prop} (r_x1 : rg x1) (r_x2 : rg x2) (r_x3 : rg x3) (r_x4 : rg x4) (H : P_228 d m x1 x2 x3 x4 Q) : CK (d + 1) 228 [.ref 284, iv x1, iv x2, iv x3, iv x4] m Q := by
  unfold P_228 at H
  refine CK_of rfl ?_
  show mm_W d mc_228 0 [some (.ref 284), some (iv x1), some (iv x2), some (iv x3), some (iv x4)] [] (fm m) (XK Q)
  refine w_st (fun _ => rfl) ?_
  refine w_st (fun _ => rfl) ?_
  refine w_st (fun _ => rfl) ?_
  refine w_st (fun _ => rfl) ?_
  refine w_st (fun _ => rfl) ?_
  refine k_VV (as := [iv x1, iv x2, iv x3, iv x4]) rfl mg_228 rfl rfl (by decide) rfl rfl H (fun m6 H => ?_)
  refine w_st (fun _ => rfl) ?_
  refine f_int 2 rfl rfl ?_
  refine f_int 1 rfl rfl ?_
  refine k_VK (as := [iv 2, iv 1]) rfl mg_228 rfl rfl (by decide) rfl rfl H (fun m12 v12 r_v12 H => ?_)
  refine f_int 0 rfl rfl ?_
  refine f_int 99 rfl rfl ?_
  refine k_SK (as := [iv v12, iv 0, iv 99]) rfl mg_228 rfl rfl rfl H (fun m18 v18 r_v18 H => ?_)
  exact f_iret rfl r_v18 H
/-- TippedCratesModel.costsOf(II)I -/
def P_229 (d : Nat) (m : Mm) (x1 : Int) (x2 : Int) (Q : Mm → Int → Prop) : Prop :=
  (((0 : Int) ≤ (wr (43 + x1)) ∧ (wr (43 + x1)) < 51) ∧ CK d 228 [.ref 284, iv x1, iv (rd m 323 (Int.toNat (wr (43 + x1)))), iv 0, iv x2] m (fun m13 v13 =>
    Q m13 v13))
set_option maxRecDepth 20000 in
theorem br_229 {d : Nat} {m : Mm} {x1 : Int} {x2 : Int} {Q : Mm → Int → Prop} (r_x1 : rg x1) (r_x2 : rg x2) (H : P_229 d m x1 x2 Q) : CK (d + 1) 229 [.ref 284, iv x1, iv x2] m Q := by
  unfold P_229 at H
  refine CK_of rfl ?_
  show mm_W d mc_229 0 [some (.ref 284), some (iv x1), some (iv x2)] [] (fm m) (XK Q)
  refine w_st (fun _ => rfl) ?_
  refine w_st (fun _ => rfl) ?_
  refine w_st (fun _ => rfl) ?_
  refine g_284_57 rfl ?_
  refine f_int 43 rfl rfl ?_
  refine w_st (fun _ => rfl) ?_
  refine f_add rfl ?_
  refine f_ld ir_323 rfl H.1 ?_
  replace H := H.2
  refine f_int 0 rfl rfl ?_
  refine w_st (fun _ => rfl) ?_
  refine k_VK (as := [iv x1, iv (rd m 323 (Int.toNat (wr (43 + x1)))), iv 0, iv x2]) rfl mg_229 rfl rfl (by decide) rfl rfl H (fun m13 v13 r_v13 H => ?_)
  exact f_iret rfl r_v13 H
/-- TippedCratesModel.doesPrint(II)Z -/
def P_230 (d : Nat) (m : Mm) (x1 : Int) (x2 : Int) (Q : Mm → Int → Prop) : Prop :=
  (((0 : Int) ≤ (wr (43 + x1)) ∧ (wr (43 + x1)) < 51) ∧ CV d 226 [.ref 284, iv x1, iv (rd m 323 (Int.toNat (wr (43 + x1)))), iv 0, iv x2] m (fun m13 =>
    CK d 225 [.ref 284, iv 0, iv 1] m13 (fun m19 v19 =>
    (∃ R_30 : Int → Prop,
    ((v19 ≤ 0 → R_30 0) ∧
    (¬ v19 ≤ 0 → R_30 1)) ∧
    (∀ (s0_30 : Int) , rg s0_30 → R_30 s0_30 →
    ((s0_30 = 0 ∨ s0_30 = 1) ∧ Q m19 s0_30))))))
set_option maxRecDepth 20000 in
theorem br_230 {d : Nat} {m : Mm} {x1 : Int} {x2 : Int} {Q : Mm → Int → Prop} (r_x1 : rg x1) (r_x2 : rg x2) (H : P_230 d m x1 x2 Q) : CK (d + 1) 230 [.ref 284, iv x1, iv x2] m Q := by
  unfold P_230 at H
  refine CK_of rfl ?_
  show mm_W d mc_230 0 [some (.ref 284), some (iv x1), some (iv x2)] [] (fm m) (XK Q)
  refine w_st (fun _ => rfl) ?_
  refine w_st (fun _ => rfl) ?_
  refine w_st (fun _ => rfl) ?_
  refine g_284_57 rfl ?_
  refine f_int 43 rfl rfl ?_
  refine w_st (fun _ => rfl) ?_
  refine f_add rfl ?_
  refine f_ld ir_323 rfl H.1 ?_
  replace H := H.2
  refine f_int 0 rfl rfl ?_
  refine w_st (fun _ => rfl) ?_
  refine k_VV (as := [iv x1, iv (rd m 323 (Int.toNat (wr (43 + x1)))), iv 0, iv x2]) rfl mg_230 rfl rfl (by decide) rfl rfl H (fun m13 H => ?_)
  refine w_st (fun _ => rfl) ?_
  refine f_int 0 rfl rfl ?_
  refine f_int 1 rfl rfl ?_
  refine k_VK (as := [iv 0, iv 1]) rfl mg_230 rfl rfl (by decide) rfl rfl H (fun m19 v19 r_v19 H => ?_)
  obtain ⟨R_30, H, HJ_30⟩ := H
  have tl_30 : ∀ (s0_30 : Int) , rg s0_30 → R_30 s0_30 → mm_W d mc_230 30 [some (.ref 284), some (iv x1), some (iv x2)] [iv s0_30] (fm m19) (XK Q) := by
    intro s0_30 r_s0_30 hR
    have H := HJ_30 s0_30 r_s0_30 hR
    exact f_zret rfl r_s0_30 H.1 H.2
  refine z_le rfl r_v19 (fun hq => ?_) (fun hq => ?_)
  · replace H := H.1 hq
    refine f_int 0 rfl rfl ?_
    exact tl_30 0 (by unfold rg; decide) H
  · replace H := H.2 hq
    refine f_int 1 rfl rfl ?_
    refine w_st (fun _ => rfl) ?_
    exact tl_30 1 (by unfold rg; decide) H
/-- TippedCratesModel.doesTake(II)Z -/
def P_231 (d : Nat) (m : Mm) (x1 : Int) (x2 : Int) (Q : Mm → Int → Prop) : Prop :=
  (((0 : Int) ≤ (wr (43 + x1)) ∧ (wr (43 + x1)) < 51) ∧ CV d 226 [.ref 284, iv x1, iv (rd m 323 (Int.toNat (wr (43 + x1)))), iv 0, iv x2] m (fun m13 =>
    CK d 225 [.ref 284, iv 1, iv 0] m13 (fun m19 v19 =>
    (∃ R_30 : Int → Prop,
    ((v19 ≤ 0 → R_30 0) ∧
    (¬ v19 ≤ 0 → R_30 1)) ∧
    (∀ (s0_30 : Int) , rg s0_30 → R_30 s0_30 →
    ((s0_30 = 0 ∨ s0_30 = 1) ∧ Q m19 s0_30))))))
set_option maxRecDepth 20000 in
theorem br_231 {d : Nat} {m : Mm} {x1 : Int} {x2 : Int} {Q : Mm → Int → Prop} (r_x1 : rg x1) (r_x2 : rg x2) (H : P_231 d m x1 x2 Q) : CK (d + 1) 231 [.ref 284, iv x1, iv x2] m Q := by
  unfold P_231 at H
  refine CK_of rfl ?_
  show mm_W d mc_231 0 [some (.ref 284), some (iv x1), some (iv x2)] [] (fm m) (XK Q)
  refine w_st (fun _ => rfl) ?_
  refine w_st (fun _ => rfl) ?_
  refine w_st (fun _ => rfl) ?_
  refine g_284_57 rfl ?_
  refine f_int 43 rfl rfl ?_
  refine w_st (fun _ => rfl) ?_
  refine f_add rfl ?_
  refine f_ld ir_323 rfl H.1 ?_
  replace H := H.2
  refine f_int 0 rfl rfl ?_
  refine w_st (fun _ => rfl) ?_
  refine k_VV (as := [iv x1, iv (rd m 323 (Int.toNat (wr (43 + x1)))), iv 0, iv x2]) rfl mg_231 rfl rfl (by decide) rfl rfl H (fun m13 H => ?_)
  refine w_st (fun _ => rfl) ?_
  refine f_int 1 rfl rfl ?_
  refine f_int 0 rfl rfl ?_
  refine k_VK (as := [iv 1, iv 0]) rfl mg_231 rfl rfl (by decide) rfl rfl H (fun m19 v19 r_v19 H => ?_)
  obtain ⟨R_30, H, HJ_30⟩ := H
  have tl_30 : ∀ (s0_30 : Int) , rg s0_30 → R_30 s0_30 → mm_W d mc_231 30 [some (.ref 284), some (iv x1), some (iv x2)] [iv s0_30] (fm m19) (XK Q) := by
    intro s0_30 r_s0_30 hR
    have H := HJ_30 s0_30 r_s0_30 hR
    exact f_zret rfl r_s0_30 H.1 H.2
  refine z_le rfl r_v19 (fun hq => ?_) (fun hq => ?_)
  · replace H := H.1 hq
    refine f_int 0 rfl rfl ?_
    exact tl_30 0 (by unfold rg; decide) H
  · replace H := H.2 hq
    refine f_int 1 rfl rfl ?_
    refine w_st (fun _ => rfl) ?_
    exact tl_30 1 (by unfold rg; decide) H
/-- TippedCratesModel.slipsOf(II)I -/
def P_232 (d : Nat) (m : Mm) (x1 : Int) (x2 : Int) (Q : Mm → Int → Prop) : Prop :=
  (((0 : Int) ≤ (wr (43 + x1)) ∧ (wr (43 + x1)) < 51) ∧ CV d 226 [.ref 284, iv x1, iv (rd m 323 (Int.toNat (wr (43 + x1)))), iv 0, iv x2] m (fun m13 =>
    CK d 225 [.ref 284, iv 3, iv 0] m13 (fun m19 v19 =>
    CK d 207 [iv v19, iv 0, iv 100] m19 (fun m25 v25 =>
    Q m25 v25))))
set_option maxRecDepth 20000 in
theorem br_232 {d : Nat} {m : Mm} {x1 : Int} {x2 : Int} {Q : Mm → Int → Prop} (r_x1 : rg x1) (r_x2 : rg x2) (H : P_232 d m x1 x2 Q) : CK (d + 1) 232 [.ref 284, iv x1, iv x2] m Q := by
  unfold P_232 at H
  refine CK_of rfl ?_
  show mm_W d mc_232 0 [some (.ref 284), some (iv x1), some (iv x2)] [] (fm m) (XK Q)
  refine w_st (fun _ => rfl) ?_
  refine w_st (fun _ => rfl) ?_
  refine w_st (fun _ => rfl) ?_
  refine g_284_57 rfl ?_
  refine f_int 43 rfl rfl ?_
  refine w_st (fun _ => rfl) ?_
  refine f_add rfl ?_
  refine f_ld ir_323 rfl H.1 ?_
  replace H := H.2
  refine f_int 0 rfl rfl ?_
  refine w_st (fun _ => rfl) ?_
  refine k_VV (as := [iv x1, iv (rd m 323 (Int.toNat (wr (43 + x1)))), iv 0, iv x2]) rfl mg_232 rfl rfl (by decide) rfl rfl H (fun m13 H => ?_)
  refine w_st (fun _ => rfl) ?_
  refine f_int 3 rfl rfl ?_
  refine f_int 0 rfl rfl ?_
  refine k_VK (as := [iv 3, iv 0]) rfl mg_232 rfl rfl (by decide) rfl rfl H (fun m19 v19 r_v19 H => ?_)
  refine f_int 0 rfl rfl ?_
  refine f_int 100 rfl rfl ?_
  refine k_SK (as := [iv v19, iv 0, iv 100]) rfl mg_232 rfl rfl rfl H (fun m25 v25 r_v25 H => ?_)
  exact f_iret rfl r_v25 H
/-- TippedCratesModel.tips(II)V -/
def P_233 (d : Nat) (m : Mm) (x1 : Int) (x2 : Int) (Q : Mm → Prop) : Prop :=
  CK d 229 [.ref 284, iv x1, iv x2] m (fun m3 v3 =>
    CK d 230 [.ref 284, iv x1, iv x2] m3 (fun m10 v10 =>
    CK d 231 [.ref 284, iv x1, iv x2] m10 (fun m18 v18 =>
    (∃ (I_26 : Int → Mm → Prop) (mu_26 : Int → Mm → Nat), I_26 0 m18 ∧
    ∀ (x6_26 : Int) (m_26 : Mm), rg x6_26 → I_26 x6_26 m_26 →
    ((6 ≤ x6_26 → (∃ (I_68 : Int → Mm → Prop) (mu_68 : Int → Mm → Nat), I_68 0 m_26 ∧
          ∀ (x6_68 : Int) (m_68 : Mm), rg x6_68 → I_68 x6_68 m_68 →
          ((6 ≤ x6_68 → (((0 : Int) ≤ (wr (43 + x1)) ∧ (wr (43 + x1)) < 51) ∧ CK d 221 [.ref 284, iv (rd m_68 323 (Int.toNat (wr (43 + x1)))), iv x2] m_68 (fun m114 v114 =>
                (((0 : Int) ≤ (wr (43 + x1)) ∧ (wr (43 + x1)) < 51) ∧ (∀ m129 : Mm, m129 = wt m114 323 (Int.toNat (wr (43 + x1))) v114 → (((0 : Int) ≤ (wr (46 + x1)) ∧ (wr (46 + x1)) < 51) ∧ (((0 : Int) ≤ (wr (46 + x1)) ∧ (wr (46 + x1)) < 51) ∧ (∀ m142 : Mm, m142 = wt m129 323 (Int.toNat (wr (46 + x1))) (wr ((rd m129 323 (Int.toNat (wr (46 + x1)))) + 1)) → (∀ m153 : Mm, m153 = wt m142 323 50 (wr ((rd m142 323 50) + v3)) → (∃ R_205 : Mm → Prop,
                ((v10 = 0 → ((v18 = 0 → R_205 m153) ∧
                  (¬ v18 = 0 → (((0 : Int) ≤ v114 ∧ v114 < 51) ∧ (((0 : Int) ≤ (wr (26 + (wr (6 * x1)))) ∧ (wr (26 + (wr (6 * x1)))) < 51) ∧ (∀ m204 : Mm, m204 = wt m153 323 (Int.toNat (wr (26 + (wr (6 * x1))))) (rd m153 323 (Int.toNat v114)) → R_205 m204)))))) ∧
                (¬ v10 = 0 → (((0 : Int) ≤ (wr (26 + (wr (6 * x1)))) ∧ (wr (26 + (wr (6 * x1)))) < 51) ∧ (((0 : Int) ≤ v114 ∧ v114 < 51) ∧ (∀ m177 : Mm, m177 = wt m153 323 (Int.toNat v114) (rd m153 323 (Int.toNat (wr (26 + (wr (6 * x1)))))) → R_205 m177))))) ∧
                (∀ (m_205 : Mm), R_205 m_205 →
                Q m_205))))))))))) ∧
              (¬ 6 ≤ x6_68 → (((0 : Int) ≤ x6_68 ∧ x6_68 < 6) ∧ (((0 : Int) ≤ (wr ((wr (25 + (wr (6 * x1)))) + x6_68)) ∧ (wr ((wr (25 + (wr (6 * x1)))) + x6_68)) < 51) ∧ (∀ m96 : Mm, m96 = wt m_68 323 (Int.toNat (wr ((wr (25 + (wr (6 * x1)))) + x6_68))) (rd m_68 321 (Int.toNat x6_68)) → (∀ z6_97 : Int, z6_97 = wr (x6_68 + 1) → (I_68 z6_97 m96 ∧ mu_68 z6_97 m96 < mu_68 x6_68 m_68))))))))) ∧
        (¬ 6 ≤ x6_26 → CK d 202 [iv x2, iv x6_26] m_26 (fun m53 v53 =>
          (((0 : Int) ≤ (wr ((wr (25 + (wr (6 * x1)))) + v53)) ∧ (wr ((wr (25 + (wr (6 * x1)))) + v53)) < 51) ∧ (((0 : Int) ≤ x6_26 ∧ x6_26 < 6) ∧ (∀ m58 : Mm, m58 = wt m53 321 (Int.toNat x6_26) (rd m53 323 (Int.toNat (wr ((wr (25 + (wr (6 * x1)))) + v53)))) → (∀ z6_59 : Int, z6_59 = wr (x6_26 + 1) → (I_26 z6_59 m58 ∧ mu_26 z6_59 m58 < mu_26 x6_26 m_26))))))))))))
set_option maxRecDepth 20000 in
theorem br_233 {d : Nat} {m : Mm} {x1 : Int} {x2 : Int} {Q : Mm → Prop} (r_x1 : rg x1) (r_x2 : rg x2) (H : P_233 d m x1 x2 Q) : CV (d + 1) 233 [.ref 284, iv x1, iv x2] m Q := by
  unfold P_233 at H
  refine CV_of rfl ?_
  show mm_W d mc_233 0 [some (.ref 284), some (iv x1), some (iv x2), none, none, none, none] [] (fm m) (XV Q)
  refine w_st (fun _ => rfl) ?_
  refine w_st (fun _ => rfl) ?_
  refine w_st (fun _ => rfl) ?_
  refine k_VK (as := [iv x1, iv x2]) rfl mg_233 rfl rfl (by decide) rfl rfl H (fun m3 v3 r_v3 H => ?_)
  refine w_st (ls2 := [some (.ref 284), some (iv x1), some (iv x2), some (iv v3), none, none, none]) (fun _ => rfl) ?_
  refine w_st (fun _ => rfl) ?_
  refine w_st (fun _ => rfl) ?_
  refine w_st (fun _ => rfl) ?_
  refine k_VK (as := [iv x1, iv x2]) rfl mg_233 rfl rfl (by decide) rfl rfl H (fun m10 v10 r_v10 H => ?_)
  refine w_st (ls2 := [some (.ref 284), some (iv x1), some (iv x2), some (iv v3), some (iv v10), none, none]) (fun _ => rfl) ?_
  refine w_st (fun _ => rfl) ?_
  refine w_st (fun _ => rfl) ?_
  refine w_st (fun _ => rfl) ?_
  refine k_VK (as := [iv x1, iv x2]) rfl mg_233 rfl rfl (by decide) rfl rfl H (fun m18 v18 r_v18 H => ?_)
  refine w_st (ls2 := [some (.ref 284), some (iv x1), some (iv x2), some (iv v3), some (iv v10), some (iv v18), none]) (fun _ => rfl) ?_
  refine f_int 0 rfl rfl ?_
  refine w_st (ls2 := [some (.ref 284), some (iv x1), some (iv x2), some (iv v3), some (iv v10), some (iv v18), some (iv 0)]) (fun _ => rfl) ?_
  obtain ⟨I_26, mu_26, H0_26, HB_26⟩ := H
  have lp_26 : ∀ (z : Nat) (x6_26 : Int) (m_26 : Mm), mu_26 x6_26 m_26 < z → rg x6_26 → I_26 x6_26 m_26 → mm_W d mc_233 26 [some (.ref 284), some (iv x1), some (iv x2), some (iv v3), some (iv v10), some (iv v18), some (iv x6_26)] [] (fm m_26) (XV Q) := by
    intro z
    induction z with
    | zero => intro x6_26 m_26 hz; exact absurd hz (Nat.not_lt_zero _)
    | succ z ih_26 =>
      intro x6_26 m_26 hz_26 r_x6_26 hI
      have H := HB_26 x6_26 m_26 r_x6_26 hI
      refine w_st (fun _ => rfl) ?_
      refine f_int 6 rfl rfl ?_
      refine b_ge rfl r_x6_26 (by unfold rg; decide) (fun hq => ?_) (fun hq => ?_)
      · replace H := H.1 hq
        refine f_int 0 rfl rfl ?_
        refine w_st (ls2 := [some (.ref 284), some (iv x1), some (iv x2), some (iv v3), some (iv v10), some (iv v18), some (iv 0)]) (fun _ => rfl) ?_
        obtain ⟨I_68, mu_68, H0_68, HB_68⟩ := H
        have lp_68 : ∀ (z : Nat) (x6_68 : Int) (m_68 : Mm), mu_68 x6_68 m_68 < z → rg x6_68 → I_68 x6_68 m_68 → mm_W d mc_233 68 [some (.ref 284), some (iv x1), some (iv x2), some (iv v3), some (iv v10), some (iv v18), some (iv x6_68)] [] (fm m_68) (XV Q) := by
          intro z
          induction z with
          | zero => intro x6_68 m_68 hz; exact absurd hz (Nat.not_lt_zero _)
          | succ z ih_68 =>
            intro x6_68 m_68 hz_68 r_x6_68 hI
            have H := HB_68 x6_68 m_68 r_x6_68 hI
            refine w_st (fun _ => rfl) ?_
            refine f_int 6 rfl rfl ?_
            refine b_ge rfl r_x6_68 (by unfold rg; decide) (fun hq => ?_) (fun hq => ?_)
            · replace H := H.1 hq
              refine w_st (fun _ => rfl) ?_
              refine w_st (fun _ => rfl) ?_
              refine g_284_57 rfl ?_
              refine f_int 43 rfl rfl ?_
              refine w_st (fun _ => rfl) ?_
              refine f_add rfl ?_
              refine f_ld ir_323 rfl H.1 ?_
              replace H := H.2
              refine w_st (fun _ => rfl) ?_
              refine k_VK (as := [iv (rd m_68 323 (Int.toNat (wr (43 + x1)))), iv x2]) rfl mg_233 rfl rfl (by decide) rfl rfl H (fun m114 v114 r_v114 H => ?_)
              refine w_st (ls2 := [some (.ref 284), some (iv x1), some (iv x2), some (iv v3), some (iv v10), some (iv v18), some (iv v114)]) (fun _ => rfl) ?_
              refine w_st (fun _ => rfl) ?_
              refine g_284_57 rfl ?_
              refine f_int 43 rfl rfl ?_
              refine w_st (fun _ => rfl) ?_
              refine f_add rfl ?_
              refine w_st (fun _ => rfl) ?_
              obtain ⟨m129, e_m129⟩ : ∃ q : Mm, q = wt m114 323 (Int.toNat (wr (43 + x1))) v114 := ⟨_, rfl⟩
              refine f_st ir_323 rfl H.1 e_m129 ?_
              replace H := H.2 m129 e_m129
              refine w_st (fun _ => rfl) ?_
              refine g_284_57 rfl ?_
              refine f_int 46 rfl rfl ?_
              refine w_st (fun _ => rfl) ?_
              refine f_add rfl ?_
              refine w_st (fun _ => rfl) ?_
              refine f_ld ir_323 rfl H.1 ?_
              replace H := H.2
              refine f_int 1 rfl rfl ?_
              refine f_add rfl ?_
              obtain ⟨m142, e_m142⟩ : ∃ q : Mm, q = wt m129 323 (Int.toNat (wr (46 + x1))) (wr ((rd m129 323 (Int.toNat (wr (46 + x1)))) + 1)) := ⟨_, rfl⟩
              refine f_st ir_323 rfl H.1 e_m142 ?_
              replace H := H.2 m142 e_m142
              refine w_st (fun _ => rfl) ?_
              refine g_284_57 rfl ?_
              refine f_int 50 rfl rfl ?_
              refine w_st (fun _ => rfl) ?_
              refine f_ld ir_323 rfl ⟨by decide, by decide⟩ ?_
              refine w_st (fun _ => rfl) ?_
              refine f_add rfl ?_
              obtain ⟨m153, e_m153⟩ : ∃ q : Mm, q = wt m142 323 50 (wr ((rd m142 323 50) + v3)) := ⟨_, rfl⟩
              refine f_st ir_323 rfl ⟨by decide, by decide⟩ e_m153 ?_
              replace H := H m153 e_m153
              refine w_st (fun _ => rfl) ?_
              obtain ⟨R_205, H, HJ_205⟩ := H
              have tl_205 : ∀ (m_205 : Mm), R_205 m_205 → mm_W d mc_233 205 [some (.ref 284), some (iv x1), some (iv x2), some (iv v3), some (iv v10), some (iv v18), some (iv v114)] [] (fm m_205) (XV Q) := by
                intro m_205  hR
                have H := HJ_205 m_205  hR
                exact f_ret rfl H
              refine z_eq rfl r_v10 (fun hq => ?_) (fun hq => ?_)
              · replace H := H.1 hq
                refine w_st (fun _ => rfl) ?_
                refine z_eq rfl r_v18 (fun hq => ?_) (fun hq => ?_)
                · replace H := H.1 hq
                  exact tl_205 m153  H
                · replace H := H.2 hq
                  refine w_st (fun _ => rfl) ?_
                  refine g_284_57 rfl ?_
                  refine f_int 26 rfl rfl ?_
                  refine f_int 6 rfl rfl ?_
                  refine w_st (fun _ => rfl) ?_
                  refine f_mul rfl ?_
                  refine f_add rfl ?_
                  refine w_st (fun _ => rfl) ?_
                  refine g_284_57 rfl ?_
                  refine w_st (fun _ => rfl) ?_
                  refine f_ld ir_323 rfl H.1 ?_
                  replace H := H.2
                  obtain ⟨m204, e_m204⟩ : ∃ q : Mm, q = wt m153 323 (Int.toNat (wr (26 + (wr (6 * x1))))) (rd m153 323 (Int.toNat v114)) := ⟨_, rfl⟩
                  refine f_st ir_323 rfl H.1 e_m204 ?_
                  replace H := H.2 m204 e_m204
                  exact tl_205 m204  H
              · replace H := H.2 hq
                refine w_st (fun _ => rfl) ?_
                refine g_284_57 rfl ?_
                refine w_st (fun _ => rfl) ?_
                refine w_st (fun _ => rfl) ?_
                refine g_284_57 rfl ?_
                refine f_int 26 rfl rfl ?_
                refine f_int 6 rfl rfl ?_
                refine w_st (fun _ => rfl) ?_
                refine f_mul rfl ?_
                refine f_add rfl ?_
                refine f_ld ir_323 rfl H.1 ?_
                replace H := H.2
                obtain ⟨m177, e_m177⟩ : ∃ q : Mm, q = wt m153 323 (Int.toNat v114) (rd m153 323 (Int.toNat (wr (26 + (wr (6 * x1)))))) := ⟨_, rfl⟩
                refine f_st ir_323 rfl H.1 e_m177 ?_
                replace H := H.2 m177 e_m177
                refine w_st (fun _ => rfl) ?_
                exact tl_205 m177  H
            · replace H := H.2 hq
              refine w_st (fun _ => rfl) ?_
              refine g_284_57 rfl ?_
              refine f_int 25 rfl rfl ?_
              refine f_int 6 rfl rfl ?_
              refine w_st (fun _ => rfl) ?_
              refine f_mul rfl ?_
              refine f_add rfl ?_
              refine w_st (fun _ => rfl) ?_
              refine f_add rfl ?_
              refine w_st (fun _ => rfl) ?_
              refine g_284_54 rfl ?_
              refine w_st (fun _ => rfl) ?_
              refine f_ld ir_321 rfl H.1 ?_
              replace H := H.2
              obtain ⟨m96, e_m96⟩ : ∃ q : Mm, q = wt m_68 323 (Int.toNat (wr ((wr (25 + (wr (6 * x1)))) + x6_68))) (rd m_68 321 (Int.toNat x6_68)) := ⟨_, rfl⟩
              refine f_st ir_323 rfl H.1 e_m96 ?_
              replace H := H.2 m96 e_m96
              obtain ⟨z6_97, e_z6_97⟩ : ∃ q : Int, q = wr (x6_68 + 1) := ⟨_, rfl⟩
              have r_z6_97 : rg z6_97 := by rw [e_z6_97]; exact wr_rg _
              replace H := H z6_97 e_z6_97
              refine f_iinc (ls2 := [some (.ref 284), some (iv x1), some (iv x2), some (iv v3), some (iv v10), some (iv v18), some (iv z6_97)]) 1 rfl rfl rfl e_z6_97 rfl ?_
              refine w_st (fun _ => rfl) ?_
              exact ih_68 z6_97 m96 (Nat.lt_of_lt_of_le H.2 (Nat.le_of_lt_succ hz_68)) r_z6_97 H.1
        exact lp_68 _ 0 m_26 (Nat.lt_succ_self _) (by unfold rg; decide) H0_68
      · replace H := H.2 hq
        refine w_st (fun _ => rfl) ?_
        refine g_284_54 rfl ?_
        refine w_st (fun _ => rfl) ?_
        refine w_st (fun _ => rfl) ?_
        refine g_284_57 rfl ?_
        refine f_int 25 rfl rfl ?_
        refine f_int 6 rfl rfl ?_
        refine w_st (fun _ => rfl) ?_
        refine f_mul rfl ?_
        refine f_add rfl ?_
        refine w_st (fun _ => rfl) ?_
        refine w_st (fun _ => rfl) ?_
        refine k_SK (as := [iv x2, iv x6_26]) rfl mg_233 rfl rfl rfl H (fun m53 v53 r_v53 H => ?_)
        refine f_add rfl ?_
        refine f_ld ir_323 rfl H.1 ?_
        replace H := H.2
        obtain ⟨m58, e_m58⟩ : ∃ q : Mm, q = wt m53 321 (Int.toNat x6_26) (rd m53 323 (Int.toNat (wr ((wr (25 + (wr (6 * x1)))) + v53)))) := ⟨_, rfl⟩
        refine f_st ir_321 rfl H.1 e_m58 ?_
        replace H := H.2 m58 e_m58
        obtain ⟨z6_59, e_z6_59⟩ : ∃ q : Int, q = wr (x6_26 + 1) := ⟨_, rfl⟩
        have r_z6_59 : rg z6_59 := by rw [e_z6_59]; exact wr_rg _
        replace H := H z6_59 e_z6_59
        refine f_iinc (ls2 := [some (.ref 284), some (iv x1), some (iv x2), some (iv v3), some (iv v10), some (iv v18), some (iv z6_59)]) 1 rfl rfl rfl e_z6_59 rfl ?_
        refine w_st (fun _ => rfl) ?_
        exact ih_26 z6_59 m58 (Nat.lt_of_lt_of_le H.2 (Nat.le_of_lt_succ hz_26)) r_z6_59 H.1
  exact lp_26 _ 0 m18 (Nat.lt_succ_self _) (by unfold rg; decide) H0_26
/-- TippedCratesModel.minuteGoes()V -/
def P_234 (d : Nat) (m : Mm)  (Q : Mm → Prop) : Prop :=
  (∃ (I_2 : Int → Mm → Prop) (mu_2 : Int → Mm → Nat), I_2 0 m ∧
    ∀ (x1_2 : Int) (m_2 : Mm), rg x1_2 → I_2 x1_2 m_2 →
    (((0 : Int) ≤ (rd m_2 284 18) ∧ (rd m_2 284 18) < 2) ∧ (((rd m_2 302 (Int.toNat (rd m_2 284 18))) ≤ x1_2 → (∀ m120 : Mm, m120 = wt m_2 323 49 (wr ((rd m_2 323 49) + 1)) → Q m120)) ∧
        (¬ (rd m_2 302 (Int.toNat (rd m_2 284 18))) ≤ x1_2 → CK d 218 [.ref 284, iv (wr ((wr (8 * (rd m_2 323 49))) + x1_2)), iv 4] m_2 (fun m29 v29 =>
          CK d 224 [.ref 284, iv x1_2, iv v29] m29 (fun m36 v36 =>
          (∃ R_48 : Mm → Prop,
          ((v36 = 0 → R_48 m36) ∧
          (¬ v36 = 0 → CV d 233 [.ref 284, iv x1_2, iv v29] m36 (fun m45 =>
            R_48 m45))) ∧
          (∀ (m_48 : Mm), R_48 m_48 →
          CK d 218 [.ref 284, iv (wr ((wr (100000 + (wr (8 * (rd m_48 323 49))))) + x1_2)), iv 100] m_48 (fun m67 v67 =>
            CK d 232 [.ref 284, iv x1_2, iv v29] m67 (fun m73 v73 =>
            (∃ R_84 : Int → Prop,
            ((v73 ≤ v67 → R_84 0) ∧
            (¬ v73 ≤ v67 → R_84 1)) ∧
            (∀ (s0_84 : Int) , rg s0_84 → R_84 s0_84 →
            (∃ R_104 : Mm → Prop,
              ((s0_84 = 0 → R_104 m73) ∧
              (¬ s0_84 = 0 → CK d 224 [.ref 284, iv x1_2, iv v29] m73 (fun m92 v92 =>
                ((v92 = 0 → R_104 m92) ∧
                (¬ v92 = 0 → CV d 233 [.ref 284, iv x1_2, iv v29] m92 (fun m101 =>
                  R_104 m101)))))) ∧
              (∀ (m_104 : Mm), R_104 m_104 →
              (∀ z1_104 : Int, z1_104 = wr (x1_2 + 1) → (I_2 z1_104 m_104 ∧ mu_2 z1_104 m_104 < mu_2 x1_2 m_2))))))))))))))))
set_option maxRecDepth 20000 in
theorem br_234 {d : Nat} {m : Mm}  {Q : Mm → Prop}  (H : P_234 d m  Q) : CV (d + 1) 234 [.ref 284] m Q := by
  unfold P_234 at H
  refine CV_of rfl ?_
  show mm_W d mc_234 0 [some (.ref 284), none, none, none] [] (fm m) (XV Q)
  refine f_int 0 rfl rfl ?_
  refine w_st (ls2 := [some (.ref 284), some (iv 0), none, none]) (fun _ => rfl) ?_
  obtain ⟨I_2, mu_2, H0_2, HB_2⟩ := H
  have lp_2 : ∀ (z : Nat) (x1_2 : Int) (m_2 : Mm) (g2_2 g3_2 : Option Value), mu_2 x1_2 m_2 < z → rg x1_2 → I_2 x1_2 m_2 → mm_W d mc_234 2 [some (.ref 284), some (iv x1_2), g2_2, g3_2] [] (fm m_2) (XV Q) := by
    intro z
    induction z with
    | zero => intro x1_2 m_2 g2_2 g3_2 hz; exact absurd hz (Nat.not_lt_zero _)
    | succ z ih_2 =>
      intro x1_2 m_2 g2_2 g3_2 hz_2 r_x1_2 hI
      have H := HB_2 x1_2 m_2 r_x1_2 hI
      refine w_st (fun _ => rfl) ?_
      refine w_st (fun _ => rfl) ?_
      refine g_284_31 rfl ?_
      refine w_st (fun _ => rfl) ?_
      refine g_284_18 rfl ?_
      refine f_ld ir_302 rfl H.1 ?_
      replace H := H.2
      refine b_ge rfl r_x1_2 (rd_rg _ _ _) (fun hq => ?_) (fun hq => ?_)
      · replace H := H.1 hq
        refine w_st (fun _ => rfl) ?_
        refine g_284_57 rfl ?_
        refine f_int 49 rfl rfl ?_
        refine w_st (fun _ => rfl) ?_
        refine f_ld ir_323 rfl ⟨by decide, by decide⟩ ?_
        refine f_int 1 rfl rfl ?_
        refine f_add rfl ?_
        obtain ⟨m120, e_m120⟩ : ∃ q : Mm, q = wt m_2 323 49 (wr ((rd m_2 323 49) + 1)) := ⟨_, rfl⟩
        refine f_st ir_323 rfl ⟨by decide, by decide⟩ e_m120 ?_
        replace H := H m120 e_m120
        exact f_ret rfl H
      · replace H := H.2 hq
        refine w_st (fun _ => rfl) ?_
        refine f_int 8 rfl rfl ?_
        refine w_st (fun _ => rfl) ?_
        refine g_284_57 rfl ?_
        refine f_int 49 rfl rfl ?_
        refine f_ld ir_323 rfl ⟨by decide, by decide⟩ ?_
        refine f_mul rfl ?_
        refine w_st (fun _ => rfl) ?_
        refine f_add rfl ?_
        refine f_int 4 rfl rfl ?_
        refine k_VK (as := [iv (wr ((wr (8 * (rd m_2 323 49))) + x1_2)), iv 4]) rfl mg_234 rfl rfl (by decide) rfl rfl H (fun m29 v29 r_v29 H => ?_)
        refine w_st (ls2 := [some (.ref 284), some (iv x1_2), some (iv v29), g3_2]) (fun _ => rfl) ?_
        refine w_st (fun _ => rfl) ?_
        refine w_st (fun _ => rfl) ?_
        refine w_st (fun _ => rfl) ?_
        refine k_VK (as := [iv x1_2, iv v29]) rfl mg_234 rfl rfl (by decide) rfl rfl H (fun m36 v36 r_v36 H => ?_)
        obtain ⟨R_48, H, HJ_48⟩ := H
        have tl_48 : ∀ (m_48 : Mm), R_48 m_48 → mm_W d mc_234 48 [some (.ref 284), some (iv x1_2), some (iv v29), g3_2] [] (fm m_48) (XV Q) := by
          intro m_48  hR
          have H := HJ_48 m_48  hR
          refine w_st (fun _ => rfl) ?_
          refine f_int 100000 rfl rfl ?_
          refine f_int 8 rfl rfl ?_
          refine w_st (fun _ => rfl) ?_
          refine g_284_57 rfl ?_
          refine f_int 49 rfl rfl ?_
          refine f_ld ir_323 rfl ⟨by decide, by decide⟩ ?_
          refine f_mul rfl ?_
          refine f_add rfl ?_
          refine w_st (fun _ => rfl) ?_
          refine f_add rfl ?_
          refine f_int 100 rfl rfl ?_
          refine k_VK (as := [iv (wr ((wr (100000 + (wr (8 * (rd m_48 323 49))))) + x1_2)), iv 100]) rfl mg_234 rfl rfl (by decide) rfl rfl H (fun m67 v67 r_v67 H => ?_)
          refine w_st (fun _ => rfl) ?_
          refine w_st (fun _ => rfl) ?_
          refine w_st (fun _ => rfl) ?_
          refine k_VK (as := [iv x1_2, iv v29]) rfl mg_234 rfl rfl (by decide) rfl rfl H (fun m73 v73 r_v73 H => ?_)
          obtain ⟨R_84, H, HJ_84⟩ := H
          have tl_84 : ∀ (s0_84 : Int) , rg s0_84 → R_84 s0_84 → mm_W d mc_234 84 [some (.ref 284), some (iv x1_2), some (iv v29), g3_2] [iv s0_84] (fm m73) (XV Q) := by
            intro s0_84 r_s0_84 hR
            have H := HJ_84 s0_84 r_s0_84 hR
            refine w_st (ls2 := [some (.ref 284), some (iv x1_2), some (iv v29), some (iv s0_84)]) (fun _ => rfl) ?_
            refine w_st (fun _ => rfl) ?_
            obtain ⟨R_104, H, HJ_104⟩ := H
            have tl_104 : ∀ (m_104 : Mm), R_104 m_104 → mm_W d mc_234 104 [some (.ref 284), some (iv x1_2), some (iv v29), some (iv s0_84)] [] (fm m_104) (XV Q) := by
              intro m_104  hR
              have H := HJ_104 m_104  hR
              obtain ⟨z1_104, e_z1_104⟩ : ∃ q : Int, q = wr (x1_2 + 1) := ⟨_, rfl⟩
              have r_z1_104 : rg z1_104 := by rw [e_z1_104]; exact wr_rg _
              replace H := H z1_104 e_z1_104
              refine f_iinc (ls2 := [some (.ref 284), some (iv z1_104), some (iv v29), some (iv s0_84)]) 1 rfl rfl rfl e_z1_104 rfl ?_
              refine w_st (fun _ => rfl) ?_
              exact ih_2 z1_104 m_104 (some (iv v29)) (some (iv s0_84)) (Nat.lt_of_lt_of_le H.2 (Nat.le_of_lt_succ hz_2)) r_z1_104 H.1
            refine z_eq rfl r_s0_84 (fun hq => ?_) (fun hq => ?_)
            · replace H := H.1 hq
              exact tl_104 m73  H
            · replace H := H.2 hq
              refine w_st (fun _ => rfl) ?_
              refine w_st (fun _ => rfl) ?_
              refine w_st (fun _ => rfl) ?_
              refine k_VK (as := [iv x1_2, iv v29]) rfl mg_234 rfl rfl (by decide) rfl rfl H (fun m92 v92 r_v92 H => ?_)
              refine z_eq rfl r_v92 (fun hq => ?_) (fun hq => ?_)
              · replace H := H.1 hq
                exact tl_104 m92  H
              · replace H := H.2 hq
                refine w_st (fun _ => rfl) ?_
                refine w_st (fun _ => rfl) ?_
                refine w_st (fun _ => rfl) ?_
                refine k_VV (as := [iv x1_2, iv v29]) rfl mg_234 rfl rfl (by decide) rfl rfl H (fun m101 H => ?_)
                exact tl_104 m101  H
          refine b_ge rfl r_v67 r_v73 (fun hq => ?_) (fun hq => ?_)
          · replace H := H.1 hq
            refine f_int 0 rfl rfl ?_
            exact tl_84 0 (by unfold rg; decide) H
          · replace H := H.2 hq
            refine f_int 1 rfl rfl ?_
            refine w_st (fun _ => rfl) ?_
            exact tl_84 1 (by unfold rg; decide) H
        refine z_eq rfl r_v36 (fun hq => ?_) (fun hq => ?_)
        · replace H := H.1 hq
          exact tl_48 m36  H
        · replace H := H.2 hq
          refine w_st (fun _ => rfl) ?_
          refine w_st (fun _ => rfl) ?_
          refine w_st (fun _ => rfl) ?_
          refine k_VV (as := [iv x1_2, iv v29]) rfl mg_234 rfl rfl (by decide) rfl rfl H (fun m45 H => ?_)
          exact tl_48 m45  H
  exact lp_2 _ 0 m none none (Nat.lt_succ_self _) (by unfold rg; decide) H0_2
/-- TippedCratesModel.goes(I)V -/
def P_235 (d : Nat) (m : Mm) (x1 : Int) (Q : Mm → Prop) : Prop :=
  (∃ (I_2 : Int → Mm → Prop) (mu_2 : Int → Mm → Nat), I_2 0 m ∧
    ∀ (x2_2 : Int) (m_2 : Mm), rg x2_2 → I_2 x2_2 m_2 →
    ((x1 ≤ x2_2 → Q m_2) ∧
        (¬ x1 ≤ x2_2 → CV d 234 [.ref 284] m_2 (fun m8 =>
          (∀ z2_11 : Int, z2_11 = wr (x2_2 + 1) → (I_2 z2_11 m8 ∧ mu_2 z2_11 m8 < mu_2 x2_2 m_2))))))
set_option maxRecDepth 20000 in
theorem br_235 {d : Nat} {m : Mm} {x1 : Int} {Q : Mm → Prop} (r_x1 : rg x1) (H : P_235 d m x1 Q) : CV (d + 1) 235 [.ref 284, iv x1] m Q := by
  unfold P_235 at H
  refine CV_of rfl ?_
  show mm_W d mc_235 0 [some (.ref 284), some (iv x1), none] [] (fm m) (XV Q)
  refine f_int 0 rfl rfl ?_
  refine w_st (ls2 := [some (.ref 284), some (iv x1), some (iv 0)]) (fun _ => rfl) ?_
  obtain ⟨I_2, mu_2, H0_2, HB_2⟩ := H
  have lp_2 : ∀ (z : Nat) (x2_2 : Int) (m_2 : Mm), mu_2 x2_2 m_2 < z → rg x2_2 → I_2 x2_2 m_2 → mm_W d mc_235 2 [some (.ref 284), some (iv x1), some (iv x2_2)] [] (fm m_2) (XV Q) := by
    intro z
    induction z with
    | zero => intro x2_2 m_2 hz; exact absurd hz (Nat.not_lt_zero _)
    | succ z ih_2 =>
      intro x2_2 m_2 hz_2 r_x2_2 hI
      have H := HB_2 x2_2 m_2 r_x2_2 hI
      refine w_st (fun _ => rfl) ?_
      refine w_st (fun _ => rfl) ?_
      refine b_ge rfl r_x2_2 r_x1 (fun hq => ?_) (fun hq => ?_)
      · replace H := H.1 hq
        exact f_ret rfl H
      · replace H := H.2 hq
        refine w_st (fun _ => rfl) ?_
        refine k_VV (as := []) rfl mg_235 rfl rfl (by decide) rfl rfl H (fun m8 H => ?_)
        obtain ⟨z2_11, e_z2_11⟩ : ∃ q : Int, q = wr (x2_2 + 1) := ⟨_, rfl⟩
        have r_z2_11 : rg z2_11 := by rw [e_z2_11]; exact wr_rg _
        replace H := H z2_11 e_z2_11
        refine f_iinc (ls2 := [some (.ref 284), some (iv x1), some (iv z2_11)]) 1 rfl rfl rfl e_z2_11 rfl ?_
        refine w_st (fun _ => rfl) ?_
        exact ih_2 z2_11 m8 (Nat.lt_of_lt_of_le H.2 (Nat.le_of_lt_succ hz_2)) r_z2_11 H.1
  exact lp_2 _ 0 m (Nat.lt_succ_self _) (by unfold rg; decide) H0_2
/-- TippedCratesModel.flag(II)I -/
def P_236 (d : Nat) (m : Mm) (x1 : Int) (x2 : Int) (Q : Mm → Int → Prop) : Prop :=
  CK d 209 [.ref 284, iv x1] m (fun m2 v2 =>
    ((¬ v2 = 0 → CV d 216 [.ref 284] m2 (fun m11 =>
      ((x2 = 0 → (((0 : Int) ≤ x1 ∧ x1 < 51) ∧ Q m11 (rd m11 323 (Int.toNat x1)))) ∧
      (x2 = 1 → CK d 213 [.ref 284, iv x1] m11 (fun m49 v49 =>
          (∃ R_60 : Int → Prop,
          ((v49 = 0 → R_60 0) ∧
          (¬ v49 = 0 → R_60 1)) ∧
          (∀ (s0_60 : Int) , rg s0_60 → R_60 s0_60 →
          Q m49 s0_60)))) ∧
      (x2 = 2 → CK d 237 [.ref 284, iv x1] m11 (fun m63 v63 =>
            Q m63 v63)) ∧
      (x2 < 0 ∨ 2 < x2 → Q m11 (-1))))) ∧
    (v2 = 0 → Q m2 (-1))))
set_option maxRecDepth 20000 in
theorem br_236 {d : Nat} {m : Mm} {x1 : Int} {x2 : Int} {Q : Mm → Int → Prop} (r_x1 : rg x1) (r_x2 : rg x2) (H : P_236 d m x1 x2 Q) : CK (d + 1) 236 [.ref 284, iv x1, iv x2] m Q := by
  unfold P_236 at H
  refine CK_of rfl ?_
  show mm_W d mc_236 0 [some (.ref 284), some (iv x1), some (iv x2)] [] (fm m) (XK Q)
  refine w_st (fun _ => rfl) ?_
  refine w_st (fun _ => rfl) ?_
  refine k_VK (as := [iv x1]) rfl mg_236 rfl rfl (by decide) rfl rfl H (fun m2 v2 r_v2 H => ?_)
  refine z_ne rfl r_v2 (fun hq => ?_) (fun hq => ?_)
  · replace H := H.1 hq
    refine w_st (fun _ => rfl) ?_
    refine k_VV (as := []) rfl mg_236 rfl rfl (by decide) rfl rfl H (fun m11 H => ?_)
    refine w_st (fun _ => rfl) ?_
    by_cases e0_15 : x2 = 0
    · refine f_tsw 0 rfl r_x2 e0_15 rfl rfl ?_
      replace H := H.1 e0_15
      refine w_st (fun _ => rfl) ?_
      refine g_284_57 rfl ?_
      refine w_st (fun _ => rfl) ?_
      refine f_ld ir_323 rfl H.1 ?_
      replace H := H.2
      exact f_iret rfl (rd_rg _ _ _) H
    · replace H := H.2
      by_cases e1_15 : x2 = 1
      · refine f_tsw 1 rfl r_x2 e1_15 rfl rfl ?_
        replace H := H.1 e1_15
        refine w_st (fun _ => rfl) ?_
        refine w_st (fun _ => rfl) ?_
        refine k_VK (as := [iv x1]) rfl mg_236 rfl rfl (by decide) rfl rfl H (fun m49 v49 r_v49 H => ?_)
        obtain ⟨R_60, H, HJ_60⟩ := H
        have tl_60 : ∀ (s0_60 : Int) , rg s0_60 → R_60 s0_60 → mm_W d mc_236 60 [some (.ref 284), some (iv x1), some (iv x2)] [iv s0_60] (fm m49) (XK Q) := by
          intro s0_60 r_s0_60 hR
          have H := HJ_60 s0_60 r_s0_60 hR
          exact f_iret rfl r_s0_60 H
        refine z_eq rfl r_v49 (fun hq => ?_) (fun hq => ?_)
        · replace H := H.1 hq
          refine f_int 0 rfl rfl ?_
          exact tl_60 0 (by unfold rg; decide) H
        · replace H := H.2 hq
          refine f_int 1 rfl rfl ?_
          refine w_st (fun _ => rfl) ?_
          exact tl_60 1 (by unfold rg; decide) H
      · replace H := H.2
        by_cases e2_15 : x2 = 2
        · refine f_tsw 2 rfl r_x2 e2_15 rfl rfl ?_
          replace H := H.1 e2_15
          refine w_st (fun _ => rfl) ?_
          refine w_st (fun _ => rfl) ?_
          refine k_VK (as := [iv x1]) rfl mg_236 rfl rfl (by decide) rfl rfl H (fun m63 v63 r_v63 H => ?_)
          exact f_iret rfl r_v63 H
        · replace H := H.2
          refine f_tswd rfl r_x2 (by omega) ?_
          replace H := H (by omega)
          refine f_int (-1) rfl rfl ?_
          exact f_iret rfl (by unfold rg; decide) H
  · replace H := H.2 hq
    refine f_int (-1) rfl rfl ?_
    exact f_iret rfl (by unfold rg; decide) H
/-- TippedCratesModel.crateOn(I)I -/
def P_237 (d : Nat) (m : Mm) (x1 : Int) (Q : Mm → Int → Prop) : Prop :=
  (∃ (I_2 : Int → Prop) (mu_2 : Int → Nat), I_2 0 ∧
    ∀ (x2_2 : Int) , rg x2_2 → I_2 x2_2 →
    (((0 : Int) ≤ (rd m 284 18) ∧ (rd m 284 18) < 2) ∧ (((rd m 302 (Int.toNat (rd m 284 18))) ≤ x2_2 → Q m (-2)) ∧
        (¬ (rd m 302 (Int.toNat (rd m 284 18))) ≤ x2_2 → (((0 : Int) ≤ (wr (43 + x2_2)) ∧ (wr (43 + x2_2)) < 51) ∧ ((¬ (rd m 323 (Int.toNat (wr (43 + x2_2)))) = x1 → (∀ z2_30 : Int, z2_30 = wr (x2_2 + 1) → (I_2 z2_30 ∧ mu_2 z2_30 < mu_2 x2_2))) ∧
          ((rd m 323 (Int.toNat (wr (43 + x2_2)))) = x1 → Q m x2_2)))))))
set_option maxRecDepth 20000 in
theorem br_237 {d : Nat} {m : Mm} {x1 : Int} {Q : Mm → Int → Prop} (r_x1 : rg x1) (H : P_237 d m x1 Q) : CK (d + 1) 237 [.ref 284, iv x1] m Q := by
  unfold P_237 at H
  refine CK_of rfl ?_
  show mm_W d mc_237 0 [some (.ref 284), some (iv x1), none] [] (fm m) (XK Q)
  refine f_int 0 rfl rfl ?_
  refine w_st (ls2 := [some (.ref 284), some (iv x1), some (iv 0)]) (fun _ => rfl) ?_
  obtain ⟨I_2, mu_2, H0_2, HB_2⟩ := H
  have lp_2 : ∀ (z : Nat) (x2_2 : Int) , mu_2 x2_2 < z → rg x2_2 → I_2 x2_2 → mm_W d mc_237 2 [some (.ref 284), some (iv x1), some (iv x2_2)] [] (fm m) (XK Q) := by
    intro z
    induction z with
    | zero => intro x2_2 hz; exact absurd hz (Nat.not_lt_zero _)
    | succ z ih_2 =>
      intro x2_2 hz_2 r_x2_2 hI
      have H := HB_2 x2_2 r_x2_2 hI
      refine w_st (fun _ => rfl) ?_
      refine w_st (fun _ => rfl) ?_
      refine g_284_31 rfl ?_
      refine w_st (fun _ => rfl) ?_
      refine g_284_18 rfl ?_
      refine f_ld ir_302 rfl H.1 ?_
      replace H := H.2
      refine b_ge rfl r_x2_2 (rd_rg _ _ _) (fun hq => ?_) (fun hq => ?_)
      · replace H := H.1 hq
        refine f_int (-2) rfl rfl ?_
        exact f_iret rfl (by unfold rg; decide) H
      · replace H := H.2 hq
        refine w_st (fun _ => rfl) ?_
        refine g_284_57 rfl ?_
        refine f_int 43 rfl rfl ?_
        refine w_st (fun _ => rfl) ?_
        refine f_add rfl ?_
        refine f_ld ir_323 rfl H.1 ?_
        replace H := H.2
        refine w_st (fun _ => rfl) ?_
        refine b_ne rfl (rd_rg _ _ _) r_x1 (fun hq => ?_) (fun hq => ?_)
        · replace H := H.1 hq
          obtain ⟨z2_30, e_z2_30⟩ : ∃ q : Int, q = wr (x2_2 + 1) := ⟨_, rfl⟩
          have r_z2_30 : rg z2_30 := by rw [e_z2_30]; exact wr_rg _
          replace H := H z2_30 e_z2_30
          refine f_iinc (ls2 := [some (.ref 284), some (iv x1), some (iv z2_30)]) 1 rfl rfl rfl e_z2_30 rfl ?_
          refine w_st (fun _ => rfl) ?_
          exact ih_2 z2_30 (Nat.lt_of_lt_of_le H.2 (Nat.le_of_lt_succ hz_2)) r_z2_30 H.1
        · replace H := H.2 hq
          refine w_st (fun _ => rfl) ?_
          exact f_iret rfl r_x2_2 H
  exact lp_2 _ 0 (Nat.lt_succ_self _) (by unfold rg; decide) H0_2
/-- TippedCratesModel.crate(II)I -/
def P_238 (d : Nat) (m : Mm) (x1 : Int) (x2 : Int) (Q : Mm → Int → Prop) : Prop :=
  CK d 210 [.ref 284, iv x1] m (fun m2 v2 =>
    (∃ R_18 : Mm → Prop,
    ((v2 = 0 → R_18 m2) ∧
    (¬ v2 = 0 → CK d 206 [iv x2, iv 0, iv 7] m2 (fun m12 v12 =>
      ((¬ v12 = 0 → (∃ R_70 : Int → Prop,
        ((6 ≤ x2 → ((¬ x2 = 6 → (((0 : Int) ≤ (wr (46 + x1)) ∧ (wr (46 + x1)) < 51) ∧ R_70 (rd m12 322 (Int.toNat (wr (46 + x1)))))) ∧
          (x2 = 6 → (((0 : Int) ≤ (wr (43 + x1)) ∧ (wr (43 + x1)) < 51) ∧ R_70 (rd m12 322 (Int.toNat (wr (43 + x1)))))))) ∧
        (¬ 6 ≤ x2 → (((0 : Int) ≤ (wr ((wr (25 + (wr (6 * x1)))) + x2)) ∧ (wr ((wr (25 + (wr (6 * x1)))) + x2)) < 51) ∧ R_70 (rd m12 322 (Int.toNat (wr ((wr (25 + (wr (6 * x1)))) + x2))))))) ∧
        (∀ (s0_70 : Int) , rg s0_70 → R_70 s0_70 →
        Q m12 s0_70))) ∧
      (v12 = 0 → R_18 m12))))) ∧
    (∀ (m_18 : Mm), R_18 m_18 →
    Q m_18 (-1))))
set_option maxRecDepth 20000 in
theorem br_238 {d : Nat} {m : Mm} {x1 : Int} {x2 : Int} {Q : Mm → Int → Prop} (r_x1 : rg x1) (r_x2 : rg x2) (H : P_238 d m x1 x2 Q) : CK (d + 1) 238 [.ref 284, iv x1, iv x2] m Q := by
  unfold P_238 at H
  refine CK_of rfl ?_
  show mm_W d mc_238 0 [some (.ref 284), some (iv x1), some (iv x2)] [] (fm m) (XK Q)
  refine w_st (fun _ => rfl) ?_
  refine w_st (fun _ => rfl) ?_
  refine k_VK (as := [iv x1]) rfl mg_238 rfl rfl (by decide) rfl rfl H (fun m2 v2 r_v2 H => ?_)
  obtain ⟨R_18, H, HJ_18⟩ := H
  have tl_18 : ∀ (m_18 : Mm), R_18 m_18 → mm_W d mc_238 18 [some (.ref 284), some (iv x1), some (iv x2)] [] (fm m_18) (XK Q) := by
    intro m_18  hR
    have H := HJ_18 m_18  hR
    refine f_int (-1) rfl rfl ?_
    exact f_iret rfl (by unfold rg; decide) H
  refine z_eq rfl r_v2 (fun hq => ?_) (fun hq => ?_)
  · replace H := H.1 hq
    exact tl_18 m2  H
  · replace H := H.2 hq
    refine w_st (fun _ => rfl) ?_
    refine f_int 0 rfl rfl ?_
    refine f_int 7 rfl rfl ?_
    refine k_SK (as := [iv x2, iv 0, iv 7]) rfl mg_238 rfl rfl rfl H (fun m12 v12 r_v12 H => ?_)
    refine z_ne rfl r_v12 (fun hq => ?_) (fun hq => ?_)
    · replace H := H.1 hq
      refine w_st (fun _ => rfl) ?_
      refine f_int 6 rfl rfl ?_
      obtain ⟨R_70, H, HJ_70⟩ := H
      have tl_70 : ∀ (s0_70 : Int) , rg s0_70 → R_70 s0_70 → mm_W d mc_238 70 [some (.ref 284), some (iv x1), some (iv x2)] [iv s0_70] (fm m12) (XK Q) := by
        intro s0_70 r_s0_70 hR
        have H := HJ_70 s0_70 r_s0_70 hR
        exact f_iret rfl r_s0_70 H
      refine b_ge rfl r_x2 (by unfold rg; decide) (fun hq => ?_) (fun hq => ?_)
      · replace H := H.1 hq
        refine w_st (fun _ => rfl) ?_
        refine f_int 6 rfl rfl ?_
        refine b_ne rfl r_x2 (by unfold rg; decide) (fun hq => ?_) (fun hq => ?_)
        · replace H := H.1 hq
          refine w_st (fun _ => rfl) ?_
          refine g_284_56 rfl ?_
          refine f_int 46 rfl rfl ?_
          refine w_st (fun _ => rfl) ?_
          refine f_add rfl ?_
          refine f_ld ir_322 rfl H.1 ?_
          replace H := H.2
          exact tl_70 (rd m12 322 (Int.toNat (wr (46 + x1)))) (rd_rg _ _ _) H
        · replace H := H.2 hq
          refine w_st (fun _ => rfl) ?_
          refine g_284_56 rfl ?_
          refine f_int 43 rfl rfl ?_
          refine w_st (fun _ => rfl) ?_
          refine f_add rfl ?_
          refine f_ld ir_322 rfl H.1 ?_
          replace H := H.2
          refine w_st (fun _ => rfl) ?_
          exact tl_70 (rd m12 322 (Int.toNat (wr (43 + x1)))) (rd_rg _ _ _) H
      · replace H := H.2 hq
        refine w_st (fun _ => rfl) ?_
        refine g_284_56 rfl ?_
        refine f_int 25 rfl rfl ?_
        refine f_int 6 rfl rfl ?_
        refine w_st (fun _ => rfl) ?_
        refine f_mul rfl ?_
        refine f_add rfl ?_
        refine w_st (fun _ => rfl) ?_
        refine f_add rfl ?_
        refine f_ld ir_322 rfl H.1 ?_
        replace H := H.2
        refine w_st (fun _ => rfl) ?_
        exact tl_70 (rd m12 322 (Int.toNat (wr ((wr (25 + (wr (6 * x1)))) + x2)))) (rd_rg _ _ _) H
    · replace H := H.2 hq
      exact tl_18 m12  H
/-- TippedCratesModel.tells(III)I -/
def P_239 (d : Nat) (m : Mm) (x1 : Int) (x2 : Int) (x3 : Int) (Q : Mm → Int → Prop) : Prop :=
  CK d 210 [.ref 284, iv x1] m (fun m2 v2 =>
    (∃ R_15 : Mm → Prop,
    ((v2 = 0 → R_15 m2) ∧
    (¬ v2 = 0 → CK d 212 [iv x2] m2 (fun m9 v9 =>
      ((¬ v9 = 0 → CV d 216 [.ref 284] m9 (fun m18 =>
        ((x3 = 0 → CK d 224 [.ref 284, iv x1, iv x2] m18 (fun m59 v59 =>
          (∃ R_70 : Int → Prop,
          ((v59 = 0 → R_70 0) ∧
          (¬ v59 = 0 → R_70 1)) ∧
          (∀ (s0_70 : Int) , rg s0_70 → R_70 s0_70 →
          Q m59 s0_70)))) ∧
        (x3 = 1 → CK d 229 [.ref 284, iv x1, iv x2] m18 (fun m74 v74 =>
            Q m74 v74)) ∧
        (x3 = 2 → CK d 230 [.ref 284, iv x1, iv x2] m18 (fun m81 v81 =>
              (∃ R_92 : Int → Prop,
              ((v81 = 0 → R_92 0) ∧
              (¬ v81 = 0 → R_92 1)) ∧
              (∀ (s0_92 : Int) , rg s0_92 → R_92 s0_92 →
              Q m81 s0_92)))) ∧
        (x3 = 3 → CK d 231 [.ref 284, iv x1, iv x2] m18 (fun m96 v96 =>
                (∃ R_107 : Int → Prop,
                ((v96 = 0 → R_107 0) ∧
                (¬ v96 = 0 → R_107 1)) ∧
                (∀ (s0_107 : Int) , rg s0_107 → R_107 s0_107 →
                Q m96 s0_107)))) ∧
        (x3 = 4 → CK d 232 [.ref 284, iv x1, iv x2] m18 (fun m111 v111 =>
                  Q m111 v111)) ∧
        (x3 < 0 ∨ 4 < x3 → Q m18 (-1))))) ∧
      (v9 = 0 → R_15 m9))))) ∧
    (∀ (m_15 : Mm), R_15 m_15 →
    Q m_15 (-1))))
set_option maxRecDepth 20000 in
theorem br_239 {d : Nat} {m : Mm} {x1 : Int} {x2 : Int} {x3 : Int} {Q : Mm → Int → Prop} (r_x1 : rg x1) (r_x2 : rg x2) (r_x3 : rg x3) (H : P_239 d m x1 x2 x3 Q) : CK (d + 1) 239 [.ref 284, iv x1, iv x2, iv x3] m Q := by
  unfold P_239 at H
  refine CK_of rfl ?_
  show mm_W d mc_239 0 [some (.ref 284), some (iv x1), some (iv x2), some (iv x3)] [] (fm m) (XK Q)
  refine w_st (fun _ => rfl) ?_
  refine w_st (fun _ => rfl) ?_
  refine k_VK (as := [iv x1]) rfl mg_239 rfl rfl (by decide) rfl rfl H (fun m2 v2 r_v2 H => ?_)
  obtain ⟨R_15, H, HJ_15⟩ := H
  have tl_15 : ∀ (m_15 : Mm), R_15 m_15 → mm_W d mc_239 15 [some (.ref 284), some (iv x1), some (iv x2), some (iv x3)] [] (fm m_15) (XK Q) := by
    intro m_15  hR
    have H := HJ_15 m_15  hR
    refine f_int (-1) rfl rfl ?_
    exact f_iret rfl (by unfold rg; decide) H
  refine z_eq rfl r_v2 (fun hq => ?_) (fun hq => ?_)
  · replace H := H.1 hq
    exact tl_15 m2  H
  · replace H := H.2 hq
    refine w_st (fun _ => rfl) ?_
    refine k_SK (as := [iv x2]) rfl mg_239 rfl rfl rfl H (fun m9 v9 r_v9 H => ?_)
    refine z_ne rfl r_v9 (fun hq => ?_) (fun hq => ?_)
    · replace H := H.1 hq
      refine w_st (fun _ => rfl) ?_
      refine k_VV (as := []) rfl mg_239 rfl rfl (by decide) rfl rfl H (fun m18 H => ?_)
      refine w_st (fun _ => rfl) ?_
      by_cases e0_22 : x3 = 0
      · refine f_tsw 0 rfl r_x3 e0_22 rfl rfl ?_
        replace H := H.1 e0_22
        refine w_st (fun _ => rfl) ?_
        refine w_st (fun _ => rfl) ?_
        refine w_st (fun _ => rfl) ?_
        refine k_VK (as := [iv x1, iv x2]) rfl mg_239 rfl rfl (by decide) rfl rfl H (fun m59 v59 r_v59 H => ?_)
        obtain ⟨R_70, H, HJ_70⟩ := H
        have tl_70 : ∀ (s0_70 : Int) , rg s0_70 → R_70 s0_70 → mm_W d mc_239 70 [some (.ref 284), some (iv x1), some (iv x2), some (iv x3)] [iv s0_70] (fm m59) (XK Q) := by
          intro s0_70 r_s0_70 hR
          have H := HJ_70 s0_70 r_s0_70 hR
          exact f_iret rfl r_s0_70 H
        refine z_eq rfl r_v59 (fun hq => ?_) (fun hq => ?_)
        · replace H := H.1 hq
          refine f_int 0 rfl rfl ?_
          exact tl_70 0 (by unfold rg; decide) H
        · replace H := H.2 hq
          refine f_int 1 rfl rfl ?_
          refine w_st (fun _ => rfl) ?_
          exact tl_70 1 (by unfold rg; decide) H
      · replace H := H.2
        by_cases e1_22 : x3 = 1
        · refine f_tsw 1 rfl r_x3 e1_22 rfl rfl ?_
          replace H := H.1 e1_22
          refine w_st (fun _ => rfl) ?_
          refine w_st (fun _ => rfl) ?_
          refine w_st (fun _ => rfl) ?_
          refine k_VK (as := [iv x1, iv x2]) rfl mg_239 rfl rfl (by decide) rfl rfl H (fun m74 v74 r_v74 H => ?_)
          exact f_iret rfl r_v74 H
        · replace H := H.2
          by_cases e2_22 : x3 = 2
          · refine f_tsw 2 rfl r_x3 e2_22 rfl rfl ?_
            replace H := H.1 e2_22
            refine w_st (fun _ => rfl) ?_
            refine w_st (fun _ => rfl) ?_
            refine w_st (fun _ => rfl) ?_
            refine k_VK (as := [iv x1, iv x2]) rfl mg_239 rfl rfl (by decide) rfl rfl H (fun m81 v81 r_v81 H => ?_)
            obtain ⟨R_92, H, HJ_92⟩ := H
            have tl_92 : ∀ (s0_92 : Int) , rg s0_92 → R_92 s0_92 → mm_W d mc_239 92 [some (.ref 284), some (iv x1), some (iv x2), some (iv x3)] [iv s0_92] (fm m81) (XK Q) := by
              intro s0_92 r_s0_92 hR
              have H := HJ_92 s0_92 r_s0_92 hR
              exact f_iret rfl r_s0_92 H
            refine z_eq rfl r_v81 (fun hq => ?_) (fun hq => ?_)
            · replace H := H.1 hq
              refine f_int 0 rfl rfl ?_
              exact tl_92 0 (by unfold rg; decide) H
            · replace H := H.2 hq
              refine f_int 1 rfl rfl ?_
              refine w_st (fun _ => rfl) ?_
              exact tl_92 1 (by unfold rg; decide) H
          · replace H := H.2
            by_cases e3_22 : x3 = 3
            · refine f_tsw 3 rfl r_x3 e3_22 rfl rfl ?_
              replace H := H.1 e3_22
              refine w_st (fun _ => rfl) ?_
              refine w_st (fun _ => rfl) ?_
              refine w_st (fun _ => rfl) ?_
              refine k_VK (as := [iv x1, iv x2]) rfl mg_239 rfl rfl (by decide) rfl rfl H (fun m96 v96 r_v96 H => ?_)
              obtain ⟨R_107, H, HJ_107⟩ := H
              have tl_107 : ∀ (s0_107 : Int) , rg s0_107 → R_107 s0_107 → mm_W d mc_239 107 [some (.ref 284), some (iv x1), some (iv x2), some (iv x3)] [iv s0_107] (fm m96) (XK Q) := by
                intro s0_107 r_s0_107 hR
                have H := HJ_107 s0_107 r_s0_107 hR
                exact f_iret rfl r_s0_107 H
              refine z_eq rfl r_v96 (fun hq => ?_) (fun hq => ?_)
              · replace H := H.1 hq
                refine f_int 0 rfl rfl ?_
                exact tl_107 0 (by unfold rg; decide) H
              · replace H := H.2 hq
                refine f_int 1 rfl rfl ?_
                refine w_st (fun _ => rfl) ?_
                exact tl_107 1 (by unfold rg; decide) H
            · replace H := H.2
              by_cases e4_22 : x3 = 4
              · refine f_tsw 4 rfl r_x3 e4_22 rfl rfl ?_
                replace H := H.1 e4_22
                refine w_st (fun _ => rfl) ?_
                refine w_st (fun _ => rfl) ?_
                refine w_st (fun _ => rfl) ?_
                refine k_VK (as := [iv x1, iv x2]) rfl mg_239 rfl rfl (by decide) rfl rfl H (fun m111 v111 r_v111 H => ?_)
                exact f_iret rfl r_v111 H
              · replace H := H.2
                refine f_tswd rfl r_x3 (by omega) ?_
                replace H := H (by omega)
                refine f_int (-1) rfl rfl ?_
                exact f_iret rfl (by unfold rg; decide) H
    · replace H := H.2 hq
      exact tl_15 m9  H
/-- TippedCratesModel.records()V -/
def P_240 (d : Nat) (m : Mm)  (Q : Mm → Prop) : Prop :=
  (∃ R_49 : Mm → Prop,
    ((¬ (rd m 284 60) = 40 → R_49 m) ∧
    ((rd m 284 60) = 40 → (∃ (I_11 : Int → Mm → Prop) (mu_11 : Int → Mm → Nat), I_11 0 m ∧
      ∀ (x1_11 : Int) (m_11 : Mm), rg x1_11 → I_11 x1_11 m_11 →
      ((1989 ≤ x1_11 → (∀ m46 : Mm, m46 = wt m_11 284 60 (wr ((rd m_11 284 60) - 1)) → R_49 m46)) ∧
          (¬ 1989 ≤ x1_11 → (((0 : Int) ≤ (wr (x1_11 + 51)) ∧ (wr (x1_11 + 51)) < 2040) ∧ (((0 : Int) ≤ x1_11 ∧ x1_11 < 2040) ∧ (∀ m32 : Mm, m32 = wt m_11 324 (Int.toNat x1_11) (rd m_11 324 (Int.toNat (wr (x1_11 + 51)))) → (∀ z1_33 : Int, z1_33 = wr (x1_11 + 1) → (I_11 z1_33 m32 ∧ mu_11 z1_33 m32 < mu_11 x1_11 m_11)))))))))) ∧
    (∀ (m_49 : Mm), R_49 m_49 →
    (∃ (I_51 : Int → Mm → Prop) (mu_51 : Int → Mm → Nat), I_51 0 m_49 ∧
      ∀ (x1_51 : Int) (m_51 : Mm), rg x1_51 → I_51 x1_51 m_51 →
      ((51 ≤ x1_51 → (∀ m90 : Mm, m90 = wt m_51 284 60 (wr ((rd m_51 284 60) + 1)) → CV d 215 [.ref 284] m90 (fun m94 =>
            Q m94))) ∧
          (¬ 51 ≤ x1_51 → (((0 : Int) ≤ x1_51 ∧ x1_51 < 51) ∧ (((0 : Int) ≤ (wr ((wr (51 * (rd m_51 284 60))) + x1_51)) ∧ (wr ((wr (51 * (rd m_51 284 60))) + x1_51)) < 2040) ∧ (∀ m76 : Mm, m76 = wt m_51 324 (Int.toNat (wr ((wr (51 * (rd m_51 284 60))) + x1_51))) (rd m_51 322 (Int.toNat x1_51)) → (∀ z1_77 : Int, z1_77 = wr (x1_51 + 1) → (I_51 z1_77 m76 ∧ mu_51 z1_77 m76 < mu_51 x1_51 m_51))))))))))
set_option maxRecDepth 20000 in
theorem br_240 {d : Nat} {m : Mm}  {Q : Mm → Prop}  (H : P_240 d m  Q) : CV (d + 1) 240 [.ref 284] m Q := by
  unfold P_240 at H
  refine CV_of rfl ?_
  show mm_W d mc_240 0 [some (.ref 284), none] [] (fm m) (XV Q)
  refine w_st (fun _ => rfl) ?_
  refine g_284_60 rfl ?_
  refine f_int 40 rfl rfl ?_
  obtain ⟨R_49, H, HJ_49⟩ := H
  have tl_49 : ∀ (m_49 : Mm) (g1_49 : Option Value), R_49 m_49 → mm_W d mc_240 49 [some (.ref 284), g1_49] [] (fm m_49) (XV Q) := by
    intro m_49 g1_49  hR
    have H := HJ_49 m_49  hR
    refine f_int 0 rfl rfl ?_
    refine w_st (ls2 := [some (.ref 284), some (iv 0)]) (fun _ => rfl) ?_
    obtain ⟨I_51, mu_51, H0_51, HB_51⟩ := H
    have lp_51 : ∀ (z : Nat) (x1_51 : Int) (m_51 : Mm), mu_51 x1_51 m_51 < z → rg x1_51 → I_51 x1_51 m_51 → mm_W d mc_240 51 [some (.ref 284), some (iv x1_51)] [] (fm m_51) (XV Q) := by
      intro z
      induction z with
      | zero => intro x1_51 m_51 hz; exact absurd hz (Nat.not_lt_zero _)
      | succ z ih_51 =>
        intro x1_51 m_51 hz_51 r_x1_51 hI
        have H := HB_51 x1_51 m_51 r_x1_51 hI
        refine w_st (fun _ => rfl) ?_
        refine f_int 51 rfl rfl ?_
        refine b_ge rfl r_x1_51 (by unfold rg; decide) (fun hq => ?_) (fun hq => ?_)
        · replace H := H.1 hq
          refine w_st (fun _ => rfl) ?_
          refine w_st (fun _ => rfl) ?_
          refine g_284_60 rfl ?_
          refine f_int 1 rfl rfl ?_
          refine f_add rfl ?_
          obtain ⟨m90, e_m90⟩ : ∃ q : Mm, q = wt m_51 284 60 (wr ((rd m_51 284 60) + 1)) := ⟨_, rfl⟩
          replace H := H m90 e_m90
          refine p_284_60 rfl e_m90 ?_
          refine w_st (fun _ => rfl) ?_
          refine k_VV (as := []) rfl mg_240 rfl rfl (by decide) rfl rfl H (fun m94 H => ?_)
          exact f_ret rfl H
        · replace H := H.2 hq
          refine w_st (fun _ => rfl) ?_
          refine g_284_61 rfl ?_
          refine f_int 51 rfl rfl ?_
          refine w_st (fun _ => rfl) ?_
          refine g_284_60 rfl ?_
          refine f_mul rfl ?_
          refine w_st (fun _ => rfl) ?_
          refine f_add rfl ?_
          refine w_st (fun _ => rfl) ?_
          refine g_284_56 rfl ?_
          refine w_st (fun _ => rfl) ?_
          refine f_ld ir_322 rfl H.1 ?_
          replace H := H.2
          obtain ⟨m76, e_m76⟩ : ∃ q : Mm, q = wt m_51 324 (Int.toNat (wr ((wr (51 * (rd m_51 284 60))) + x1_51))) (rd m_51 322 (Int.toNat x1_51)) := ⟨_, rfl⟩
          refine f_st ir_324 rfl H.1 e_m76 ?_
          replace H := H.2 m76 e_m76
          obtain ⟨z1_77, e_z1_77⟩ : ∃ q : Int, q = wr (x1_51 + 1) := ⟨_, rfl⟩
          have r_z1_77 : rg z1_77 := by rw [e_z1_77]; exact wr_rg _
          replace H := H z1_77 e_z1_77
          refine f_iinc (ls2 := [some (.ref 284), some (iv z1_77)]) 1 rfl rfl rfl e_z1_77 rfl ?_
          refine w_st (fun _ => rfl) ?_
          exact ih_51 z1_77 m76 (Nat.lt_of_lt_of_le H.2 (Nat.le_of_lt_succ hz_51)) r_z1_77 H.1
    exact lp_51 _ 0 m_49 (Nat.lt_succ_self _) (by unfold rg; decide) H0_51
  refine b_ne rfl (rd_rg _ _ _) (by unfold rg; decide) (fun hq => ?_) (fun hq => ?_)
  · replace H := H.1 hq
    exact tl_49 m none  H
  · replace H := H.2 hq
    refine f_int 0 rfl rfl ?_
    refine w_st (ls2 := [some (.ref 284), some (iv 0)]) (fun _ => rfl) ?_
    obtain ⟨I_11, mu_11, H0_11, HB_11⟩ := H
    have lp_11 : ∀ (z : Nat) (x1_11 : Int) (m_11 : Mm), mu_11 x1_11 m_11 < z → rg x1_11 → I_11 x1_11 m_11 → mm_W d mc_240 11 [some (.ref 284), some (iv x1_11)] [] (fm m_11) (XV Q) := by
      intro z
      induction z with
      | zero => intro x1_11 m_11 hz; exact absurd hz (Nat.not_lt_zero _)
      | succ z ih_11 =>
        intro x1_11 m_11 hz_11 r_x1_11 hI
        have H := HB_11 x1_11 m_11 r_x1_11 hI
        refine w_st (fun _ => rfl) ?_
        refine f_int 1989 rfl rfl ?_
        refine b_ge rfl r_x1_11 (by unfold rg; decide) (fun hq => ?_) (fun hq => ?_)
        · replace H := H.1 hq
          refine w_st (fun _ => rfl) ?_
          refine w_st (fun _ => rfl) ?_
          refine g_284_60 rfl ?_
          refine f_int 1 rfl rfl ?_
          refine f_sub rfl ?_
          obtain ⟨m46, e_m46⟩ : ∃ q : Mm, q = wt m_11 284 60 (wr ((rd m_11 284 60) - 1)) := ⟨_, rfl⟩
          replace H := H m46 e_m46
          refine p_284_60 rfl e_m46 ?_
          exact tl_49 m46 (some (iv x1_11))  H
        · replace H := H.2 hq
          refine w_st (fun _ => rfl) ?_
          refine g_284_61 rfl ?_
          refine w_st (fun _ => rfl) ?_
          refine w_st (fun _ => rfl) ?_
          refine g_284_61 rfl ?_
          refine w_st (fun _ => rfl) ?_
          refine f_int 51 rfl rfl ?_
          refine f_add rfl ?_
          refine f_ld ir_324 rfl H.1 ?_
          replace H := H.2
          obtain ⟨m32, e_m32⟩ : ∃ q : Mm, q = wt m_11 324 (Int.toNat x1_11) (rd m_11 324 (Int.toNat (wr (x1_11 + 51)))) := ⟨_, rfl⟩
          refine f_st ir_324 rfl H.1 e_m32 ?_
          replace H := H.2 m32 e_m32
          obtain ⟨z1_33, e_z1_33⟩ : ∃ q : Int, q = wr (x1_11 + 1) := ⟨_, rfl⟩
          have r_z1_33 : rg z1_33 := by rw [e_z1_33]; exact wr_rg _
          replace H := H z1_33 e_z1_33
          refine f_iinc (ls2 := [some (.ref 284), some (iv z1_33)]) 1 rfl rfl rfl e_z1_33 rfl ?_
          refine w_st (fun _ => rfl) ?_
          exact ih_11 z1_33 m32 (Nat.lt_of_lt_of_le H.2 (Nat.le_of_lt_succ hz_11)) r_z1_33 H.1
    exact lp_11 _ 0 m (Nat.lt_succ_self _) (by unfold rg; decide) H0_11
/-- TippedCratesModel.tip(II)I -/
def P_241 (d : Nat) (m : Mm) (x1 : Int) (x2 : Int) (Q : Mm → Int → Prop) : Prop :=
  CV d 216 [.ref 284] m (fun m1 =>
    CK d 210 [.ref 284, iv x1] m1 (fun m6 v6 =>
    (∃ R_28 : Mm → Prop,
    ((v6 = 0 → R_28 m6) ∧
    (¬ v6 = 0 → CK d 212 [iv x2] m6 (fun m13 v13 =>
      ((v13 = 0 → R_28 m13) ∧
      (¬ v13 = 0 → CK d 224 [.ref 284, iv x1, iv x2] m13 (fun m22 v22 =>
        ((¬ v22 = 0 → CV d 233 [.ref 284, iv x1, iv x2] m22 (fun m33 =>
          CV d 240 [.ref 284] m33 (fun m37 =>
          (((0 : Int) ≤ (wr (43 + x1)) ∧ (wr (43 + x1)) < 51) ∧ Q m37 (rd m37 322 (Int.toNat (wr (43 + x1)))))))) ∧
        (v22 = 0 → R_28 m22)))))))) ∧
    (∀ (m_28 : Mm), R_28 m_28 →
    Q m_28 (-1)))))
set_option maxRecDepth 20000 in
theorem br_241 {d : Nat} {m : Mm} {x1 : Int} {x2 : Int} {Q : Mm → Int → Prop} (r_x1 : rg x1) (r_x2 : rg x2) (H : P_241 d m x1 x2 Q) : CK (d + 1) 241 [.ref 284, iv x1, iv x2] m Q := by
  unfold P_241 at H
  refine CK_of rfl ?_
  show mm_W d mc_241 0 [some (.ref 284), some (iv x1), some (iv x2)] [] (fm m) (XK Q)
  refine w_st (fun _ => rfl) ?_
  refine k_VV (as := []) rfl mg_241 rfl rfl (by decide) rfl rfl H (fun m1 H => ?_)
  refine w_st (fun _ => rfl) ?_
  refine w_st (fun _ => rfl) ?_
  refine k_VK (as := [iv x1]) rfl mg_241 rfl rfl (by decide) rfl rfl H (fun m6 v6 r_v6 H => ?_)
  obtain ⟨R_28, H, HJ_28⟩ := H
  have tl_28 : ∀ (m_28 : Mm), R_28 m_28 → mm_W d mc_241 28 [some (.ref 284), some (iv x1), some (iv x2)] [] (fm m_28) (XK Q) := by
    intro m_28  hR
    have H := HJ_28 m_28  hR
    refine f_int (-1) rfl rfl ?_
    exact f_iret rfl (by unfold rg; decide) H
  refine z_eq rfl r_v6 (fun hq => ?_) (fun hq => ?_)
  · replace H := H.1 hq
    exact tl_28 m6  H
  · replace H := H.2 hq
    refine w_st (fun _ => rfl) ?_
    refine k_SK (as := [iv x2]) rfl mg_241 rfl rfl rfl H (fun m13 v13 r_v13 H => ?_)
    refine z_eq rfl r_v13 (fun hq => ?_) (fun hq => ?_)
    · replace H := H.1 hq
      exact tl_28 m13  H
    · replace H := H.2 hq
      refine w_st (fun _ => rfl) ?_
      refine w_st (fun _ => rfl) ?_
      refine w_st (fun _ => rfl) ?_
      refine k_VK (as := [iv x1, iv x2]) rfl mg_241 rfl rfl (by decide) rfl rfl H (fun m22 v22 r_v22 H => ?_)
      refine z_ne rfl r_v22 (fun hq => ?_) (fun hq => ?_)
      · replace H := H.1 hq
        refine w_st (fun _ => rfl) ?_
        refine w_st (fun _ => rfl) ?_
        refine w_st (fun _ => rfl) ?_
        refine k_VV (as := [iv x1, iv x2]) rfl mg_241 rfl rfl (by decide) rfl rfl H (fun m33 H => ?_)
        refine w_st (fun _ => rfl) ?_
        refine k_VV (as := []) rfl mg_241 rfl rfl (by decide) rfl rfl H (fun m37 H => ?_)
        refine w_st (fun _ => rfl) ?_
        refine g_284_56 rfl ?_
        refine f_int 43 rfl rfl ?_
        refine w_st (fun _ => rfl) ?_
        refine f_add rfl ?_
        refine f_ld ir_322 rfl H.1 ?_
        replace H := H.2
        exact f_iret rfl (rd_rg _ _ _) H
      · replace H := H.2 hq
        exact tl_28 m22  H
/-- TippedCratesModel.paint(II)Z -/
def P_242 (d : Nat) (m : Mm) (x1 : Int) (x2 : Int) (Q : Mm → Int → Prop) : Prop :=
  CV d 216 [.ref 284] m (fun m1 =>
    CK d 209 [.ref 284, iv x1] m1 (fun m6 v6 =>
    (∃ R_45 : Mm → Prop,
    ((v6 = 0 → R_45 m6) ∧
    (¬ v6 = 0 → CK d 211 [iv x2] m6 (fun m13 v13 =>
      ((v13 = 0 → R_45 m13) ∧
      (¬ v13 = 0 → (((0 : Int) ≤ x1 ∧ x1 < 51) ∧ (((rd m13 323 (Int.toNat x1)) = x2 → R_45 m13) ∧
        (¬ (rd m13 323 (Int.toNat x1)) = x2 → CK d 213 [.ref 284, iv x1] m13 (fun m31 v31 =>
          ((¬ v31 = 0 → R_45 m31) ∧
          (v31 = 0 → CK d 237 [.ref 284, iv x1] m31 (fun m39 v39 =>
            ((v39 < 0 → (((0 : Int) ≤ x1 ∧ x1 < 51) ∧ (∀ m53 : Mm, m53 = wt m39 323 (Int.toNat x1) x2 → CV d 240 [.ref 284] m53 (fun m55 =>
              Q m55 1)))) ∧
            (¬ v39 < 0 → R_45 m39)))))))))))))) ∧
    (∀ (m_45 : Mm), R_45 m_45 →
    Q m_45 0))))
set_option maxRecDepth 20000 in
theorem br_242 {d : Nat} {m : Mm} {x1 : Int} {x2 : Int} {Q : Mm → Int → Prop} (r_x1 : rg x1) (r_x2 : rg x2) (H : P_242 d m x1 x2 Q) : CK (d + 1) 242 [.ref 284, iv x1, iv x2] m Q := by
  unfold P_242 at H
  refine CK_of rfl ?_
  show mm_W d mc_242 0 [some (.ref 284), some (iv x1), some (iv x2)] [] (fm m) (XK Q)
  refine w_st (fun _ => rfl) ?_
  refine k_VV (as := []) rfl mg_242 rfl rfl (by decide) rfl rfl H (fun m1 H => ?_)
  refine w_st (fun _ => rfl) ?_
  refine w_st (fun _ => rfl) ?_
  refine k_VK (as := [iv x1]) rfl mg_242 rfl rfl (by decide) rfl rfl H (fun m6 v6 r_v6 H => ?_)
  obtain ⟨R_45, H, HJ_45⟩ := H
  have tl_45 : ∀ (m_45 : Mm), R_45 m_45 → mm_W d mc_242 45 [some (.ref 284), some (iv x1), some (iv x2)] [] (fm m_45) (XK Q) := by
    intro m_45  hR
    have H := HJ_45 m_45  hR
    refine f_int 0 rfl rfl ?_
    exact f_zret rfl (by unfold rg; decide) (Or.inl rfl) H
  refine z_eq rfl r_v6 (fun hq => ?_) (fun hq => ?_)
  · replace H := H.1 hq
    exact tl_45 m6  H
  · replace H := H.2 hq
    refine w_st (fun _ => rfl) ?_
    refine k_SK (as := [iv x2]) rfl mg_242 rfl rfl rfl H (fun m13 v13 r_v13 H => ?_)
    refine z_eq rfl r_v13 (fun hq => ?_) (fun hq => ?_)
    · replace H := H.1 hq
      exact tl_45 m13  H
    · replace H := H.2 hq
      refine w_st (fun _ => rfl) ?_
      refine g_284_57 rfl ?_
      refine w_st (fun _ => rfl) ?_
      refine f_ld ir_323 rfl H.1 ?_
      replace H := H.2
      refine w_st (fun _ => rfl) ?_
      refine b_eq rfl (rd_rg _ _ _) r_x2 (fun hq => ?_) (fun hq => ?_)
      · replace H := H.1 hq
        exact tl_45 m13  H
      · replace H := H.2 hq
        refine w_st (fun _ => rfl) ?_
        refine w_st (fun _ => rfl) ?_
        refine k_VK (as := [iv x1]) rfl mg_242 rfl rfl (by decide) rfl rfl H (fun m31 v31 r_v31 H => ?_)
        refine z_ne rfl r_v31 (fun hq => ?_) (fun hq => ?_)
        · replace H := H.1 hq
          exact tl_45 m31  H
        · replace H := H.2 hq
          refine w_st (fun _ => rfl) ?_
          refine w_st (fun _ => rfl) ?_
          refine k_VK (as := [iv x1]) rfl mg_242 rfl rfl (by decide) rfl rfl H (fun m39 v39 r_v39 H => ?_)
          refine z_lt rfl r_v39 (fun hq => ?_) (fun hq => ?_)
          · replace H := H.1 hq
            refine w_st (fun _ => rfl) ?_
            refine g_284_57 rfl ?_
            refine w_st (fun _ => rfl) ?_
            refine w_st (fun _ => rfl) ?_
            obtain ⟨m53, e_m53⟩ : ∃ q : Mm, q = wt m39 323 (Int.toNat x1) x2 := ⟨_, rfl⟩
            refine f_st ir_323 rfl H.1 e_m53 ?_
            replace H := H.2 m53 e_m53
            refine w_st (fun _ => rfl) ?_
            refine k_VV (as := []) rfl mg_242 rfl rfl (by decide) rfl rfl H (fun m55 H => ?_)
            refine f_int 1 rfl rfl ?_
            exact f_zret rfl (by unfold rg; decide) (Or.inr rfl) H
          · replace H := H.2 hq
            exact tl_45 m39  H
/-- TippedCratesModel.isLong(I)Z -/
def P_243 (d : Nat) (m : Mm) (x0 : Int) (Q : Mm → Int → Prop) : Prop :=
  CK d 206 [iv x0, iv 0, iv 60] m (fun m4 v4 =>
    ((v4 = 0 ∨ v4 = 1) ∧ Q m4 v4))
set_option maxRecDepth 20000 in
theorem br_243 {d : Nat} {m : Mm} {x0 : Int} {Q : Mm → Int → Prop} (r_x0 : rg x0) (H : P_243 d m x0 Q) : CK (d + 1) 243 [iv x0] m Q := by
  unfold P_243 at H
  refine CK_of rfl ?_
  show mm_W d mc_243 0 [some (iv x0)] [] (fm m) (XK Q)
  refine w_st (fun _ => rfl) ?_
  refine f_int 0 rfl rfl ?_
  refine f_int 60 rfl rfl ?_
  refine k_SK (as := [iv x0, iv 0, iv 60]) rfl mg_243 rfl rfl rfl H (fun m4 v4 r_v4 H => ?_)
  exact f_zret rfl r_v4 H.1 H.2
/-- TippedCratesModel.minutes(I)I -/
def P_244 (d : Nat) (m : Mm) (x1 : Int) (Q : Mm → Int → Prop) : Prop :=
  CK d 243 [iv x1] m (fun m1 v1 =>
    ((¬ v1 = 0 → ((¬ x1 = 0 → CV d 216 [.ref 284] m1 (fun m22 =>
        CV d 235 [.ref 284, iv x1] m22 (fun m27 =>
        CV d 240 [.ref 284] m27 (fun m31 =>
        Q m31 (rd m31 322 49))))) ∧
      (x1 = 0 → Q m1 (rd m1 322 49)))) ∧
    (v1 = 0 → Q m1 (-1))))
set_option maxRecDepth 20000 in
theorem br_244 {d : Nat} {m : Mm} {x1 : Int} {Q : Mm → Int → Prop} (r_x1 : rg x1) (H : P_244 d m x1 Q) : CK (d + 1) 244 [.ref 284, iv x1] m Q := by
  unfold P_244 at H
  refine CK_of rfl ?_
  show mm_W d mc_244 0 [some (.ref 284), some (iv x1)] [] (fm m) (XK Q)
  refine w_st (fun _ => rfl) ?_
  refine k_SK (as := [iv x1]) rfl mg_244 rfl rfl rfl H (fun m1 v1 r_v1 H => ?_)
  refine z_ne rfl r_v1 (fun hq => ?_) (fun hq => ?_)
  · replace H := H.1 hq
    refine w_st (fun _ => rfl) ?_
    refine z_ne rfl r_x1 (fun hq => ?_) (fun hq => ?_)
    · replace H := H.1 hq
      refine w_st (fun _ => rfl) ?_
      refine k_VV (as := []) rfl mg_244 rfl rfl (by decide) rfl rfl H (fun m22 H => ?_)
      refine w_st (fun _ => rfl) ?_
      refine w_st (fun _ => rfl) ?_
      refine k_VV (as := [iv x1]) rfl mg_244 rfl rfl (by decide) rfl rfl H (fun m27 H => ?_)
      refine w_st (fun _ => rfl) ?_
      refine k_VV (as := []) rfl mg_244 rfl rfl (by decide) rfl rfl H (fun m31 H => ?_)
      refine w_st (fun _ => rfl) ?_
      refine g_284_56 rfl ?_
      refine f_int 49 rfl rfl ?_
      refine f_ld ir_322 rfl ⟨by decide, by decide⟩ ?_
      exact f_iret rfl (rd_rg _ _ _) H
    · replace H := H.2 hq
      refine w_st (fun _ => rfl) ?_
      refine g_284_56 rfl ?_
      refine f_int 49 rfl rfl ?_
      refine f_ld ir_322 rfl ⟨by decide, by decide⟩ ?_
      exact f_iret rfl (rd_rg _ _ _) H
  · replace H := H.2 hq
    refine f_int (-1) rfl rfl ?_
    exact f_iret rfl (by unfold rg; decide) H
/-- TippedCratesModel.undo()Z -/
def P_245 (d : Nat) (m : Mm)  (Q : Mm → Int → Prop) : Prop :=
  ((¬ (rd m 284 60) = 0 → (∀ m16 : Mm, m16 = wt m 284 60 (wr ((rd m 284 60) - 1)) → (∃ (I_21 : Int → Mm → Prop) (mu_21 : Int → Mm → Nat), I_21 0 m16 ∧
      ∀ (x1_21 : Int) (m_21 : Mm), rg x1_21 → I_21 x1_21 m_21 →
      ((51 ≤ x1_21 → Q m_21 1) ∧
          (¬ 51 ≤ x1_21 → (((0 : Int) ≤ (wr ((wr (51 * (rd m_21 284 60))) + x1_21)) ∧ (wr ((wr (51 * (rd m_21 284 60))) + x1_21)) < 2040) ∧ (((0 : Int) ≤ x1_21 ∧ x1_21 < 51) ∧ (∀ m46 : Mm, m46 = wt m_21 322 (Int.toNat x1_21) (rd m_21 324 (Int.toNat (wr ((wr (51 * (rd m_21 284 60))) + x1_21)))) → (∀ z1_47 : Int, z1_47 = wr (x1_21 + 1) → (I_21 z1_47 m46 ∧ mu_21 z1_47 m46 < mu_21 x1_21 m_21)))))))))) ∧
    ((rd m 284 60) = 0 → Q m 0))
set_option maxRecDepth 20000 in
theorem br_245 {d : Nat} {m : Mm}  {Q : Mm → Int → Prop}  (H : P_245 d m  Q) : CK (d + 1) 245 [.ref 284] m Q := by
  unfold P_245 at H
  refine CK_of rfl ?_
  show mm_W d mc_245 0 [some (.ref 284), none] [] (fm m) (XK Q)
  refine w_st (fun _ => rfl) ?_
  refine g_284_60 rfl ?_
  refine z_ne rfl (rd_rg _ _ _) (fun hq => ?_) (fun hq => ?_)
  · replace H := H.1 hq
    refine w_st (fun _ => rfl) ?_
    refine w_st (fun _ => rfl) ?_
    refine g_284_60 rfl ?_
    refine f_int 1 rfl rfl ?_
    refine f_sub rfl ?_
    obtain ⟨m16, e_m16⟩ : ∃ q : Mm, q = wt m 284 60 (wr ((rd m 284 60) - 1)) := ⟨_, rfl⟩
    replace H := H m16 e_m16
    refine p_284_60 rfl e_m16 ?_
    refine f_int 0 rfl rfl ?_
    refine w_st (ls2 := [some (.ref 284), some (iv 0)]) (fun _ => rfl) ?_
    obtain ⟨I_21, mu_21, H0_21, HB_21⟩ := H
    have lp_21 : ∀ (z : Nat) (x1_21 : Int) (m_21 : Mm), mu_21 x1_21 m_21 < z → rg x1_21 → I_21 x1_21 m_21 → mm_W d mc_245 21 [some (.ref 284), some (iv x1_21)] [] (fm m_21) (XK Q) := by
      intro z
      induction z with
      | zero => intro x1_21 m_21 hz; exact absurd hz (Nat.not_lt_zero _)
      | succ z ih_21 =>
        intro x1_21 m_21 hz_21 r_x1_21 hI
        have H := HB_21 x1_21 m_21 r_x1_21 hI
        refine w_st (fun _ => rfl) ?_
        refine f_int 51 rfl rfl ?_
        refine b_ge rfl r_x1_21 (by unfold rg; decide) (fun hq => ?_) (fun hq => ?_)
        · replace H := H.1 hq
          refine f_int 1 rfl rfl ?_
          exact f_zret rfl (by unfold rg; decide) (Or.inr rfl) H
        · replace H := H.2 hq
          refine w_st (fun _ => rfl) ?_
          refine g_284_56 rfl ?_
          refine w_st (fun _ => rfl) ?_
          refine w_st (fun _ => rfl) ?_
          refine g_284_61 rfl ?_
          refine f_int 51 rfl rfl ?_
          refine w_st (fun _ => rfl) ?_
          refine g_284_60 rfl ?_
          refine f_mul rfl ?_
          refine w_st (fun _ => rfl) ?_
          refine f_add rfl ?_
          refine f_ld ir_324 rfl H.1 ?_
          replace H := H.2
          obtain ⟨m46, e_m46⟩ : ∃ q : Mm, q = wt m_21 322 (Int.toNat x1_21) (rd m_21 324 (Int.toNat (wr ((wr (51 * (rd m_21 284 60))) + x1_21)))) := ⟨_, rfl⟩
          refine f_st ir_322 rfl H.1 e_m46 ?_
          replace H := H.2 m46 e_m46
          obtain ⟨z1_47, e_z1_47⟩ : ∃ q : Int, q = wr (x1_21 + 1) := ⟨_, rfl⟩
          have r_z1_47 : rg z1_47 := by rw [e_z1_47]; exact wr_rg _
          replace H := H z1_47 e_z1_47
          refine f_iinc (ls2 := [some (.ref 284), some (iv z1_47)]) 1 rfl rfl rfl e_z1_47 rfl ?_
          refine w_st (fun _ => rfl) ?_
          exact ih_21 z1_47 m46 (Nat.lt_of_lt_of_le H.2 (Nat.le_of_lt_succ hz_21)) r_z1_47 H.1
    exact lp_21 _ 0 m16 (Nat.lt_succ_self _) (by unfold rg; decide) H0_21
  · replace H := H.2 hq
    refine f_int 0 rfl rfl ?_
    exact f_zret rfl (by unfold rg; decide) (Or.inl rfl) H
/-- TippedCratesModel.fillsLeads(I)V -/
def P_246 (d : Nat) (m : Mm) (x1 : Int) (Q : Mm → Prop) : Prop :=
  CV d 216 [.ref 284] m (fun m1 =>
    (∃ (I_6 : Int → Mm → Prop) (mu_6 : Int → Mm → Nat), I_6 0 m1 ∧
    ∀ (x2_6 : Int) (m_6 : Mm), rg x2_6 → I_6 x2_6 m_6 →
    CK d 208 [.ref 284] m_6 (fun m8 v8 =>
        ((v8 ≤ x2_6 → Q m8) ∧
        (¬ v8 ≤ x2_6 → (∃ (I_16 : Int → Mm → Prop) (mu_16 : Int → Mm → Nat), I_16 0 m8 ∧
          ∀ (x3_16 : Int) (m_16 : Mm), rg x3_16 → I_16 x3_16 m_16 →
          ((4 ≤ x3_16 → (∀ z2_107 : Int, z2_107 = wr (x2_6 + 1) → (I_6 z2_107 m_16 ∧ mu_6 z2_107 m_16 < mu_6 x2_6 m_6))) ∧
              (¬ 4 ≤ x3_16 → CK d 223 [.ref 284, iv x1, iv x2_6, iv x3_16] m_16 (fun m25 v25 =>
                (∃ R_41 : Int → Mm → Prop,
                ((v25 = 0 → R_41 (-1) m25) ∧
                (¬ v25 = 0 → CK d 221 [.ref 284, iv x2_6, iv x3_16] m25 (fun m34 v34 =>
                  R_41 v34 m34))) ∧
                (∀ (s0_41 : Int) (m_41 : Mm), rg s0_41 → R_41 s0_41 m_41 →
                (∃ (I_46 : Int → Mm → Prop) (mu_46 : Int → Mm → Nat), I_46 0 m_41 ∧
                  ∀ (x5_46 : Int) (m_46 : Mm), rg x5_46 → I_46 x5_46 m_46 →
                  ((24 ≤ x5_46 → (∀ z3_101 : Int, z3_101 = wr (x3_16 + 1) → (I_16 z3_101 m_46 ∧ mu_16 z3_101 m_46 < mu_16 x3_16 m_16))) ∧
                      (¬ 24 ≤ x5_46 → (∃ R_94 : Int → Prop,
                        ((0 ≤ s0_41 → (((0 : Int) ≤ (wr ((wr (4 * x5_46)) + x3_16)) ∧ (wr ((wr (4 * x5_46)) + x3_16)) < 96) ∧ R_94 (wr ((wr (24 * s0_41)) + (rd m_46 320 (Int.toNat (wr ((wr (4 * x5_46)) + x3_16)))))))) ∧
                        (¬ 0 ≤ s0_41 → R_94 (-1))) ∧
                        (∀ (s2_94 : Int) , rg s2_94 → R_94 s2_94 →
                        (((0 : Int) ≤ (wr ((wr ((wr (96 * x2_6)) + (wr (4 * x5_46)))) + x3_16)) ∧ (wr ((wr ((wr (96 * x2_6)) + (wr (4 * x5_46)))) + x3_16)) < 2400) ∧ (∀ m94 : Mm, m94 = wt m_46 325 (Int.toNat (wr ((wr ((wr (96 * x2_6)) + (wr (4 * x5_46)))) + x3_16))) s2_94 → (∀ z5_95 : Int, z5_95 = wr (x5_46 + 1) → (I_46 z5_95 m94 ∧ mu_46 z5_95 m94 < mu_46 x5_46 m_46))))))))))))))))))))
set_option maxRecDepth 20000 in
theorem br_246 {d : Nat} {m : Mm} {x1 : Int} {Q : Mm → Prop} (r_x1 : rg x1) (H : P_246 d m x1 Q) : CV (d + 1) 246 [.ref 284, iv x1] m Q := by
  unfold P_246 at H
  refine CV_of rfl ?_
  show mm_W d mc_246 0 [some (.ref 284), some (iv x1), none, none, none, none] [] (fm m) (XV Q)
  refine w_st (fun _ => rfl) ?_
  refine k_VV (as := []) rfl mg_246 rfl rfl (by decide) rfl rfl H (fun m1 H => ?_)
  refine f_int 0 rfl rfl ?_
  refine w_st (ls2 := [some (.ref 284), some (iv x1), some (iv 0), none, none, none]) (fun _ => rfl) ?_
  obtain ⟨I_6, mu_6, H0_6, HB_6⟩ := H
  have lp_6 : ∀ (z : Nat) (x2_6 : Int) (m_6 : Mm) (g3_6 g4_6 g5_6 : Option Value), mu_6 x2_6 m_6 < z → rg x2_6 → I_6 x2_6 m_6 → mm_W d mc_246 6 [some (.ref 284), some (iv x1), some (iv x2_6), g3_6, g4_6, g5_6] [] (fm m_6) (XV Q) := by
    intro z
    induction z with
    | zero => intro x2_6 m_6 g3_6 g4_6 g5_6 hz; exact absurd hz (Nat.not_lt_zero _)
    | succ z ih_6 =>
      intro x2_6 m_6 g3_6 g4_6 g5_6 hz_6 r_x2_6 hI
      have H := HB_6 x2_6 m_6 r_x2_6 hI
      refine w_st (fun _ => rfl) ?_
      refine w_st (fun _ => rfl) ?_
      refine k_VK (as := []) rfl mg_246 rfl rfl (by decide) rfl rfl H (fun m8 v8 r_v8 H => ?_)
      refine b_ge rfl r_x2_6 r_v8 (fun hq => ?_) (fun hq => ?_)
      · replace H := H.1 hq
        exact f_ret rfl H
      · replace H := H.2 hq
        refine f_int 0 rfl rfl ?_
        refine w_st (ls2 := [some (.ref 284), some (iv x1), some (iv x2_6), some (iv 0), g4_6, g5_6]) (fun _ => rfl) ?_
        obtain ⟨I_16, mu_16, H0_16, HB_16⟩ := H
        have lp_16 : ∀ (z : Nat) (x3_16 : Int) (m_16 : Mm) (g4_16 g5_16 : Option Value), mu_16 x3_16 m_16 < z → rg x3_16 → I_16 x3_16 m_16 → mm_W d mc_246 16 [some (.ref 284), some (iv x1), some (iv x2_6), some (iv x3_16), g4_16, g5_16] [] (fm m_16) (XV Q) := by
          intro z
          induction z with
          | zero => intro x3_16 m_16 g4_16 g5_16 hz; exact absurd hz (Nat.not_lt_zero _)
          | succ z ih_16 =>
            intro x3_16 m_16 g4_16 g5_16 hz_16 r_x3_16 hI
            have H := HB_16 x3_16 m_16 r_x3_16 hI
            refine w_st (fun _ => rfl) ?_
            refine f_int 4 rfl rfl ?_
            refine b_ge rfl r_x3_16 (by unfold rg; decide) (fun hq => ?_) (fun hq => ?_)
            · replace H := H.1 hq
              obtain ⟨z2_107, e_z2_107⟩ : ∃ q : Int, q = wr (x2_6 + 1) := ⟨_, rfl⟩
              have r_z2_107 : rg z2_107 := by rw [e_z2_107]; exact wr_rg _
              replace H := H z2_107 e_z2_107
              refine f_iinc (ls2 := [some (.ref 284), some (iv x1), some (iv z2_107), some (iv x3_16), g4_16, g5_16]) 1 rfl rfl rfl e_z2_107 rfl ?_
              refine w_st (fun _ => rfl) ?_
              exact ih_6 z2_107 m_16 (some (iv x3_16)) g4_16 g5_16 (Nat.lt_of_lt_of_le H.2 (Nat.le_of_lt_succ hz_6)) r_z2_107 H.1
            · replace H := H.2 hq
              refine w_st (fun _ => rfl) ?_
              refine w_st (fun _ => rfl) ?_
              refine w_st (fun _ => rfl) ?_
              refine w_st (fun _ => rfl) ?_
              refine k_VK (as := [iv x1, iv x2_6, iv x3_16]) rfl mg_246 rfl rfl (by decide) rfl rfl H (fun m25 v25 r_v25 H => ?_)
              obtain ⟨R_41, H, HJ_41⟩ := H
              have tl_41 : ∀ (s0_41 : Int) (m_41 : Mm), rg s0_41 → R_41 s0_41 m_41 → mm_W d mc_246 41 [some (.ref 284), some (iv x1), some (iv x2_6), some (iv x3_16), g4_16, g5_16] [iv s0_41] (fm m_41) (XV Q) := by
                intro s0_41 m_41 r_s0_41 hR
                have H := HJ_41 s0_41 m_41 r_s0_41 hR
                refine w_st (ls2 := [some (.ref 284), some (iv x1), some (iv x2_6), some (iv x3_16), some (iv s0_41), g5_16]) (fun _ => rfl) ?_
                refine f_int 0 rfl rfl ?_
                refine w_st (ls2 := [some (.ref 284), some (iv x1), some (iv x2_6), some (iv x3_16), some (iv s0_41), some (iv 0)]) (fun _ => rfl) ?_
                obtain ⟨I_46, mu_46, H0_46, HB_46⟩ := H
                have lp_46 : ∀ (z : Nat) (x5_46 : Int) (m_46 : Mm), mu_46 x5_46 m_46 < z → rg x5_46 → I_46 x5_46 m_46 → mm_W d mc_246 46 [some (.ref 284), some (iv x1), some (iv x2_6), some (iv x3_16), some (iv s0_41), some (iv x5_46)] [] (fm m_46) (XV Q) := by
                  intro z
                  induction z with
                  | zero => intro x5_46 m_46 hz; exact absurd hz (Nat.not_lt_zero _)
                  | succ z ih_46 =>
                    intro x5_46 m_46 hz_46 r_x5_46 hI
                    have H := HB_46 x5_46 m_46 r_x5_46 hI
                    refine w_st (fun _ => rfl) ?_
                    refine f_int 24 rfl rfl ?_
                    refine b_ge rfl r_x5_46 (by unfold rg; decide) (fun hq => ?_) (fun hq => ?_)
                    · replace H := H.1 hq
                      obtain ⟨z3_101, e_z3_101⟩ : ∃ q : Int, q = wr (x3_16 + 1) := ⟨_, rfl⟩
                      have r_z3_101 : rg z3_101 := by rw [e_z3_101]; exact wr_rg _
                      replace H := H z3_101 e_z3_101
                      refine f_iinc (ls2 := [some (.ref 284), some (iv x1), some (iv x2_6), some (iv z3_101), some (iv s0_41), some (iv x5_46)]) 1 rfl rfl rfl e_z3_101 rfl ?_
                      refine w_st (fun _ => rfl) ?_
                      exact ih_16 z3_101 m_46 (some (iv s0_41)) (some (iv x5_46)) (Nat.lt_of_lt_of_le H.2 (Nat.le_of_lt_succ hz_16)) r_z3_101 H.1
                    · replace H := H.2 hq
                      refine w_st (fun _ => rfl) ?_
                      refine g_284_62 rfl ?_
                      refine f_int 96 rfl rfl ?_
                      refine w_st (fun _ => rfl) ?_
                      refine f_mul rfl ?_
                      refine f_int 4 rfl rfl ?_
                      refine w_st (fun _ => rfl) ?_
                      refine f_mul rfl ?_
                      refine f_add rfl ?_
                      refine w_st (fun _ => rfl) ?_
                      refine f_add rfl ?_
                      refine w_st (fun _ => rfl) ?_
                      obtain ⟨R_94, H, HJ_94⟩ := H
                      have tl_94 : ∀ (s2_94 : Int) , rg s2_94 → R_94 s2_94 → mm_W d mc_246 94 [some (.ref 284), some (iv x1), some (iv x2_6), some (iv x3_16), some (iv s0_41), some (iv x5_46)] [iv s2_94, iv (wr ((wr ((wr (96 * x2_6)) + (wr (4 * x5_46)))) + x3_16)), .ref 325] (fm m_46) (XV Q) := by
                        intro s2_94 r_s2_94 hR
                        have H := HJ_94 s2_94 r_s2_94 hR
                        obtain ⟨m94, e_m94⟩ : ∃ q : Mm, q = wt m_46 325 (Int.toNat (wr ((wr ((wr (96 * x2_6)) + (wr (4 * x5_46)))) + x3_16))) s2_94 := ⟨_, rfl⟩
                        refine f_st ir_325 rfl H.1 e_m94 ?_
                        replace H := H.2 m94 e_m94
                        obtain ⟨z5_95, e_z5_95⟩ : ∃ q : Int, q = wr (x5_46 + 1) := ⟨_, rfl⟩
                        have r_z5_95 : rg z5_95 := by rw [e_z5_95]; exact wr_rg _
                        replace H := H z5_95 e_z5_95
                        refine f_iinc (ls2 := [some (.ref 284), some (iv x1), some (iv x2_6), some (iv x3_16), some (iv s0_41), some (iv z5_95)]) 1 rfl rfl rfl e_z5_95 rfl ?_
                        refine w_st (fun _ => rfl) ?_
                        exact ih_46 z5_95 m94 (Nat.lt_of_lt_of_le H.2 (Nat.le_of_lt_succ hz_46)) r_z5_95 H.1
                      refine z_ge rfl r_s0_41 (fun hq => ?_) (fun hq => ?_)
                      · replace H := H.1 hq
                        refine f_int 24 rfl rfl ?_
                        refine w_st (fun _ => rfl) ?_
                        refine f_mul rfl ?_
                        refine w_st (fun _ => rfl) ?_
                        refine g_284_53 rfl ?_
                        refine f_int 4 rfl rfl ?_
                        refine w_st (fun _ => rfl) ?_
                        refine f_mul rfl ?_
                        refine w_st (fun _ => rfl) ?_
                        refine f_add rfl ?_
                        refine f_ld ir_320 rfl H.1 ?_
                        replace H := H.2
                        refine f_add rfl ?_
                        exact tl_94 (wr ((wr (24 * s0_41)) + (rd m_46 320 (Int.toNat (wr ((wr (4 * x5_46)) + x3_16)))))) (wr_rg _) H
                      · replace H := H.2 hq
                        refine f_int (-1) rfl rfl ?_
                        refine w_st (fun _ => rfl) ?_
                        exact tl_94 (-1) (by unfold rg; decide) H
                exact lp_46 _ 0 m_41 (Nat.lt_succ_self _) (by unfold rg; decide) H0_46
              refine z_eq rfl r_v25 (fun hq => ?_) (fun hq => ?_)
              · replace H := H.1 hq
                refine f_int (-1) rfl rfl ?_
                exact tl_41 (-1) m25 (by unfold rg; decide) H
              · replace H := H.2 hq
                refine w_st (fun _ => rfl) ?_
                refine w_st (fun _ => rfl) ?_
                refine w_st (fun _ => rfl) ?_
                refine k_VK (as := [iv x2_6, iv x3_16]) rfl mg_246 rfl rfl (by decide) rfl rfl H (fun m34 v34 r_v34 H => ?_)
                refine w_st (fun _ => rfl) ?_
                exact tl_41 v34 m34 r_v34 H
        exact lp_16 _ 0 m8 g4_6 g5_6 (Nat.lt_succ_self _) (by unfold rg; decide) H0_16
  exact lp_6 _ 0 m1 none none none (Nat.lt_succ_self _) (by unfold rg; decide) H0_6
/-- TippedCratesModel.standings()I -/
def P_247 (d : Nat) (m : Mm)  (Q : Mm → Int → Prop) : Prop :=
  CK d 208 [.ref 284] m (fun m3 v3 =>
    Q m3 (wr (24 * v3)))
set_option maxRecDepth 20000 in
theorem br_247 {d : Nat} {m : Mm}  {Q : Mm → Int → Prop}  (H : P_247 d m  Q) : CK (d + 1) 247 [.ref 284] m Q := by
  unfold P_247 at H
  refine CK_of rfl ?_
  show mm_W d mc_247 0 [some (.ref 284)] [] (fm m) (XK Q)
  refine f_int 24 rfl rfl ?_
  refine w_st (fun _ => rfl) ?_
  refine k_VK (as := []) rfl mg_247 rfl rfl (by decide) rfl rfl H (fun m3 v3 r_v3 H => ?_)
  refine f_mul rfl ?_
  exact f_iret rfl (wr_rg _) H
/-- TippedCratesModel.markOf(III)I -/
def P_248 (d : Nat) (m : Mm) (x1 : Int) (x2 : Int) (x3 : Int) (Q : Mm → Int → Prop) : Prop :=
  CK d 227 [.ref 284, iv x1, iv (rmI x2 24), iv x3] m (fun m7 v7 =>
    Q m7 v7)
set_option maxRecDepth 20000 in
theorem br_248 {d : Nat} {m : Mm} {x1 : Int} {x2 : Int} {x3 : Int} {Q : Mm → Int → Prop} (r_x1 : rg x1) (r_x2 : rg x2) (r_x3 : rg x3) (H : P_248 d m x1 x2 x3 Q) : CK (d + 1) 248 [.ref 284, iv x1, iv x2, iv x3] m Q := by
  unfold P_248 at H
  refine CK_of rfl ?_
  show mm_W d mc_248 0 [some (.ref 284), some (iv x1), some (iv x2), some (iv x3)] [] (fm m) (XK Q)
  refine w_st (fun _ => rfl) ?_
  refine w_st (fun _ => rfl) ?_
  refine w_st (fun _ => rfl) ?_
  refine f_int 24 rfl rfl ?_
  refine f_rmI rfl (by unfold rg; decide) (by decide) ?_
  refine w_st (fun _ => rfl) ?_
  refine k_VK (as := [iv x1, iv (rmI x2 24), iv x3]) rfl mg_248 rfl rfl (by decide) rfl rfl H (fun m7 v7 r_v7 H => ?_)
  exact f_iret rfl r_v7 H
/-- TippedCratesModel.goesThrough(I)V -/
def P_249 (d : Nat) (m : Mm) (x1 : Int) (Q : Mm → Prop) : Prop :=
  CV d 246 [.ref 284, iv x1] m (fun m2 =>
    (∃ (I_7 : Int → Mm → Prop) (mu_7 : Int → Mm → Nat), I_7 0 m2 ∧
    ∀ (x2_7 : Int) (m_7 : Mm), rg x2_7 → I_7 x2_7 m_7 →
    ((600 ≤ x2_7 → (((0 : Int) ≤ (wr (43 + x1)) ∧ (wr (43 + x1)) < 51) ∧ (∀ m44 : Mm, m44 = wt m_7 329 0 (wr (24 * (rd m_7 323 (Int.toNat (wr (43 + x1)))))) → (((0 : Int) ≤ (rd m44 329 0) ∧ (rd m44 329 0) < 600) ∧ (∀ m56 : Mm, m56 = wt m44 326 (Int.toNat (rd m44 329 0)) 0 → (∀ m59 : Mm, m59 = wt m56 284 67 1 → (∃ (I_64 : Int → Mm → Prop) (mu_64 : Int → Mm → Nat), I_64 0 m59 ∧
          ∀ (x2_64 : Int) (m_64 : Mm), rg x2_64 → I_64 x2_64 m_64 →
          (((rd m_64 284 67) ≤ x2_64 → Q m_64) ∧
              (¬ (rd m_64 284 67) ≤ x2_64 → (∃ (I_74 : Int → Mm → Prop) (mu_74 : Int → Mm → Nat), I_74 0 m_64 ∧
                ∀ (x3_74 : Int) (m_74 : Mm), rg x3_74 → I_74 x3_74 m_74 →
                ((4 ≤ x3_74 → (∀ z2_182 : Int, z2_182 = wr (x2_64 + 1) → (I_64 z2_182 m_74 ∧ mu_64 z2_182 m_74 < mu_64 x2_64 m_64))) ∧
                    (¬ 4 ≤ x3_74 → (((0 : Int) ≤ x2_64 ∧ x2_64 < 600) ∧ (((0 : Int) ≤ (wr ((wr (4 * (rd m_74 329 (Int.toNat x2_64)))) + x3_74)) ∧ (wr ((wr (4 * (rd m_74 329 (Int.toNat x2_64)))) + x3_74)) < 2400) ∧ (∀ z4_94 : Int, z4_94 = (rd m_74 325 (Int.toNat (wr ((wr (4 * (rd m_74 329 (Int.toNat x2_64)))) + x3_74)))) → (∃ R_176 : Mm → Prop,
                      ((z4_94 < 0 → R_176 m_74) ∧
                      (¬ z4_94 < 0 → (((0 : Int) ≤ z4_94 ∧ z4_94 < 600) ∧ (((rd m_74 326 (Int.toNat z4_94)) < 0 → (((0 : Int) ≤ x2_64 ∧ x2_64 < 600) ∧ (((0 : Int) ≤ (rd m_74 329 (Int.toNat x2_64)) ∧ (rd m_74 329 (Int.toNat x2_64)) < 600) ∧ (((0 : Int) ≤ z4_94 ∧ z4_94 < 600) ∧ (∀ m133 : Mm, m133 = wt m_74 326 (Int.toNat z4_94) (wr ((rd m_74 326 (Int.toNat (rd m_74 329 (Int.toNat x2_64)))) + 1)) → (((0 : Int) ≤ x2_64 ∧ x2_64 < 600) ∧ (((0 : Int) ≤ z4_94 ∧ z4_94 < 600) ∧ (∀ m146 : Mm, m146 = wt m133 327 (Int.toNat z4_94) (rd m133 329 (Int.toNat x2_64)) → (((0 : Int) ≤ z4_94 ∧ z4_94 < 600) ∧ (∀ m154 : Mm, m154 = wt m146 328 (Int.toNat z4_94) x3_74 → (((0 : Int) ≤ (rd m154 284 67) ∧ (rd m154 284 67) < 600) ∧ (∀ m165 : Mm, m165 = wt m154 329 (Int.toNat (rd m154 284 67)) z4_94 → (∀ m173 : Mm, m173 = wt m165 284 67 (wr ((rd m165 284 67) + 1)) → R_176 m173))))))))))))) ∧
                        (¬ (rd m_74 326 (Int.toNat z4_94)) < 0 → R_176 m_74))))) ∧
                      (∀ (m_176 : Mm), R_176 m_176 →
                      (∀ z3_176 : Int, z3_176 = wr (x3_74 + 1) → (I_74 z3_176 m_176 ∧ mu_74 z3_176 m_176 < mu_74 x3_74 m_74))))))))))))))))))) ∧
        (¬ 600 ≤ x2_7 → (((0 : Int) ≤ x2_7 ∧ x2_7 < 600) ∧ (∀ m20 : Mm, m20 = wt m_7 326 (Int.toNat x2_7) (-1) → (∀ z2_21 : Int, z2_21 = wr (x2_7 + 1) → (I_7 z2_21 m20 ∧ mu_7 z2_21 m20 < mu_7 x2_7 m_7))))))))
set_option maxRecDepth 20000 in
theorem br_249 {d : Nat} {m : Mm} {x1 : Int} {Q : Mm → Prop} (r_x1 : rg x1) (H : P_249 d m x1 Q) : CV (d + 1) 249 [.ref 284, iv x1] m Q := by
  unfold P_249 at H
  refine CV_of rfl ?_
  show mm_W d mc_249 0 [some (.ref 284), some (iv x1), none, none, none] [] (fm m) (XV Q)
  refine w_st (fun _ => rfl) ?_
  refine w_st (fun _ => rfl) ?_
  refine k_VV (as := [iv x1]) rfl mg_249 rfl rfl (by decide) rfl rfl H (fun m2 H => ?_)
  refine f_int 0 rfl rfl ?_
  refine w_st (ls2 := [some (.ref 284), some (iv x1), some (iv 0), none, none]) (fun _ => rfl) ?_
  obtain ⟨I_7, mu_7, H0_7, HB_7⟩ := H
  have lp_7 : ∀ (z : Nat) (x2_7 : Int) (m_7 : Mm), mu_7 x2_7 m_7 < z → rg x2_7 → I_7 x2_7 m_7 → mm_W d mc_249 7 [some (.ref 284), some (iv x1), some (iv x2_7), none, none] [] (fm m_7) (XV Q) := by
    intro z
    induction z with
    | zero => intro x2_7 m_7 hz; exact absurd hz (Nat.not_lt_zero _)
    | succ z ih_7 =>
      intro x2_7 m_7 hz_7 r_x2_7 hI
      have H := HB_7 x2_7 m_7 r_x2_7 hI
      refine w_st (fun _ => rfl) ?_
      refine f_int 600 rfl rfl ?_
      refine b_ge rfl r_x2_7 (by unfold rg; decide) (fun hq => ?_) (fun hq => ?_)
      · replace H := H.1 hq
        refine w_st (fun _ => rfl) ?_
        refine g_284_66 rfl ?_
        refine f_int 0 rfl rfl ?_
        refine f_int 24 rfl rfl ?_
        refine w_st (fun _ => rfl) ?_
        refine g_284_57 rfl ?_
        refine f_int 43 rfl rfl ?_
        refine w_st (fun _ => rfl) ?_
        refine f_add rfl ?_
        refine f_ld ir_323 rfl H.1 ?_
        replace H := H.2
        refine f_mul rfl ?_
        obtain ⟨m44, e_m44⟩ : ∃ q : Mm, q = wt m_7 329 0 (wr (24 * (rd m_7 323 (Int.toNat (wr (43 + x1)))))) := ⟨_, rfl⟩
        refine f_st ir_329 rfl ⟨by decide, by decide⟩ e_m44 ?_
        replace H := H m44 e_m44
        refine w_st (fun _ => rfl) ?_
        refine g_284_63 rfl ?_
        refine w_st (fun _ => rfl) ?_
        refine g_284_66 rfl ?_
        refine f_int 0 rfl rfl ?_
        refine f_ld ir_329 rfl ⟨by decide, by decide⟩ ?_
        refine f_int 0 rfl rfl ?_
        obtain ⟨m56, e_m56⟩ : ∃ q : Mm, q = wt m44 326 (Int.toNat (rd m44 329 0)) 0 := ⟨_, rfl⟩
        refine f_st ir_326 rfl H.1 e_m56 ?_
        replace H := H.2 m56 e_m56
        refine w_st (fun _ => rfl) ?_
        refine f_int 1 rfl rfl ?_
        obtain ⟨m59, e_m59⟩ : ∃ q : Mm, q = wt m56 284 67 1 := ⟨_, rfl⟩
        replace H := H m59 e_m59
        refine p_284_67 rfl e_m59 ?_
        refine f_int 0 rfl rfl ?_
        refine w_st (ls2 := [some (.ref 284), some (iv x1), some (iv 0), none, none]) (fun _ => rfl) ?_
        obtain ⟨I_64, mu_64, H0_64, HB_64⟩ := H
        have lp_64 : ∀ (z : Nat) (x2_64 : Int) (m_64 : Mm) (g3_64 g4_64 : Option Value), mu_64 x2_64 m_64 < z → rg x2_64 → I_64 x2_64 m_64 → mm_W d mc_249 64 [some (.ref 284), some (iv x1), some (iv x2_64), g3_64, g4_64] [] (fm m_64) (XV Q) := by
          intro z
          induction z with
          | zero => intro x2_64 m_64 g3_64 g4_64 hz; exact absurd hz (Nat.not_lt_zero _)
          | succ z ih_64 =>
            intro x2_64 m_64 g3_64 g4_64 hz_64 r_x2_64 hI
            have H := HB_64 x2_64 m_64 r_x2_64 hI
            refine w_st (fun _ => rfl) ?_
            refine w_st (fun _ => rfl) ?_
            refine g_284_67 rfl ?_
            refine b_ge rfl r_x2_64 (rd_rg _ _ _) (fun hq => ?_) (fun hq => ?_)
            · replace H := H.1 hq
              exact f_ret rfl H
            · replace H := H.2 hq
              refine f_int 0 rfl rfl ?_
              refine w_st (ls2 := [some (.ref 284), some (iv x1), some (iv x2_64), some (iv 0), g4_64]) (fun _ => rfl) ?_
              obtain ⟨I_74, mu_74, H0_74, HB_74⟩ := H
              have lp_74 : ∀ (z : Nat) (x3_74 : Int) (m_74 : Mm) (g4_74 : Option Value), mu_74 x3_74 m_74 < z → rg x3_74 → I_74 x3_74 m_74 → mm_W d mc_249 74 [some (.ref 284), some (iv x1), some (iv x2_64), some (iv x3_74), g4_74] [] (fm m_74) (XV Q) := by
                intro z
                induction z with
                | zero => intro x3_74 m_74 g4_74 hz; exact absurd hz (Nat.not_lt_zero _)
                | succ z ih_74 =>
                  intro x3_74 m_74 g4_74 hz_74 r_x3_74 hI
                  have H := HB_74 x3_74 m_74 r_x3_74 hI
                  refine w_st (fun _ => rfl) ?_
                  refine f_int 4 rfl rfl ?_
                  refine b_ge rfl r_x3_74 (by unfold rg; decide) (fun hq => ?_) (fun hq => ?_)
                  · replace H := H.1 hq
                    obtain ⟨z2_182, e_z2_182⟩ : ∃ q : Int, q = wr (x2_64 + 1) := ⟨_, rfl⟩
                    have r_z2_182 : rg z2_182 := by rw [e_z2_182]; exact wr_rg _
                    replace H := H z2_182 e_z2_182
                    refine f_iinc (ls2 := [some (.ref 284), some (iv x1), some (iv z2_182), some (iv x3_74), g4_74]) 1 rfl rfl rfl e_z2_182 rfl ?_
                    refine w_st (fun _ => rfl) ?_
                    exact ih_64 z2_182 m_74 (some (iv x3_74)) g4_74 (Nat.lt_of_lt_of_le H.2 (Nat.le_of_lt_succ hz_64)) r_z2_182 H.1
                  · replace H := H.2 hq
                    refine w_st (fun _ => rfl) ?_
                    refine g_284_62 rfl ?_
                    refine f_int 4 rfl rfl ?_
                    refine w_st (fun _ => rfl) ?_
                    refine g_284_66 rfl ?_
                    refine w_st (fun _ => rfl) ?_
                    refine f_ld ir_329 rfl H.1 ?_
                    replace H := H.2
                    refine f_mul rfl ?_
                    refine w_st (fun _ => rfl) ?_
                    refine f_add rfl ?_
                    refine f_ld ir_325 rfl H.1 ?_
                    replace H := H.2
                    obtain ⟨z4_94, e_z4_94⟩ : ∃ q : Int, q = (rd m_74 325 (Int.toNat (wr ((wr (4 * (rd m_74 329 (Int.toNat x2_64)))) + x3_74)))) := ⟨_, rfl⟩
                    have r_z4_94 : rg z4_94 := by rw [e_z4_94]; exact (rd_rg _ _ _)
                    replace H := H z4_94 e_z4_94
                    refine f_nm e_z4_94 ?_
                    refine w_st (ls2 := [some (.ref 284), some (iv x1), some (iv x2_64), some (iv x3_74), some (iv z4_94)]) (fun _ => rfl) ?_
                    refine w_st (fun _ => rfl) ?_
                    obtain ⟨R_176, H, HJ_176⟩ := H
                    have tl_176 : ∀ (m_176 : Mm), R_176 m_176 → mm_W d mc_249 176 [some (.ref 284), some (iv x1), some (iv x2_64), some (iv x3_74), some (iv z4_94)] [] (fm m_176) (XV Q) := by
                      intro m_176  hR
                      have H := HJ_176 m_176  hR
                      obtain ⟨z3_176, e_z3_176⟩ : ∃ q : Int, q = wr (x3_74 + 1) := ⟨_, rfl⟩
                      have r_z3_176 : rg z3_176 := by rw [e_z3_176]; exact wr_rg _
                      replace H := H z3_176 e_z3_176
                      refine f_iinc (ls2 := [some (.ref 284), some (iv x1), some (iv x2_64), some (iv z3_176), some (iv z4_94)]) 1 rfl rfl rfl e_z3_176 rfl ?_
                      refine w_st (fun _ => rfl) ?_
                      exact ih_74 z3_176 m_176 (some (iv z4_94)) (Nat.lt_of_lt_of_le H.2 (Nat.le_of_lt_succ hz_74)) r_z3_176 H.1
                    refine z_lt rfl r_z4_94 (fun hq => ?_) (fun hq => ?_)
                    · replace H := H.1 hq
                      exact tl_176 m_74  H
                    · replace H := H.2 hq
                      refine w_st (fun _ => rfl) ?_
                      refine g_284_63 rfl ?_
                      refine w_st (fun _ => rfl) ?_
                      refine f_ld ir_326 rfl H.1 ?_
                      replace H := H.2
                      refine z_lt rfl (rd_rg _ _ _) (fun hq => ?_) (fun hq => ?_)
                      · replace H := H.1 hq
                        refine w_st (fun _ => rfl) ?_
                        refine g_284_63 rfl ?_
                        refine w_st (fun _ => rfl) ?_
                        refine w_st (fun _ => rfl) ?_
                        refine g_284_63 rfl ?_
                        refine w_st (fun _ => rfl) ?_
                        refine g_284_66 rfl ?_
                        refine w_st (fun _ => rfl) ?_
                        refine f_ld ir_329 rfl H.1 ?_
                        replace H := H.2
                        refine f_ld ir_326 rfl H.1 ?_
                        replace H := H.2
                        refine f_int 1 rfl rfl ?_
                        refine f_add rfl ?_
                        obtain ⟨m133, e_m133⟩ : ∃ q : Mm, q = wt m_74 326 (Int.toNat z4_94) (wr ((rd m_74 326 (Int.toNat (rd m_74 329 (Int.toNat x2_64)))) + 1)) := ⟨_, rfl⟩
                        refine f_st ir_326 rfl H.1 e_m133 ?_
                        replace H := H.2 m133 e_m133
                        refine w_st (fun _ => rfl) ?_
                        refine g_284_64 rfl ?_
                        refine w_st (fun _ => rfl) ?_
                        refine w_st (fun _ => rfl) ?_
                        refine g_284_66 rfl ?_
                        refine w_st (fun _ => rfl) ?_
                        refine f_ld ir_329 rfl H.1 ?_
                        replace H := H.2
                        obtain ⟨m146, e_m146⟩ : ∃ q : Mm, q = wt m133 327 (Int.toNat z4_94) (rd m133 329 (Int.toNat x2_64)) := ⟨_, rfl⟩
                        refine f_st ir_327 rfl H.1 e_m146 ?_
                        replace H := H.2 m146 e_m146
                        refine w_st (fun _ => rfl) ?_
                        refine g_284_65 rfl ?_
                        refine w_st (fun _ => rfl) ?_
                        refine w_st (fun _ => rfl) ?_
                        obtain ⟨m154, e_m154⟩ : ∃ q : Mm, q = wt m146 328 (Int.toNat z4_94) x3_74 := ⟨_, rfl⟩
                        refine f_st ir_328 rfl H.1 e_m154 ?_
                        replace H := H.2 m154 e_m154
                        refine w_st (fun _ => rfl) ?_
                        refine g_284_66 rfl ?_
                        refine w_st (fun _ => rfl) ?_
                        refine g_284_67 rfl ?_
                        refine w_st (fun _ => rfl) ?_
                        obtain ⟨m165, e_m165⟩ : ∃ q : Mm, q = wt m154 329 (Int.toNat (rd m154 284 67)) z4_94 := ⟨_, rfl⟩
                        refine f_st ir_329 rfl H.1 e_m165 ?_
                        replace H := H.2 m165 e_m165
                        refine w_st (fun _ => rfl) ?_
                        refine w_st (fun _ => rfl) ?_
                        refine g_284_67 rfl ?_
                        refine f_int 1 rfl rfl ?_
                        refine f_add rfl ?_
                        obtain ⟨m173, e_m173⟩ : ∃ q : Mm, q = wt m165 284 67 (wr ((rd m165 284 67) + 1)) := ⟨_, rfl⟩
                        replace H := H m173 e_m173
                        refine p_284_67 rfl e_m173 ?_
                        exact tl_176 m173  H
                      · replace H := H.2 hq
                        refine w_st (fun _ => rfl) ?_
                        exact tl_176 m_74  H
              exact lp_74 _ 0 m_64 g4_64 (Nat.lt_succ_self _) (by unfold rg; decide) H0_74
        exact lp_64 _ 0 m59 none none (Nat.lt_succ_self _) (by unfold rg; decide) H0_64
      · replace H := H.2 hq
        refine w_st (fun _ => rfl) ?_
        refine g_284_63 rfl ?_
        refine w_st (fun _ => rfl) ?_
        refine f_int (-1) rfl rfl ?_
        obtain ⟨m20, e_m20⟩ : ∃ q : Mm, q = wt m_7 326 (Int.toNat x2_7) (-1) := ⟨_, rfl⟩
        refine f_st ir_326 rfl H.1 e_m20 ?_
        replace H := H.2 m20 e_m20
        obtain ⟨z2_21, e_z2_21⟩ : ∃ q : Int, q = wr (x2_7 + 1) := ⟨_, rfl⟩
        have r_z2_21 : rg z2_21 := by rw [e_z2_21]; exact wr_rg _
        replace H := H z2_21 e_z2_21
        refine f_iinc (ls2 := [some (.ref 284), some (iv x1), some (iv z2_21), none, none]) 1 rfl rfl rfl e_z2_21 rfl ?_
        refine w_st (fun _ => rfl) ?_
        exact ih_7 z2_21 m20 (Nat.lt_of_lt_of_le H.2 (Nat.le_of_lt_succ hz_7)) r_z2_21 H.1
  exact lp_7 _ 0 m2 (Nat.lt_succ_self _) (by unfold rg; decide) H0_7
/-- TippedCratesModel.fewest(IIII)I -/
def P_250 (d : Nat) (m : Mm) (x1 : Int) (x2 : Int) (x3 : Int) (x4 : Int) (Q : Mm → Int → Prop) : Prop :=
  CK d 210 [.ref 284, iv x1] m (fun m2 v2 =>
    (∃ R_29 : Mm → Prop,
    ((v2 = 0 → R_29 m2) ∧
    (¬ v2 = 0 → CK d 209 [.ref 284, iv x2] m2 (fun m10 v10 =>
      ((v10 = 0 → R_29 m10) ∧
      (¬ v10 = 0 → CK d 211 [iv x3] m10 (fun m17 v17 =>
        ((v17 = 0 → R_29 m17) ∧
        (¬ v17 = 0 → (((-1) ≤ x4 → CV d 249 [.ref 284, iv x1] m17 (fun m33 =>
            (∃ (I_39 : Int → Mm → Prop) (mu_39 : Int → Mm → Nat), I_39 0 m33 ∧
            ∀ (x5_39 : Int) (m_39 : Mm), rg x5_39 → I_39 x5_39 m_39 →
            (∃ R_85 : Mm → Prop,
                (((rd m_39 284 67) ≤ x5_39 → R_85 m_39) ∧
                (¬ (rd m_39 284 67) ≤ x5_39 → (((0 : Int) ≤ x5_39 ∧ x5_39 < 600) ∧ (∃ R_79 : Mm → Prop,
                  ((¬ (dvI (rd m_39 329 (Int.toNat x5_39)) 24) = x2 → R_79 m_39) ∧
                  ((dvI (rd m_39 329 (Int.toNat x5_39)) 24) = x2 → (((0 : Int) ≤ x5_39 ∧ x5_39 < 600) ∧ CK d 248 [.ref 284, iv x1, iv (rd m_39 329 (Int.toNat x5_39)), iv 0] m_39 (fun m72 v72 =>
                    ((v72 = x3 → R_85 m72) ∧
                    (¬ v72 = x3 → R_79 m72)))))) ∧
                  (∀ (m_79 : Mm), R_79 m_79 →
                  (∀ z5_79 : Int, z5_79 = wr (x5_39 + 1) → (I_39 z5_79 m_79 ∧ mu_39 z5_79 m_79 < mu_39 x5_39 m_39))))))) ∧
                (∀ (m_85 : Mm), R_85 m_85 →
                ((¬ x5_39 = (rd m_85 284 67) → (((0 : Int) ≤ x5_39 ∧ x5_39 < 600) ∧ (∀ z6_104 : Int, z6_104 = (rd m_85 329 (Int.toNat x5_39)) → ((¬ x4 = (-1) → (((0 : Int) ≤ z6_104 ∧ z6_104 < 600) ∧ ((x4 < (rd m_85 326 (Int.toNat z6_104)) → (∃ (I_134 : Int → Prop) (mu_134 : Int → Nat), I_134 z6_104 ∧
                        ∀ (x6_134 : Int) , rg x6_134 → I_134 x6_134 →
                        (((0 : Int) ≤ x6_134 ∧ x6_134 < 600) ∧ (((rd m_85 326 (Int.toNat x6_134)) ≤ (wr (x4 + 1)) → (((0 : Int) ≤ x6_134 ∧ x6_134 < 600) ∧ Q m_85 (rd m_85 328 (Int.toNat x6_134)))) ∧
                            (¬ (rd m_85 326 (Int.toNat x6_134)) ≤ (wr (x4 + 1)) → (((0 : Int) ≤ x6_134 ∧ x6_134 < 600) ∧ (∀ z6_155 : Int, z6_155 = (rd m_85 327 (Int.toNat x6_134)) → (I_134 z6_155 ∧ mu_134 z6_155 < mu_134 x6_134)))))))) ∧
                      (¬ x4 < (rd m_85 326 (Int.toNat z6_104)) → Q m_85 (-1))))) ∧
                    (x4 = (-1) → (((0 : Int) ≤ z6_104 ∧ z6_104 < 600) ∧ Q m_85 (rd m_85 326 (Int.toNat z6_104)))))))) ∧
                  (x5_39 = (rd m_85 284 67) → Q m_85 (-2)))))))) ∧
          (¬ (-1) ≤ x4 → R_29 m17)))))))))) ∧
    (∀ (m_29 : Mm), R_29 m_29 →
    Q m_29 (-1))))
set_option maxRecDepth 20000 in
theorem br_250 {d : Nat} {m : Mm} {x1 : Int} {x2 : Int} {x3 : Int} {x4 : Int} {Q : Mm → Int → Prop} (r_x1 : rg x1) (r_x2 : rg x2) (r_x3 : rg x3) (r_x4 : rg x4) (H : P_250 d m x1 x2 x3 x4 Q) : CK (d + 1) 250 [.ref 284, iv x1, iv x2, iv x3, iv x4] m Q := by
  unfold P_250 at H
  refine CK_of rfl ?_
  show mm_W d mc_250 0 [some (.ref 284), some (iv x1), some (iv x2), some (iv x3), some (iv x4), none, none] [] (fm m) (XK Q)
  refine w_st (fun _ => rfl) ?_
  refine w_st (fun _ => rfl) ?_
  refine k_VK (as := [iv x1]) rfl mg_250 rfl rfl (by decide) rfl rfl H (fun m2 v2 r_v2 H => ?_)
  obtain ⟨R_29, H, HJ_29⟩ := H
  have tl_29 : ∀ (m_29 : Mm), R_29 m_29 → mm_W d mc_250 29 [some (.ref 284), some (iv x1), some (iv x2), some (iv x3), some (iv x4), none, none] [] (fm m_29) (XK Q) := by
    intro m_29  hR
    have H := HJ_29 m_29  hR
    refine f_int (-1) rfl rfl ?_
    exact f_iret rfl (by unfold rg; decide) H
  refine z_eq rfl r_v2 (fun hq => ?_) (fun hq => ?_)
  · replace H := H.1 hq
    exact tl_29 m2  H
  · replace H := H.2 hq
    refine w_st (fun _ => rfl) ?_
    refine w_st (fun _ => rfl) ?_
    refine k_VK (as := [iv x2]) rfl mg_250 rfl rfl (by decide) rfl rfl H (fun m10 v10 r_v10 H => ?_)
    refine z_eq rfl r_v10 (fun hq => ?_) (fun hq => ?_)
    · replace H := H.1 hq
      exact tl_29 m10  H
    · replace H := H.2 hq
      refine w_st (fun _ => rfl) ?_
      refine k_SK (as := [iv x3]) rfl mg_250 rfl rfl rfl H (fun m17 v17 r_v17 H => ?_)
      refine z_eq rfl r_v17 (fun hq => ?_) (fun hq => ?_)
      · replace H := H.1 hq
        exact tl_29 m17  H
      · replace H := H.2 hq
        refine w_st (fun _ => rfl) ?_
        refine f_int (-1) rfl rfl ?_
        refine b_ge rfl r_x4 (by unfold rg; decide) (fun hq => ?_) (fun hq => ?_)
        · replace H := H.1 hq
          refine w_st (fun _ => rfl) ?_
          refine w_st (fun _ => rfl) ?_
          refine k_VV (as := [iv x1]) rfl mg_250 rfl rfl (by decide) rfl rfl H (fun m33 H => ?_)
          refine f_int 0 rfl rfl ?_
          refine w_st (ls2 := [some (.ref 284), some (iv x1), some (iv x2), some (iv x3), some (iv x4), some (iv 0), none]) (fun _ => rfl) ?_
          obtain ⟨I_39, mu_39, H0_39, HB_39⟩ := H
          have lp_39 : ∀ (z : Nat) (x5_39 : Int) (m_39 : Mm), mu_39 x5_39 m_39 < z → rg x5_39 → I_39 x5_39 m_39 → mm_W d mc_250 39 [some (.ref 284), some (iv x1), some (iv x2), some (iv x3), some (iv x4), some (iv x5_39), none] [] (fm m_39) (XK Q) := by
            intro z
            induction z with
            | zero => intro x5_39 m_39 hz; exact absurd hz (Nat.not_lt_zero _)
            | succ z ih_39 =>
              intro x5_39 m_39 hz_39 r_x5_39 hI
              have H := HB_39 x5_39 m_39 r_x5_39 hI
              refine w_st (fun _ => rfl) ?_
              refine w_st (fun _ => rfl) ?_
              refine g_284_67 rfl ?_
              obtain ⟨R_85, H, HJ_85⟩ := H
              have tl_85 : ∀ (m_85 : Mm), R_85 m_85 → mm_W d mc_250 85 [some (.ref 284), some (iv x1), some (iv x2), some (iv x3), some (iv x4), some (iv x5_39), none] [] (fm m_85) (XK Q) := by
                intro m_85  hR
                have H := HJ_85 m_85  hR
                refine w_st (fun _ => rfl) ?_
                refine w_st (fun _ => rfl) ?_
                refine g_284_67 rfl ?_
                refine b_ne rfl r_x5_39 (rd_rg _ _ _) (fun hq => ?_) (fun hq => ?_)
                · replace H := H.1 hq
                  refine w_st (fun _ => rfl) ?_
                  refine g_284_66 rfl ?_
                  refine w_st (fun _ => rfl) ?_
                  refine f_ld ir_329 rfl H.1 ?_
                  replace H := H.2
                  obtain ⟨z6_104, e_z6_104⟩ : ∃ q : Int, q = (rd m_85 329 (Int.toNat x5_39)) := ⟨_, rfl⟩
                  have r_z6_104 : rg z6_104 := by rw [e_z6_104]; exact (rd_rg _ _ _)
                  replace H := H z6_104 e_z6_104
                  refine f_nm e_z6_104 ?_
                  refine w_st (ls2 := [some (.ref 284), some (iv x1), some (iv x2), some (iv x3), some (iv x4), some (iv x5_39), some (iv z6_104)]) (fun _ => rfl) ?_
                  refine w_st (fun _ => rfl) ?_
                  refine f_int (-1) rfl rfl ?_
                  refine b_ne rfl r_x4 (by unfold rg; decide) (fun hq => ?_) (fun hq => ?_)
                  · replace H := H.1 hq
                    refine w_st (fun _ => rfl) ?_
                    refine w_st (fun _ => rfl) ?_
                    refine g_284_63 rfl ?_
                    refine w_st (fun _ => rfl) ?_
                    refine f_ld ir_326 rfl H.1 ?_
                    replace H := H.2
                    refine b_lt rfl r_x4 (rd_rg _ _ _) (fun hq => ?_) (fun hq => ?_)
                    · replace H := H.1 hq
                      obtain ⟨I_134, mu_134, H0_134, HB_134⟩ := H
                      have lp_134 : ∀ (z : Nat) (x6_134 : Int) , mu_134 x6_134 < z → rg x6_134 → I_134 x6_134 → mm_W d mc_250 134 [some (.ref 284), some (iv x1), some (iv x2), some (iv x3), some (iv x4), some (iv x5_39), some (iv x6_134)] [] (fm m_85) (XK Q) := by
                        intro z
                        induction z with
                        | zero => intro x6_134 hz; exact absurd hz (Nat.not_lt_zero _)
                        | succ z ih_134 =>
                          intro x6_134 hz_134 r_x6_134 hI
                          have H := HB_134 x6_134 r_x6_134 hI
                          refine w_st (fun _ => rfl) ?_
                          refine g_284_63 rfl ?_
                          refine w_st (fun _ => rfl) ?_
                          refine f_ld ir_326 rfl H.1 ?_
                          replace H := H.2
                          refine w_st (fun _ => rfl) ?_
                          refine f_int 1 rfl rfl ?_
                          refine f_add rfl ?_
                          refine b_le rfl (rd_rg _ _ _) (wr_rg _) (fun hq => ?_) (fun hq => ?_)
                          · replace H := H.1 hq
                            refine w_st (fun _ => rfl) ?_
                            refine g_284_65 rfl ?_
                            refine w_st (fun _ => rfl) ?_
                            refine f_ld ir_328 rfl H.1 ?_
                            replace H := H.2
                            exact f_iret rfl (rd_rg _ _ _) H
                          · replace H := H.2 hq
                            refine w_st (fun _ => rfl) ?_
                            refine g_284_64 rfl ?_
                            refine w_st (fun _ => rfl) ?_
                            refine f_ld ir_327 rfl H.1 ?_
                            replace H := H.2
                            obtain ⟨z6_155, e_z6_155⟩ : ∃ q : Int, q = (rd m_85 327 (Int.toNat x6_134)) := ⟨_, rfl⟩
                            have r_z6_155 : rg z6_155 := by rw [e_z6_155]; exact (rd_rg _ _ _)
                            replace H := H z6_155 e_z6_155
                            refine f_nm e_z6_155 ?_
                            refine w_st (ls2 := [some (.ref 284), some (iv x1), some (iv x2), some (iv x3), some (iv x4), some (iv x5_39), some (iv z6_155)]) (fun _ => rfl) ?_
                            refine w_st (fun _ => rfl) ?_
                            exact ih_134 z6_155 (Nat.lt_of_lt_of_le H.2 (Nat.le_of_lt_succ hz_134)) r_z6_155 H.1
                      exact lp_134 _ z6_104 (Nat.lt_succ_self _) r_z6_104 H0_134
                    · replace H := H.2 hq
                      refine f_int (-1) rfl rfl ?_
                      exact f_iret rfl (by unfold rg; decide) H
                  · replace H := H.2 hq
                    refine w_st (fun _ => rfl) ?_
                    refine g_284_63 rfl ?_
                    refine w_st (fun _ => rfl) ?_
                    refine f_ld ir_326 rfl H.1 ?_
                    replace H := H.2
                    exact f_iret rfl (rd_rg _ _ _) H
                · replace H := H.2 hq
                  refine f_int (-2) rfl rfl ?_
                  exact f_iret rfl (by unfold rg; decide) H
              refine b_ge rfl r_x5_39 (rd_rg _ _ _) (fun hq => ?_) (fun hq => ?_)
              · replace H := H.1 hq
                exact tl_85 m_39  H
              · replace H := H.2 hq
                refine w_st (fun _ => rfl) ?_
                refine g_284_66 rfl ?_
                refine w_st (fun _ => rfl) ?_
                refine f_ld ir_329 rfl H.1 ?_
                replace H := H.2
                refine f_int 24 rfl rfl ?_
                refine f_dvI rfl (by unfold rg; decide) (by decide) ?_
                refine w_st (fun _ => rfl) ?_
                obtain ⟨R_79, H, HJ_79⟩ := H
                have tl_79 : ∀ (m_79 : Mm), R_79 m_79 → mm_W d mc_250 79 [some (.ref 284), some (iv x1), some (iv x2), some (iv x3), some (iv x4), some (iv x5_39), none] [] (fm m_79) (XK Q) := by
                  intro m_79  hR
                  have H := HJ_79 m_79  hR
                  obtain ⟨z5_79, e_z5_79⟩ : ∃ q : Int, q = wr (x5_39 + 1) := ⟨_, rfl⟩
                  have r_z5_79 : rg z5_79 := by rw [e_z5_79]; exact wr_rg _
                  replace H := H z5_79 e_z5_79
                  refine f_iinc (ls2 := [some (.ref 284), some (iv x1), some (iv x2), some (iv x3), some (iv x4), some (iv z5_79), none]) 1 rfl rfl rfl e_z5_79 rfl ?_
                  refine w_st (fun _ => rfl) ?_
                  exact ih_39 z5_79 m_79 (Nat.lt_of_lt_of_le H.2 (Nat.le_of_lt_succ hz_39)) r_z5_79 H.1
                refine b_ne rfl (io_rg _ _ _) r_x2 (fun hq => ?_) (fun hq => ?_)
                · replace H := H.1 hq
                  exact tl_79 m_39  H
                · replace H := H.2 hq
                  refine w_st (fun _ => rfl) ?_
                  refine w_st (fun _ => rfl) ?_
                  refine w_st (fun _ => rfl) ?_
                  refine g_284_66 rfl ?_
                  refine w_st (fun _ => rfl) ?_
                  refine f_ld ir_329 rfl H.1 ?_
                  replace H := H.2
                  refine f_int 0 rfl rfl ?_
                  refine k_VK (as := [iv x1, iv (rd m_39 329 (Int.toNat x5_39)), iv 0]) rfl mg_250 rfl rfl (by decide) rfl rfl H (fun m72 v72 r_v72 H => ?_)
                  refine w_st (fun _ => rfl) ?_
                  refine b_eq rfl r_v72 r_x3 (fun hq => ?_) (fun hq => ?_)
                  · replace H := H.1 hq
                    exact tl_85 m72  H
                  · replace H := H.2 hq
                    exact tl_79 m72  H
          exact lp_39 _ 0 m33 (Nat.lt_succ_self _) (by unfold rg; decide) H0_39
        · replace H := H.2 hq
          exact tl_29 m17  H
/-- TippedCratesModel.cheapest(II)I -/
def P_251 (d : Nat) (m : Mm) (x1 : Int) (x2 : Int) (Q : Mm → Int → Prop) : Prop :=
  CK d 210 [.ref 284, iv x1] m (fun m2 v2 =>
    (∃ R_16 : Mm → Prop,
    ((v2 = 0 → R_16 m2) ∧
    (¬ v2 = 0 → CK d 209 [.ref 284, iv x2] m2 (fun m10 v10 =>
      ((¬ v10 = 0 → CV d 249 [.ref 284, iv x1] m10 (fun m20 =>
        (∃ (I_25 : Int → Mm → Prop) (mu_25 : Int → Mm → Nat), I_25 0 m20 ∧
        ∀ (x3_25 : Int) (m_25 : Mm), rg x3_25 → I_25 x3_25 m_25 →
        (((rd m_25 284 67) ≤ x3_25 → (∃ (I_116 : Int → Mm → Prop) (mu_116 : Int → Mm → Nat), I_116 0 m_25 ∧
              ∀ (x3_116 : Int) (m_116 : Mm), rg x3_116 → I_116 x3_116 m_116 →
              ((600 ≤ x3_116 → (((0 : Int) ≤ (rd m_116 329 0) ∧ (rd m_116 329 0) < 600) ∧ (∀ m147 : Mm, m147 = wt m_116 330 (Int.toNat (rd m_116 329 0)) 0 → (∃ (I_150 : Int → Mm → Prop) (mu_150 : Int → Mm → Nat), I_150 1 m147 ∧
                    ∀ (x3_150 : Int) (m_150 : Mm), rg x3_150 → I_150 x3_150 m_150 →
                    ((x3_150 = 0 → (∀ z5_292 : Int, z5_292 = (wr (24 * x2)) → (∃ (I_294 : Int → Int → Prop) (mu_294 : Int → Int → Nat), I_294 (-2) z5_292 ∧
                          ∀ (x4_294 x5_294 : Int) , rg x4_294 → rg x5_294 → I_294 x4_294 x5_294 →
                          (((wr ((wr (24 * x2)) + 24)) ≤ x5_294 → Q m_150 x4_294) ∧
                              (¬ (wr ((wr (24 * x2)) + 24)) ≤ x5_294 → (((0 : Int) ≤ x5_294 ∧ x5_294 < 600) ∧ (∃ R_342 : Int → Prop,
                                (((rd m_150 330 (Int.toNat x5_294)) < 0 → R_342 x4_294) ∧
                                (¬ (rd m_150 330 (Int.toNat x5_294)) < 0 → (∃ R_333 : Prop,
                                  ((x4_294 < 0 → R_333) ∧
                                  (¬ x4_294 < 0 → (((0 : Int) ≤ x5_294 ∧ x5_294 < 600) ∧ ((x4_294 ≤ (rd m_150 330 (Int.toNat x5_294)) → R_342 x4_294) ∧
                                    (¬ x4_294 ≤ (rd m_150 330 (Int.toNat x5_294)) → R_333))))) ∧
                                  (R_333 →
                                  (((0 : Int) ≤ x5_294 ∧ x5_294 < 600) ∧ (∀ z4_340 : Int, z4_340 = (rd m_150 330 (Int.toNat x5_294)) → R_342 z4_340)))))) ∧
                                (∀ (y4_342 : Int) , rg y4_342 → R_342 y4_342 →
                                (∀ z5_342 : Int, z5_342 = wr (x5_294 + 1) → (I_294 y4_342 z5_342 ∧ mu_294 y4_342 z5_342 < mu_294 x4_294 x5_294)))))))))) ∧
                        (¬ x3_150 = 0 → (∃ (I_159 : Int → Int → Mm → Prop) (mu_159 : Int → Int → Mm → Nat), I_159 0 0 m_150 ∧
                          ∀ (x3_159 x4_159 : Int) (m_159 : Mm), rg x3_159 → rg x4_159 → I_159 x3_159 x4_159 m_159 →
                          (((wr (4 * (rd m_159 284 67))) ≤ x4_159 → (I_150 x3_159 m_159 ∧ mu_150 x3_159 m_159 < mu_150 x3_150 m_150)) ∧
                              (¬ (wr (4 * (rd m_159 284 67))) ≤ x4_159 → (((0 : Int) ≤ (dvI x4_159 4) ∧ (dvI x4_159 4) < 600) ∧ (∀ z5_179 : Int, z5_179 = (rd m_159 329 (Int.toNat (dvI x4_159 4))) → (((0 : Int) ≤ (wr ((wr (4 * z5_179)) + (rmI x4_159 4))) ∧ (wr ((wr (4 * z5_179)) + (rmI x4_159 4))) < 2400) ∧ (∀ z6_195 : Int, z6_195 = (rd m_159 325 (Int.toNat (wr ((wr (4 * z5_179)) + (rmI x4_159 4))))) → (∃ R_275 : Int → Mm → Prop,
                                ((z6_195 < 0 → R_275 x3_159 m_159) ∧
                                (¬ z6_195 < 0 → (((0 : Int) ≤ z5_179 ∧ z5_179 < 600) ∧ ((0 ≤ (rd m_159 330 (Int.toNat z5_179)) → (((0 : Int) ≤ z5_179 ∧ z5_179 < 600) ∧ (((0 : Int) ≤ (wr ((wr (4 * z5_179)) + (rmI x4_159 4))) ∧ (wr ((wr (4 * z5_179)) + (rmI x4_159 4))) < 2400) ∧ (∀ z7_237 : Int, z7_237 = (wr ((rd m_159 330 (Int.toNat z5_179)) + (rd m_159 331 (Int.toNat (wr ((wr (4 * z5_179)) + (rmI x4_159 4))))))) → (((0 : Int) ≤ z6_195 ∧ z6_195 < 600) ∧ (∃ R_264 : Prop,
                                    (((rd m_159 330 (Int.toNat z6_195)) < 0 → R_264) ∧
                                    (¬ (rd m_159 330 (Int.toNat z6_195)) < 0 → (((0 : Int) ≤ z6_195 ∧ z6_195 < 600) ∧ ((z7_237 < (rd m_159 330 (Int.toNat z6_195)) → R_264) ∧
                                      (¬ z7_237 < (rd m_159 330 (Int.toNat z6_195)) → R_275 x3_159 m_159))))) ∧
                                    (R_264 →
                                    (((0 : Int) ≤ z6_195 ∧ z6_195 < 600) ∧ (∀ m272 : Mm, m272 = wt m_159 330 (Int.toNat z6_195) z7_237 → R_275 1 m272))))))))) ∧
                                  (¬ 0 ≤ (rd m_159 330 (Int.toNat z5_179)) → R_275 x3_159 m_159))))) ∧
                                (∀ (y3_275 : Int) (m_275 : Mm), rg y3_275 → R_275 y3_275 m_275 →
                                (∀ z4_275 : Int, z4_275 = wr (x4_159 + 1) → (I_159 y3_275 z4_275 m_275 ∧ mu_159 y3_275 z4_275 m_275 < mu_159 x3_159 x4_159 m_159))))))))))))))))) ∧
                  (¬ 600 ≤ x3_116 → (((0 : Int) ≤ x3_116 ∧ x3_116 < 600) ∧ (∀ m129 : Mm, m129 = wt m_116 330 (Int.toNat x3_116) (-1) → (∀ z3_130 : Int, z3_130 = wr (x3_116 + 1) → (I_116 z3_130 m129 ∧ mu_116 z3_130 m129 < mu_116 x3_116 m_116)))))))) ∧
            (¬ (rd m_25 284 67) ≤ x3_25 → (∃ (I_36 : Int → Mm → Prop) (mu_36 : Int → Mm → Nat), I_36 0 m_25 ∧
              ∀ (x4_36 : Int) (m_36 : Mm), rg x4_36 → I_36 x4_36 m_36 →
              ((4 ≤ x4_36 → (∀ z3_108 : Int, z3_108 = wr (x3_25 + 1) → (I_25 z3_108 m_36 ∧ mu_25 z3_108 m_36 < mu_25 x3_25 m_25))) ∧
                  (¬ 4 ≤ x4_36 → (((0 : Int) ≤ x3_25 ∧ x3_25 < 600) ∧ (((0 : Int) ≤ (wr ((wr (4 * (rd m_36 329 (Int.toNat x3_25)))) + x4_36)) ∧ (wr ((wr (4 * (rd m_36 329 (Int.toNat x3_25)))) + x4_36)) < 2400) ∧ (∃ R_102 : Mm → Prop,
                    (((rd m_36 325 (Int.toNat (wr ((wr (4 * (rd m_36 329 (Int.toNat x3_25)))) + x4_36)))) < 0 → R_102 m_36) ∧
                    (¬ (rd m_36 325 (Int.toNat (wr ((wr (4 * (rd m_36 329 (Int.toNat x3_25)))) + x4_36)))) < 0 → (((0 : Int) ≤ x3_25 ∧ x3_25 < 600) ∧ (((0 : Int) ≤ x3_25 ∧ x3_25 < 600) ∧ (((0 : Int) ≤ x3_25 ∧ x3_25 < 600) ∧ CK d 228 [.ref 284, iv x1, iv (dvI (rd m_36 329 (Int.toNat x3_25)) 24), iv (rmI (rd m_36 329 (Int.toNat x3_25)) 24), iv x4_36] m_36 (fun m98 v98 =>
                      (((0 : Int) ≤ (wr ((wr (4 * (rd m_36 329 (Int.toNat x3_25)))) + x4_36)) ∧ (wr ((wr (4 * (rd m_36 329 (Int.toNat x3_25)))) + x4_36)) < 2400) ∧ (∀ m101 : Mm, m101 = wt m98 331 (Int.toNat (wr ((wr (4 * (rd m_36 329 (Int.toNat x3_25)))) + x4_36))) v98 → R_102 m101)))))))) ∧
                    (∀ (m_102 : Mm), R_102 m_102 →
                    (∀ z4_102 : Int, z4_102 = wr (x4_36 + 1) → (I_36 z4_102 m_102 ∧ mu_36 z4_102 m_102 < mu_36 x4_36 m_36)))))))))))))) ∧
      (v10 = 0 → R_16 m10))))) ∧
    (∀ (m_16 : Mm), R_16 m_16 →
    Q m_16 (-1))))
set_option maxRecDepth 20000 in
theorem br_251 {d : Nat} {m : Mm} {x1 : Int} {x2 : Int} {Q : Mm → Int → Prop} (r_x1 : rg x1) (r_x2 : rg x2) (H : P_251 d m x1 x2 Q) : CK (d + 1) 251 [.ref 284, iv x1, iv x2] m Q := by
  unfold P_251 at H
  refine CK_of rfl ?_
  show mm_W d mc_251 0 [some (.ref 284), some (iv x1), some (iv x2), none, none, none, none, none] [] (fm m) (XK Q)
  refine w_st (fun _ => rfl) ?_
  refine w_st (fun _ => rfl) ?_
  refine k_VK (as := [iv x1]) rfl mg_251 rfl rfl (by decide) rfl rfl H (fun m2 v2 r_v2 H => ?_)
  obtain ⟨R_16, H, HJ_16⟩ := H
  have tl_16 : ∀ (m_16 : Mm), R_16 m_16 → mm_W d mc_251 16 [some (.ref 284), some (iv x1), some (iv x2), none, none, none, none, none] [] (fm m_16) (XK Q) := by
    intro m_16  hR
    have H := HJ_16 m_16  hR
    refine f_int (-1) rfl rfl ?_
    exact f_iret rfl (by unfold rg; decide) H
  refine z_eq rfl r_v2 (fun hq => ?_) (fun hq => ?_)
  · replace H := H.1 hq
    exact tl_16 m2  H
  · replace H := H.2 hq
    refine w_st (fun _ => rfl) ?_
    refine w_st (fun _ => rfl) ?_
    refine k_VK (as := [iv x2]) rfl mg_251 rfl rfl (by decide) rfl rfl H (fun m10 v10 r_v10 H => ?_)
    refine z_ne rfl r_v10 (fun hq => ?_) (fun hq => ?_)
    · replace H := H.1 hq
      refine w_st (fun _ => rfl) ?_
      refine w_st (fun _ => rfl) ?_
      refine k_VV (as := [iv x1]) rfl mg_251 rfl rfl (by decide) rfl rfl H (fun m20 H => ?_)
      refine f_int 0 rfl rfl ?_
      refine w_st (ls2 := [some (.ref 284), some (iv x1), some (iv x2), some (iv 0), none, none, none, none]) (fun _ => rfl) ?_
      obtain ⟨I_25, mu_25, H0_25, HB_25⟩ := H
      have lp_25 : ∀ (z : Nat) (x3_25 : Int) (m_25 : Mm) (g4_25 : Option Value), mu_25 x3_25 m_25 < z → rg x3_25 → I_25 x3_25 m_25 → mm_W d mc_251 25 [some (.ref 284), some (iv x1), some (iv x2), some (iv x3_25), g4_25, none, none, none] [] (fm m_25) (XK Q) := by
        intro z
        induction z with
        | zero => intro x3_25 m_25 g4_25 hz; exact absurd hz (Nat.not_lt_zero _)
        | succ z ih_25 =>
          intro x3_25 m_25 g4_25 hz_25 r_x3_25 hI
          have H := HB_25 x3_25 m_25 r_x3_25 hI
          refine w_st (fun _ => rfl) ?_
          refine w_st (fun _ => rfl) ?_
          refine g_284_67 rfl ?_
          refine b_ge rfl r_x3_25 (rd_rg _ _ _) (fun hq => ?_) (fun hq => ?_)
          · replace H := H.1 hq
            refine f_int 0 rfl rfl ?_
            refine w_st (ls2 := [some (.ref 284), some (iv x1), some (iv x2), some (iv 0), g4_25, none, none, none]) (fun _ => rfl) ?_
            obtain ⟨I_116, mu_116, H0_116, HB_116⟩ := H
            have lp_116 : ∀ (z : Nat) (x3_116 : Int) (m_116 : Mm), mu_116 x3_116 m_116 < z → rg x3_116 → I_116 x3_116 m_116 → mm_W d mc_251 116 [some (.ref 284), some (iv x1), some (iv x2), some (iv x3_116), g4_25, none, none, none] [] (fm m_116) (XK Q) := by
              intro z
              induction z with
              | zero => intro x3_116 m_116 hz; exact absurd hz (Nat.not_lt_zero _)
              | succ z ih_116 =>
                intro x3_116 m_116 hz_116 r_x3_116 hI
                have H := HB_116 x3_116 m_116 r_x3_116 hI
                refine w_st (fun _ => rfl) ?_
                refine f_int 600 rfl rfl ?_
                refine b_ge rfl r_x3_116 (by unfold rg; decide) (fun hq => ?_) (fun hq => ?_)
                · replace H := H.1 hq
                  refine w_st (fun _ => rfl) ?_
                  refine g_284_68 rfl ?_
                  refine w_st (fun _ => rfl) ?_
                  refine g_284_66 rfl ?_
                  refine f_int 0 rfl rfl ?_
                  refine f_ld ir_329 rfl ⟨by decide, by decide⟩ ?_
                  refine f_int 0 rfl rfl ?_
                  obtain ⟨m147, e_m147⟩ : ∃ q : Mm, q = wt m_116 330 (Int.toNat (rd m_116 329 0)) 0 := ⟨_, rfl⟩
                  refine f_st ir_330 rfl H.1 e_m147 ?_
                  replace H := H.2 m147 e_m147
                  refine f_int 1 rfl rfl ?_
                  refine w_st (ls2 := [some (.ref 284), some (iv x1), some (iv x2), some (iv 1), g4_25, none, none, none]) (fun _ => rfl) ?_
                  obtain ⟨I_150, mu_150, H0_150, HB_150⟩ := H
                  have lp_150 : ∀ (z : Nat) (x3_150 : Int) (m_150 : Mm) (g4_150 g5_150 g6_150 g7_150 : Option Value), mu_150 x3_150 m_150 < z → rg x3_150 → I_150 x3_150 m_150 → mm_W d mc_251 150 [some (.ref 284), some (iv x1), some (iv x2), some (iv x3_150), g4_150, g5_150, g6_150, g7_150] [] (fm m_150) (XK Q) := by
                    intro z
                    induction z with
                    | zero => intro x3_150 m_150 g4_150 g5_150 g6_150 g7_150 hz; exact absurd hz (Nat.not_lt_zero _)
                    | succ z ih_150 =>
                      intro x3_150 m_150 g4_150 g5_150 g6_150 g7_150 hz_150 r_x3_150 hI
                      have H := HB_150 x3_150 m_150 r_x3_150 hI
                      refine w_st (fun _ => rfl) ?_
                      refine z_eq rfl r_x3_150 (fun hq => ?_) (fun hq => ?_)
                      · replace H := H.1 hq
                        refine f_int (-2) rfl rfl ?_
                        refine w_st (ls2 := [some (.ref 284), some (iv x1), some (iv x2), some (iv x3_150), some (iv (-2)), g5_150, g6_150, g7_150]) (fun _ => rfl) ?_
                        refine f_int 24 rfl rfl ?_
                        refine w_st (fun _ => rfl) ?_
                        refine f_mul rfl ?_
                        obtain ⟨z5_292, e_z5_292⟩ : ∃ q : Int, q = (wr (24 * x2)) := ⟨_, rfl⟩
                        have r_z5_292 : rg z5_292 := by rw [e_z5_292]; exact (wr_rg _)
                        replace H := H z5_292 e_z5_292
                        refine f_nm e_z5_292 ?_
                        refine w_st (ls2 := [some (.ref 284), some (iv x1), some (iv x2), some (iv x3_150), some (iv (-2)), some (iv z5_292), g6_150, g7_150]) (fun _ => rfl) ?_
                        obtain ⟨I_294, mu_294, H0_294, HB_294⟩ := H
                        have lp_294 : ∀ (z : Nat) (x4_294 x5_294 : Int) , mu_294 x4_294 x5_294 < z → rg x4_294 → rg x5_294 → I_294 x4_294 x5_294 → mm_W d mc_251 294 [some (.ref 284), some (iv x1), some (iv x2), some (iv x3_150), some (iv x4_294), some (iv x5_294), g6_150, g7_150] [] (fm m_150) (XK Q) := by
                          intro z
                          induction z with
                          | zero => intro x4_294 x5_294 hz; exact absurd hz (Nat.not_lt_zero _)
                          | succ z ih_294 =>
                            intro x4_294 x5_294 hz_294 r_x4_294 r_x5_294 hI
                            have H := HB_294 x4_294 x5_294 r_x4_294 r_x5_294 hI
                            refine w_st (fun _ => rfl) ?_
                            refine f_int 24 rfl rfl ?_
                            refine w_st (fun _ => rfl) ?_
                            refine f_mul rfl ?_
                            refine f_int 24 rfl rfl ?_
                            refine f_add rfl ?_
                            refine b_ge rfl r_x5_294 (wr_rg _) (fun hq => ?_) (fun hq => ?_)
                            · replace H := H.1 hq
                              refine w_st (fun _ => rfl) ?_
                              exact f_iret rfl r_x4_294 H
                            · replace H := H.2 hq
                              refine w_st (fun _ => rfl) ?_
                              refine g_284_68 rfl ?_
                              refine w_st (fun _ => rfl) ?_
                              refine f_ld ir_330 rfl H.1 ?_
                              replace H := H.2
                              obtain ⟨R_342, H, HJ_342⟩ := H
                              have tl_342 : ∀ (y4_342 : Int) , rg y4_342 → R_342 y4_342 → mm_W d mc_251 342 [some (.ref 284), some (iv x1), some (iv x2), some (iv x3_150), some (iv y4_342), some (iv x5_294), g6_150, g7_150] [] (fm m_150) (XK Q) := by
                                intro y4_342 r_y4_342 hR
                                have H := HJ_342 y4_342 r_y4_342 hR
                                obtain ⟨z5_342, e_z5_342⟩ : ∃ q : Int, q = wr (x5_294 + 1) := ⟨_, rfl⟩
                                have r_z5_342 : rg z5_342 := by rw [e_z5_342]; exact wr_rg _
                                replace H := H z5_342 e_z5_342
                                refine f_iinc (ls2 := [some (.ref 284), some (iv x1), some (iv x2), some (iv x3_150), some (iv y4_342), some (iv z5_342), g6_150, g7_150]) 1 rfl rfl rfl e_z5_342 rfl ?_
                                refine w_st (fun _ => rfl) ?_
                                exact ih_294 y4_342 z5_342 (Nat.lt_of_lt_of_le H.2 (Nat.le_of_lt_succ hz_294)) r_y4_342 r_z5_342 H.1
                              refine z_lt rfl (rd_rg _ _ _) (fun hq => ?_) (fun hq => ?_)
                              · replace H := H.1 hq
                                exact tl_342 x4_294 r_x4_294 H
                              · replace H := H.2 hq
                                refine w_st (fun _ => rfl) ?_
                                obtain ⟨R_333, H, HJ_333⟩ := H
                                have tl_333 : R_333 → mm_W d mc_251 333 [some (.ref 284), some (iv x1), some (iv x2), some (iv x3_150), some (iv x4_294), some (iv x5_294), g6_150, g7_150] [] (fm m_150) (XK Q) := by
                                  intro   hR
                                  have H := HJ_333   hR
                                  refine w_st (fun _ => rfl) ?_
                                  refine g_284_68 rfl ?_
                                  refine w_st (fun _ => rfl) ?_
                                  refine f_ld ir_330 rfl H.1 ?_
                                  replace H := H.2
                                  obtain ⟨z4_340, e_z4_340⟩ : ∃ q : Int, q = (rd m_150 330 (Int.toNat x5_294)) := ⟨_, rfl⟩
                                  have r_z4_340 : rg z4_340 := by rw [e_z4_340]; exact (rd_rg _ _ _)
                                  replace H := H z4_340 e_z4_340
                                  refine f_nm e_z4_340 ?_
                                  refine w_st (ls2 := [some (.ref 284), some (iv x1), some (iv x2), some (iv x3_150), some (iv z4_340), some (iv x5_294), g6_150, g7_150]) (fun _ => rfl) ?_
                                  exact tl_342 z4_340 r_z4_340 H
                                refine z_lt rfl r_x4_294 (fun hq => ?_) (fun hq => ?_)
                                · replace H := H.1 hq
                                  exact tl_333   H
                                · replace H := H.2 hq
                                  refine w_st (fun _ => rfl) ?_
                                  refine g_284_68 rfl ?_
                                  refine w_st (fun _ => rfl) ?_
                                  refine f_ld ir_330 rfl H.1 ?_
                                  replace H := H.2
                                  refine w_st (fun _ => rfl) ?_
                                  refine b_ge rfl (rd_rg _ _ _) r_x4_294 (fun hq => ?_) (fun hq => ?_)
                                  · replace H := H.1 hq
                                    exact tl_342 x4_294 r_x4_294 H
                                  · replace H := H.2 hq
                                    exact tl_333   H
                        exact lp_294 _ (-2) z5_292 (Nat.lt_succ_self _) (by unfold rg; decide) r_z5_292 H0_294
                      · replace H := H.2 hq
                        refine f_int 0 rfl rfl ?_
                        refine w_st (ls2 := [some (.ref 284), some (iv x1), some (iv x2), some (iv 0), g4_150, g5_150, g6_150, g7_150]) (fun _ => rfl) ?_
                        refine f_int 0 rfl rfl ?_
                        refine w_st (ls2 := [some (.ref 284), some (iv x1), some (iv x2), some (iv 0), some (iv 0), g5_150, g6_150, g7_150]) (fun _ => rfl) ?_
                        obtain ⟨I_159, mu_159, H0_159, HB_159⟩ := H
                        have lp_159 : ∀ (z : Nat) (x3_159 x4_159 : Int) (m_159 : Mm) (g5_159 g6_159 g7_159 : Option Value), mu_159 x3_159 x4_159 m_159 < z → rg x3_159 → rg x4_159 → I_159 x3_159 x4_159 m_159 → mm_W d mc_251 159 [some (.ref 284), some (iv x1), some (iv x2), some (iv x3_159), some (iv x4_159), g5_159, g6_159, g7_159] [] (fm m_159) (XK Q) := by
                          intro z
                          induction z with
                          | zero => intro x3_159 x4_159 m_159 g5_159 g6_159 g7_159 hz; exact absurd hz (Nat.not_lt_zero _)
                          | succ z ih_159 =>
                            intro x3_159 x4_159 m_159 g5_159 g6_159 g7_159 hz_159 r_x3_159 r_x4_159 hI
                            have H := HB_159 x3_159 x4_159 m_159 r_x3_159 r_x4_159 hI
                            refine w_st (fun _ => rfl) ?_
                            refine f_int 4 rfl rfl ?_
                            refine w_st (fun _ => rfl) ?_
                            refine g_284_67 rfl ?_
                            refine f_mul rfl ?_
                            refine b_ge rfl r_x4_159 (wr_rg _) (fun hq => ?_) (fun hq => ?_)
                            · replace H := H.1 hq
                              refine w_st (fun _ => rfl) ?_
                              exact ih_150 x3_159 m_159 (some (iv x4_159)) g5_159 g6_159 g7_159 (Nat.lt_of_lt_of_le H.2 (Nat.le_of_lt_succ hz_150)) r_x3_159 H.1
                            · replace H := H.2 hq
                              refine w_st (fun _ => rfl) ?_
                              refine g_284_66 rfl ?_
                              refine w_st (fun _ => rfl) ?_
                              refine f_int 4 rfl rfl ?_
                              refine f_dvI rfl (by unfold rg; decide) (by decide) ?_
                              refine f_ld ir_329 rfl H.1 ?_
                              replace H := H.2
                              obtain ⟨z5_179, e_z5_179⟩ : ∃ q : Int, q = (rd m_159 329 (Int.toNat (dvI x4_159 4))) := ⟨_, rfl⟩
                              have r_z5_179 : rg z5_179 := by rw [e_z5_179]; exact (rd_rg _ _ _)
                              replace H := H z5_179 e_z5_179
                              refine f_nm e_z5_179 ?_
                              refine w_st (ls2 := [some (.ref 284), some (iv x1), some (iv x2), some (iv x3_159), some (iv x4_159), some (iv z5_179), g6_159, g7_159]) (fun _ => rfl) ?_
                              refine w_st (fun _ => rfl) ?_
                              refine g_284_62 rfl ?_
                              refine f_int 4 rfl rfl ?_
                              refine w_st (fun _ => rfl) ?_
                              refine f_mul rfl ?_
                              refine w_st (fun _ => rfl) ?_
                              refine f_int 4 rfl rfl ?_
                              refine f_rmI rfl (by unfold rg; decide) (by decide) ?_
                              refine f_add rfl ?_
                              refine f_ld ir_325 rfl H.1 ?_
                              replace H := H.2
                              obtain ⟨z6_195, e_z6_195⟩ : ∃ q : Int, q = (rd m_159 325 (Int.toNat (wr ((wr (4 * z5_179)) + (rmI x4_159 4))))) := ⟨_, rfl⟩
                              have r_z6_195 : rg z6_195 := by rw [e_z6_195]; exact (rd_rg _ _ _)
                              replace H := H z6_195 e_z6_195
                              refine f_nm e_z6_195 ?_
                              refine w_st (ls2 := [some (.ref 284), some (iv x1), some (iv x2), some (iv x3_159), some (iv x4_159), some (iv z5_179), some (iv z6_195), g7_159]) (fun _ => rfl) ?_
                              refine w_st (fun _ => rfl) ?_
                              obtain ⟨R_275, H, HJ_275⟩ := H
                              have tl_275 : ∀ (y3_275 : Int) (m_275 : Mm) (g7_275 : Option Value), rg y3_275 → R_275 y3_275 m_275 → mm_W d mc_251 275 [some (.ref 284), some (iv x1), some (iv x2), some (iv y3_275), some (iv x4_159), some (iv z5_179), some (iv z6_195), g7_275] [] (fm m_275) (XK Q) := by
                                intro y3_275 m_275 g7_275 r_y3_275 hR
                                have H := HJ_275 y3_275 m_275 r_y3_275 hR
                                obtain ⟨z4_275, e_z4_275⟩ : ∃ q : Int, q = wr (x4_159 + 1) := ⟨_, rfl⟩
                                have r_z4_275 : rg z4_275 := by rw [e_z4_275]; exact wr_rg _
                                replace H := H z4_275 e_z4_275
                                refine f_iinc (ls2 := [some (.ref 284), some (iv x1), some (iv x2), some (iv y3_275), some (iv z4_275), some (iv z5_179), some (iv z6_195), g7_275]) 1 rfl rfl rfl e_z4_275 rfl ?_
                                refine w_st (fun _ => rfl) ?_
                                exact ih_159 y3_275 z4_275 m_275 (some (iv z5_179)) (some (iv z6_195)) g7_275 (Nat.lt_of_lt_of_le H.2 (Nat.le_of_lt_succ hz_159)) r_y3_275 r_z4_275 H.1
                              refine z_lt rfl r_z6_195 (fun hq => ?_) (fun hq => ?_)
                              · replace H := H.1 hq
                                exact tl_275 x3_159 m_159 g7_159 r_x3_159 H
                              · replace H := H.2 hq
                                refine w_st (fun _ => rfl) ?_
                                refine g_284_68 rfl ?_
                                refine w_st (fun _ => rfl) ?_
                                refine f_ld ir_330 rfl H.1 ?_
                                replace H := H.2
                                refine z_ge rfl (rd_rg _ _ _) (fun hq => ?_) (fun hq => ?_)
                                · replace H := H.1 hq
                                  refine w_st (fun _ => rfl) ?_
                                  refine g_284_68 rfl ?_
                                  refine w_st (fun _ => rfl) ?_
                                  refine f_ld ir_330 rfl H.1 ?_
                                  replace H := H.2
                                  refine w_st (fun _ => rfl) ?_
                                  refine g_284_69 rfl ?_
                                  refine f_int 4 rfl rfl ?_
                                  refine w_st (fun _ => rfl) ?_
                                  refine f_mul rfl ?_
                                  refine w_st (fun _ => rfl) ?_
                                  refine f_int 4 rfl rfl ?_
                                  refine f_rmI rfl (by unfold rg; decide) (by decide) ?_
                                  refine f_add rfl ?_
                                  refine f_ld ir_331 rfl H.1 ?_
                                  replace H := H.2
                                  refine f_add rfl ?_
                                  obtain ⟨z7_237, e_z7_237⟩ : ∃ q : Int, q = (wr ((rd m_159 330 (Int.toNat z5_179)) + (rd m_159 331 (Int.toNat (wr ((wr (4 * z5_179)) + (rmI x4_159 4))))))) := ⟨_, rfl⟩
                                  have r_z7_237 : rg z7_237 := by rw [e_z7_237]; exact (wr_rg _)
                                  replace H := H z7_237 e_z7_237
                                  refine f_nm e_z7_237 ?_
                                  refine w_st (ls2 := [some (.ref 284), some (iv x1), some (iv x2), some (iv x3_159), some (iv x4_159), some (iv z5_179), some (iv z6_195), some (iv z7_237)]) (fun _ => rfl) ?_
                                  refine w_st (fun _ => rfl) ?_
                                  refine g_284_68 rfl ?_
                                  refine w_st (fun _ => rfl) ?_
                                  refine f_ld ir_330 rfl H.1 ?_
                                  replace H := H.2
                                  obtain ⟨R_264, H, HJ_264⟩ := H
                                  have tl_264 : R_264 → mm_W d mc_251 264 [some (.ref 284), some (iv x1), some (iv x2), some (iv x3_159), some (iv x4_159), some (iv z5_179), some (iv z6_195), some (iv z7_237)] [] (fm m_159) (XK Q) := by
                                    intro   hR
                                    have H := HJ_264   hR
                                    refine w_st (fun _ => rfl) ?_
                                    refine g_284_68 rfl ?_
                                    refine w_st (fun _ => rfl) ?_
                                    refine w_st (fun _ => rfl) ?_
                                    obtain ⟨m272, e_m272⟩ : ∃ q : Mm, q = wt m_159 330 (Int.toNat z6_195) z7_237 := ⟨_, rfl⟩
                                    refine f_st ir_330 rfl H.1 e_m272 ?_
                                    replace H := H.2 m272 e_m272
                                    refine f_int 1 rfl rfl ?_
                                    refine w_st (ls2 := [some (.ref 284), some (iv x1), some (iv x2), some (iv 1), some (iv x4_159), some (iv z5_179), some (iv z6_195), some (iv z7_237)]) (fun _ => rfl) ?_
                                    exact tl_275 1 m272 (some (iv z7_237)) (by unfold rg; decide) H
                                  refine z_lt rfl (rd_rg _ _ _) (fun hq => ?_) (fun hq => ?_)
                                  · replace H := H.1 hq
                                    exact tl_264   H
                                  · replace H := H.2 hq
                                    refine w_st (fun _ => rfl) ?_
                                    refine g_284_68 rfl ?_
                                    refine w_st (fun _ => rfl) ?_
                                    refine f_ld ir_330 rfl H.1 ?_
                                    replace H := H.2
                                    refine w_st (fun _ => rfl) ?_
                                    refine b_gt rfl (rd_rg _ _ _) r_z7_237 (fun hq => ?_) (fun hq => ?_)
                                    · replace H := H.1 hq
                                      exact tl_264   H
                                    · replace H := H.2 hq
                                      refine w_st (fun _ => rfl) ?_
                                      exact tl_275 x3_159 m_159 (some (iv z7_237)) r_x3_159 H
                                · replace H := H.2 hq
                                  refine w_st (fun _ => rfl) ?_
                                  exact tl_275 x3_159 m_159 g7_159 r_x3_159 H
                        exact lp_159 _ 0 0 m_150 g5_150 g6_150 g7_150 (Nat.lt_succ_self _) (by unfold rg; decide) (by unfold rg; decide) H0_159
                  exact lp_150 _ 1 m147 g4_25 none none none (Nat.lt_succ_self _) (by unfold rg; decide) H0_150
                · replace H := H.2 hq
                  refine w_st (fun _ => rfl) ?_
                  refine g_284_68 rfl ?_
                  refine w_st (fun _ => rfl) ?_
                  refine f_int (-1) rfl rfl ?_
                  obtain ⟨m129, e_m129⟩ : ∃ q : Mm, q = wt m_116 330 (Int.toNat x3_116) (-1) := ⟨_, rfl⟩
                  refine f_st ir_330 rfl H.1 e_m129 ?_
                  replace H := H.2 m129 e_m129
                  obtain ⟨z3_130, e_z3_130⟩ : ∃ q : Int, q = wr (x3_116 + 1) := ⟨_, rfl⟩
                  have r_z3_130 : rg z3_130 := by rw [e_z3_130]; exact wr_rg _
                  replace H := H z3_130 e_z3_130
                  refine f_iinc (ls2 := [some (.ref 284), some (iv x1), some (iv x2), some (iv z3_130), g4_25, none, none, none]) 1 rfl rfl rfl e_z3_130 rfl ?_
                  refine w_st (fun _ => rfl) ?_
                  exact ih_116 z3_130 m129 (Nat.lt_of_lt_of_le H.2 (Nat.le_of_lt_succ hz_116)) r_z3_130 H.1
            exact lp_116 _ 0 m_25 (Nat.lt_succ_self _) (by unfold rg; decide) H0_116
          · replace H := H.2 hq
            refine f_int 0 rfl rfl ?_
            refine w_st (ls2 := [some (.ref 284), some (iv x1), some (iv x2), some (iv x3_25), some (iv 0), none, none, none]) (fun _ => rfl) ?_
            obtain ⟨I_36, mu_36, H0_36, HB_36⟩ := H
            have lp_36 : ∀ (z : Nat) (x4_36 : Int) (m_36 : Mm), mu_36 x4_36 m_36 < z → rg x4_36 → I_36 x4_36 m_36 → mm_W d mc_251 36 [some (.ref 284), some (iv x1), some (iv x2), some (iv x3_25), some (iv x4_36), none, none, none] [] (fm m_36) (XK Q) := by
              intro z
              induction z with
              | zero => intro x4_36 m_36 hz; exact absurd hz (Nat.not_lt_zero _)
              | succ z ih_36 =>
                intro x4_36 m_36 hz_36 r_x4_36 hI
                have H := HB_36 x4_36 m_36 r_x4_36 hI
                refine w_st (fun _ => rfl) ?_
                refine f_int 4 rfl rfl ?_
                refine b_ge rfl r_x4_36 (by unfold rg; decide) (fun hq => ?_) (fun hq => ?_)
                · replace H := H.1 hq
                  obtain ⟨z3_108, e_z3_108⟩ : ∃ q : Int, q = wr (x3_25 + 1) := ⟨_, rfl⟩
                  have r_z3_108 : rg z3_108 := by rw [e_z3_108]; exact wr_rg _
                  replace H := H z3_108 e_z3_108
                  refine f_iinc (ls2 := [some (.ref 284), some (iv x1), some (iv x2), some (iv z3_108), some (iv x4_36), none, none, none]) 1 rfl rfl rfl e_z3_108 rfl ?_
                  refine w_st (fun _ => rfl) ?_
                  exact ih_25 z3_108 m_36 (some (iv x4_36)) (Nat.lt_of_lt_of_le H.2 (Nat.le_of_lt_succ hz_25)) r_z3_108 H.1
                · replace H := H.2 hq
                  refine w_st (fun _ => rfl) ?_
                  refine g_284_62 rfl ?_
                  refine f_int 4 rfl rfl ?_
                  refine w_st (fun _ => rfl) ?_
                  refine g_284_66 rfl ?_
                  refine w_st (fun _ => rfl) ?_
                  refine f_ld ir_329 rfl H.1 ?_
                  replace H := H.2
                  refine f_mul rfl ?_
                  refine w_st (fun _ => rfl) ?_
                  refine f_add rfl ?_
                  refine f_ld ir_325 rfl H.1 ?_
                  replace H := H.2
                  obtain ⟨R_102, H, HJ_102⟩ := H
                  have tl_102 : ∀ (m_102 : Mm), R_102 m_102 → mm_W d mc_251 102 [some (.ref 284), some (iv x1), some (iv x2), some (iv x3_25), some (iv x4_36), none, none, none] [] (fm m_102) (XK Q) := by
                    intro m_102  hR
                    have H := HJ_102 m_102  hR
                    obtain ⟨z4_102, e_z4_102⟩ : ∃ q : Int, q = wr (x4_36 + 1) := ⟨_, rfl⟩
                    have r_z4_102 : rg z4_102 := by rw [e_z4_102]; exact wr_rg _
                    replace H := H z4_102 e_z4_102
                    refine f_iinc (ls2 := [some (.ref 284), some (iv x1), some (iv x2), some (iv x3_25), some (iv z4_102), none, none, none]) 1 rfl rfl rfl e_z4_102 rfl ?_
                    refine w_st (fun _ => rfl) ?_
                    exact ih_36 z4_102 m_102 (Nat.lt_of_lt_of_le H.2 (Nat.le_of_lt_succ hz_36)) r_z4_102 H.1
                  refine z_lt rfl (rd_rg _ _ _) (fun hq => ?_) (fun hq => ?_)
                  · replace H := H.1 hq
                    exact tl_102 m_36  H
                  · replace H := H.2 hq
                    refine w_st (fun _ => rfl) ?_
                    refine g_284_69 rfl ?_
                    refine f_int 4 rfl rfl ?_
                    refine w_st (fun _ => rfl) ?_
                    refine g_284_66 rfl ?_
                    refine w_st (fun _ => rfl) ?_
                    refine f_ld ir_329 rfl H.1 ?_
                    replace H := H.2
                    refine f_mul rfl ?_
                    refine w_st (fun _ => rfl) ?_
                    refine f_add rfl ?_
                    refine w_st (fun _ => rfl) ?_
                    refine w_st (fun _ => rfl) ?_
                    refine w_st (fun _ => rfl) ?_
                    refine g_284_66 rfl ?_
                    refine w_st (fun _ => rfl) ?_
                    refine f_ld ir_329 rfl H.1 ?_
                    replace H := H.2
                    refine f_int 24 rfl rfl ?_
                    refine f_dvI rfl (by unfold rg; decide) (by decide) ?_
                    refine w_st (fun _ => rfl) ?_
                    refine g_284_66 rfl ?_
                    refine w_st (fun _ => rfl) ?_
                    refine f_ld ir_329 rfl H.1 ?_
                    replace H := H.2
                    refine f_int 24 rfl rfl ?_
                    refine f_rmI rfl (by unfold rg; decide) (by decide) ?_
                    refine w_st (fun _ => rfl) ?_
                    refine k_VK (as := [iv x1, iv (dvI (rd m_36 329 (Int.toNat x3_25)) 24), iv (rmI (rd m_36 329 (Int.toNat x3_25)) 24), iv x4_36]) rfl mg_251 rfl rfl (by decide) rfl rfl H (fun m98 v98 r_v98 H => ?_)
                    obtain ⟨m101, e_m101⟩ : ∃ q : Mm, q = wt m98 331 (Int.toNat (wr ((wr (4 * (rd m_36 329 (Int.toNat x3_25)))) + x4_36))) v98 := ⟨_, rfl⟩
                    refine f_st ir_331 rfl H.1 e_m101 ?_
                    replace H := H.2 m101 e_m101
                    exact tl_102 m101  H
            exact lp_36 _ 0 m_25 (Nat.lt_succ_self _) (by unfold rg; decide) H0_36
      exact lp_25 _ 0 m20 none (Nat.lt_succ_self _) (by unfold rg; decide) H0_25
    · replace H := H.2 hq
      exact tl_16 m10  H
