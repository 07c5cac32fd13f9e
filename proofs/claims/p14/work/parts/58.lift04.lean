/-- TippedCratesModel.feed(IIIII)I -/
def P_169 (d : Nat) (m : Mm) (x1 : Int) (x2 : Int) (x3 : Int) (x4 : Int) (x5 : Int) (Q : Mm → Int → Prop) : Prop :=
  (((wr ((rd m 284 2) + 20)) ≤ 2000 → CV d 170 [.ref 284, iv x1] m (fun m17 =>
      CV d 170 [.ref 284, iv x2] m17 (fun m22 =>
      CV d 170 [.ref 284, iv x3] m22 (fun m27 =>
      CV d 170 [.ref 284, iv x4] m27 (fun m33 =>
      CV d 170 [.ref 284, iv x5] m33 (fun m39 =>
      Q m39 (rd m39 284 2))))))) ∧
    (¬ (wr ((rd m 284 2) + 20)) ≤ 2000 → Q m (-1)))
set_option maxRecDepth 20000 in
theorem br_169 {d : Nat} {m : Mm} {x1 : Int} {x2 : Int} {x3 : Int} {x4 : Int} {x5 : Int} {Q : Mm → Int → Prop} (r_x1 : rg x1) (r_x2 : rg x2) (r_x3 : rg x3) (r_x4 : rg x4) (r_x5 : rg x5) (H : P_169 d m x1 x2 x3 x4 x5 Q) : CK (d + 1) 169 [.ref 284, iv x1, iv x2, iv x3, iv x4, iv x5] m Q := by
  unfold P_169 at H
  refine CK_of rfl ?_
  show mm_W d mc_169 0 [some (.ref 284), some (iv x1), some (iv x2), some (iv x3), some (iv x4), some (iv x5)] [] (fm m) (XK Q)
  refine w_st (fun _ => rfl) ?_
  refine g_284_2 rfl ?_
  refine f_int 20 rfl rfl ?_
  refine f_add rfl ?_
  refine f_int 2000 rfl rfl ?_
  refine b_le rfl (wr_rg _) (by unfold rg; decide) (fun hq => ?_) (fun hq => ?_)
  · replace H := H.1 hq
    refine w_st (fun _ => rfl) ?_
    refine w_st (fun _ => rfl) ?_
    refine k_VV (as := [iv x1]) rfl mg_169 rfl rfl (by decide) rfl rfl H (fun m17 H => ?_)
    refine w_st (fun _ => rfl) ?_
    refine w_st (fun _ => rfl) ?_
    refine k_VV (as := [iv x2]) rfl mg_169 rfl rfl (by decide) rfl rfl H (fun m22 H => ?_)
    refine w_st (fun _ => rfl) ?_
    refine w_st (fun _ => rfl) ?_
    refine k_VV (as := [iv x3]) rfl mg_169 rfl rfl (by decide) rfl rfl H (fun m27 H => ?_)
    refine w_st (fun _ => rfl) ?_
    refine w_st (fun _ => rfl) ?_
    refine k_VV (as := [iv x4]) rfl mg_169 rfl rfl (by decide) rfl rfl H (fun m33 H => ?_)
    refine w_st (fun _ => rfl) ?_
    refine w_st (fun _ => rfl) ?_
    refine k_VV (as := [iv x5]) rfl mg_169 rfl rfl (by decide) rfl rfl H (fun m39 H => ?_)
    refine w_st (fun _ => rfl) ?_
    refine g_284_2 rfl ?_
    exact f_iret rfl (rd_rg _ _ _) H
  · replace H := H.2 hq
    refine f_int (-1) rfl rfl ?_
    exact f_iret rfl (by unfold rg; decide) H
/-- TippedCratesModel.lays(I)V -/
def P_170 (d : Nat) (m : Mm) (x1 : Int) (Q : Mm → Prop) : Prop :=
  (∃ (I_3 : Int → Mm → Prop) (mu_3 : Int → Mm → Nat), I_3 24 m ∧
    ∀ (x2_3 : Int) (m_3 : Mm), rg x2_3 → I_3 x2_3 m_3 →
    ((x2_3 < 0 → Q m_3) ∧
        (¬ x2_3 < 0 → (((0 : Int) ≤ (rd m_3 284 2) ∧ (rd m_3 284 2) < 2000) ∧ (∀ m19 : Mm, m19 = wt m_3 285 (Int.toNat (rd m_3 284 2)) (nb (nb (srI x1 x2_3))) → (∀ m27 : Mm, m27 = wt m19 284 2 (wr ((rd m19 284 2) + 1)) → (∀ z2_30 : Int, z2_30 = wr (x2_3 + (-8)) → (I_3 z2_30 m27 ∧ mu_3 z2_30 m27 < mu_3 x2_3 m_3))))))))
set_option maxRecDepth 20000 in
theorem br_170 {d : Nat} {m : Mm} {x1 : Int} {Q : Mm → Prop} (r_x1 : rg x1) (H : P_170 d m x1 Q) : CV (d + 1) 170 [.ref 284, iv x1] m Q := by
  unfold P_170 at H
  refine CV_of rfl ?_
  show mm_W d mc_170 0 [some (.ref 284), some (iv x1), none] [] (fm m) (XV Q)
  refine f_int 24 rfl rfl ?_
  refine w_st (ls2 := [some (.ref 284), some (iv x1), some (iv 24)]) (fun _ => rfl) ?_
  obtain ⟨I_3, mu_3, H0_3, HB_3⟩ := H
  have lp_3 : ∀ (z : Nat) (x2_3 : Int) (m_3 : Mm), mu_3 x2_3 m_3 < z → rg x2_3 → I_3 x2_3 m_3 → mm_W d mc_170 3 [some (.ref 284), some (iv x1), some (iv x2_3)] [] (fm m_3) (XV Q) := by
    intro z
    induction z with
    | zero => intro x2_3 m_3 hz; exact absurd hz (Nat.not_lt_zero _)
    | succ z ih_3 =>
      intro x2_3 m_3 hz_3 r_x2_3 hI
      have H := HB_3 x2_3 m_3 r_x2_3 hI
      refine w_st (fun _ => rfl) ?_
      refine z_lt rfl r_x2_3 (fun hq => ?_) (fun hq => ?_)
      · replace H := H.1 hq
        exact f_ret rfl H
      · replace H := H.2 hq
        refine w_st (fun _ => rfl) ?_
        refine g_284_1 rfl ?_
        refine w_st (fun _ => rfl) ?_
        refine g_284_2 rfl ?_
        refine w_st (fun _ => rfl) ?_
        refine w_st (fun _ => rfl) ?_
        refine f_srI rfl ?_
        refine f_nbI rfl ?_
        obtain ⟨m19, e_m19⟩ : ∃ q : Mm, q = wt m_3 285 (Int.toNat (rd m_3 284 2)) (nb (nb (srI x1 x2_3))) := ⟨_, rfl⟩
        refine f_stb (n := 2000) (by decide) (fun _ => rfl) (by decide) rfl H.1 e_m19 ?_
        replace H := H.2 m19 e_m19
        refine w_st (fun _ => rfl) ?_
        refine w_st (fun _ => rfl) ?_
        refine g_284_2 rfl ?_
        refine f_int 1 rfl rfl ?_
        refine f_add rfl ?_
        obtain ⟨m27, e_m27⟩ : ∃ q : Mm, q = wt m19 284 2 (wr ((rd m19 284 2) + 1)) := ⟨_, rfl⟩
        replace H := H m27 e_m27
        refine p_284_2 rfl e_m27 ?_
        obtain ⟨z2_30, e_z2_30⟩ : ∃ q : Int, q = wr (x2_3 + (-8)) := ⟨_, rfl⟩
        have r_z2_30 : rg z2_30 := by rw [e_z2_30]; exact wr_rg _
        replace H := H z2_30 e_z2_30
        refine f_iinc (ls2 := [some (.ref 284), some (iv x1), some (iv z2_30)]) (-8) rfl rfl rfl e_z2_30 rfl ?_
        refine w_st (fun _ => rfl) ?_
        exact ih_3 z2_30 m27 (Nat.lt_of_lt_of_le H.2 (Nat.le_of_lt_succ hz_3)) r_z2_30 H.1
  exact lp_3 _ 24 m (Nat.lt_succ_self _) (by unfold rg; decide) H0_3
/-- TippedCratesModel.back(I)I -/
def P_171 (d : Nat) (m : Mm) (x1 : Int) (Q : Mm → Int → Prop) : Prop :=
  (∃ R_12 : Prop,
    ((x1 < 0 → R_12) ∧
    (¬ x1 < 0 → ((x1 ≤ (rd m 284 2) → (∀ m21 : Mm, m21 = wt m 284 2 (wr ((rd m 284 2) - x1)) → Q m21 (rd m21 284 2))) ∧
      (¬ x1 ≤ (rd m 284 2) → R_12)))) ∧
    (R_12 →
    Q m (-1)))
set_option maxRecDepth 20000 in
theorem br_171 {d : Nat} {m : Mm} {x1 : Int} {Q : Mm → Int → Prop} (r_x1 : rg x1) (H : P_171 d m x1 Q) : CK (d + 1) 171 [.ref 284, iv x1] m Q := by
  unfold P_171 at H
  refine CK_of rfl ?_
  show mm_W d mc_171 0 [some (.ref 284), some (iv x1)] [] (fm m) (XK Q)
  refine w_st (fun _ => rfl) ?_
  obtain ⟨R_12, H, HJ_12⟩ := H
  have tl_12 : R_12 → mm_W d mc_171 12 [some (.ref 284), some (iv x1)] [] (fm m) (XK Q) := by
    intro   hR
    have H := HJ_12   hR
    refine f_int (-1) rfl rfl ?_
    exact f_iret rfl (by unfold rg; decide) H
  refine z_lt rfl r_x1 (fun hq => ?_) (fun hq => ?_)
  · replace H := H.1 hq
    exact tl_12   H
  · replace H := H.2 hq
    refine w_st (fun _ => rfl) ?_
    refine w_st (fun _ => rfl) ?_
    refine g_284_2 rfl ?_
    refine b_le rfl r_x1 (rd_rg _ _ _) (fun hq => ?_) (fun hq => ?_)
    · replace H := H.1 hq
      refine w_st (fun _ => rfl) ?_
      refine w_st (fun _ => rfl) ?_
      refine g_284_2 rfl ?_
      refine w_st (fun _ => rfl) ?_
      refine f_sub rfl ?_
      obtain ⟨m21, e_m21⟩ : ∃ q : Mm, q = wt m 284 2 (wr ((rd m 284 2) - x1)) := ⟨_, rfl⟩
      replace H := H m21 e_m21
      refine p_284_2 rfl e_m21 ?_
      refine w_st (fun _ => rfl) ?_
      refine g_284_2 rfl ?_
      exact f_iret rfl (rd_rg _ _ _) H
    · replace H := H.2 hq
      exact tl_12   H
/-- TippedCratesModel.byteAt(I)I -/
def P_172 (d : Nat) (m : Mm) (x1 : Int) (Q : Mm → Int → Prop) : Prop :=
  (∃ R_22 : Int → Prop,
    (((rd m 284 4) ≤ x1 → R_22 0) ∧
    (¬ (rd m 284 4) ≤ x1 → (((0 : Int) ≤ x1 ∧ x1 < 2000) ∧ R_22 (anI (rd m 286 (Int.toNat x1)) 255)))) ∧
    (∀ (s0_22 : Int) , rg s0_22 → R_22 s0_22 →
    Q m s0_22))
set_option maxRecDepth 20000 in
theorem br_172 {d : Nat} {m : Mm} {x1 : Int} {Q : Mm → Int → Prop} (r_x1 : rg x1) (H : P_172 d m x1 Q) : CK (d + 1) 172 [.ref 284, iv x1] m Q := by
  unfold P_172 at H
  refine CK_of rfl ?_
  show mm_W d mc_172 0 [some (.ref 284), some (iv x1)] [] (fm m) (XK Q)
  refine w_st (fun _ => rfl) ?_
  refine w_st (fun _ => rfl) ?_
  refine g_284_4 rfl ?_
  obtain ⟨R_22, H, HJ_22⟩ := H
  have tl_22 : ∀ (s0_22 : Int) , rg s0_22 → R_22 s0_22 → mm_W d mc_172 22 [some (.ref 284), some (iv x1)] [iv s0_22] (fm m) (XK Q) := by
    intro s0_22 r_s0_22 hR
    have H := HJ_22 s0_22 r_s0_22 hR
    exact f_iret rfl r_s0_22 H
  refine b_ge rfl r_x1 (rd_rg _ _ _) (fun hq => ?_) (fun hq => ?_)
  · replace H := H.1 hq
    refine f_int 0 rfl rfl ?_
    exact tl_22 0 (by unfold rg; decide) H
  · replace H := H.2 hq
    refine w_st (fun _ => rfl) ?_
    refine g_284_3 rfl ?_
    refine w_st (fun _ => rfl) ?_
    refine f_ldb (n := 2000) (by decide) rfl (by decide) rfl H.1 ?_
    replace H := H.2
    refine f_int 255 rfl rfl ?_
    refine f_anI rfl ?_
    refine w_st (fun _ => rfl) ?_
    exact tl_22 (anI (rd m 286 (Int.toNat x1)) 255) (io_rg _ _ _) H
/-- TippedCratesModel.isDigit(I)Z -/
def P_173 (d : Nat) (m : Mm) (x0 : Int) (Q : Mm → Int → Prop) : Prop :=
  (∃ R_17 : Int → Prop,
    (∃ R_16 : Prop,
    ((x0 < 48 → R_16) ∧
    (¬ x0 < 48 → ((57 < x0 → R_16) ∧
      (¬ 57 < x0 → R_17 1)))) ∧
    (R_16 →
    R_17 0)) ∧
    (∀ (s0_17 : Int) , rg s0_17 → R_17 s0_17 →
    ((s0_17 = 0 ∨ s0_17 = 1) ∧ Q m s0_17)))
set_option maxRecDepth 20000 in
theorem br_173 {d : Nat} {m : Mm} {x0 : Int} {Q : Mm → Int → Prop} (r_x0 : rg x0) (H : P_173 d m x0 Q) : CK (d + 1) 173 [iv x0] m Q := by
  unfold P_173 at H
  refine CK_of rfl ?_
  show mm_W d mc_173 0 [some (iv x0)] [] (fm m) (XK Q)
  refine w_st (fun _ => rfl) ?_
  refine f_int 48 rfl rfl ?_
  obtain ⟨R_17, H, HJ_17⟩ := H
  have tl_17 : ∀ (s0_17 : Int) , rg s0_17 → R_17 s0_17 → mm_W d mc_173 17 [some (iv x0)] [iv s0_17] (fm m) (XK Q) := by
    intro s0_17 r_s0_17 hR
    have H := HJ_17 s0_17 r_s0_17 hR
    exact f_zret rfl r_s0_17 H.1 H.2
  obtain ⟨R_16, H, HJ_16⟩ := H
  have tl_16 : R_16 → mm_W d mc_173 16 [some (iv x0)] [] (fm m) (XK Q) := by
    intro   hR
    have H := HJ_16   hR
    refine f_int 0 rfl rfl ?_
    exact tl_17 0 (by unfold rg; decide) H
  refine b_lt rfl r_x0 (by unfold rg; decide) (fun hq => ?_) (fun hq => ?_)
  · replace H := H.1 hq
    exact tl_16   H
  · replace H := H.2 hq
    refine w_st (fun _ => rfl) ?_
    refine f_int 57 rfl rfl ?_
    refine b_gt rfl r_x0 (by unfold rg; decide) (fun hq => ?_) (fun hq => ?_)
    · replace H := H.1 hq
      exact tl_16   H
    · replace H := H.2 hq
      refine f_int 1 rfl rfl ?_
      refine w_st (fun _ => rfl) ?_
      exact tl_17 1 (by unfold rg; decide) H
/-- TippedCratesModel.isLetter(I)Z -/
def P_174 (d : Nat) (m : Mm) (x0 : Int) (Q : Mm → Int → Prop) : Prop :=
  (∃ R_17 : Int → Prop,
    (∃ R_16 : Prop,
    ((x0 < 97 → R_16) ∧
    (¬ x0 < 97 → ((122 < x0 → R_16) ∧
      (¬ 122 < x0 → R_17 1)))) ∧
    (R_16 →
    R_17 0)) ∧
    (∀ (s0_17 : Int) , rg s0_17 → R_17 s0_17 →
    ((s0_17 = 0 ∨ s0_17 = 1) ∧ Q m s0_17)))
set_option maxRecDepth 20000 in
theorem br_174 {d : Nat} {m : Mm} {x0 : Int} {Q : Mm → Int → Prop} (r_x0 : rg x0) (H : P_174 d m x0 Q) : CK (d + 1) 174 [iv x0] m Q := by
  unfold P_174 at H
  refine CK_of rfl ?_
  show mm_W d mc_174 0 [some (iv x0)] [] (fm m) (XK Q)
  refine w_st (fun _ => rfl) ?_
  refine f_int 97 rfl rfl ?_
  obtain ⟨R_17, H, HJ_17⟩ := H
  have tl_17 : ∀ (s0_17 : Int) , rg s0_17 → R_17 s0_17 → mm_W d mc_174 17 [some (iv x0)] [iv s0_17] (fm m) (XK Q) := by
    intro s0_17 r_s0_17 hR
    have H := HJ_17 s0_17 r_s0_17 hR
    exact f_zret rfl r_s0_17 H.1 H.2
  obtain ⟨R_16, H, HJ_16⟩ := H
  have tl_16 : R_16 → mm_W d mc_174 16 [some (iv x0)] [] (fm m) (XK Q) := by
    intro   hR
    have H := HJ_16   hR
    refine f_int 0 rfl rfl ?_
    exact tl_17 0 (by unfold rg; decide) H
  refine b_lt rfl r_x0 (by unfold rg; decide) (fun hq => ?_) (fun hq => ?_)
  · replace H := H.1 hq
    exact tl_16   H
  · replace H := H.2 hq
    refine w_st (fun _ => rfl) ?_
    refine f_int 122 rfl rfl ?_
    refine b_gt rfl r_x0 (by unfold rg; decide) (fun hq => ?_) (fun hq => ?_)
    · replace H := H.1 hq
      exact tl_16   H
    · replace H := H.2 hq
      refine f_int 1 rfl rfl ?_
      refine w_st (fun _ => rfl) ?_
      exact tl_17 1 (by unfold rg; decide) H
/-- TippedCratesModel.appends(JI)J -/
def P_175 (d : Nat) (m : Mm) (x0 : Int) (x2 : Int) (Q : Mm → Int → Prop) : Prop :=
  (∃ R_21 : Int → Prop,
    ((¬ x2 = 0 → R_21 (wrl ((wrl (27 * x0)) + (wr ((wr (x2 - 97)) + 1))))) ∧
    (x2 = 0 → R_21 x0)) ∧
    (∀ (s0_21 : Int) , rgl s0_21 → R_21 s0_21 →
    Q m s0_21))
set_option maxRecDepth 20000 in
theorem br_175 {d : Nat} {m : Mm} {x0 : Int} {x2 : Int} {Q : Mm → Int → Prop} (r_x0 : rgl x0) (r_x2 : rg x2) (H : P_175 d m x0 x2 Q) : CL (d + 1) 175 [lv x0, iv x2] m Q := by
  unfold P_175 at H
  refine CL_of rfl ?_
  show mm_W d mc_175 0 [some (lv x0), none, some (iv x2)] [] (fm m) (XL Q)
  refine w_st (fun _ => rfl) ?_
  obtain ⟨R_21, H, HJ_21⟩ := H
  have tl_21 : ∀ (s0_21 : Int) , rgl s0_21 → R_21 s0_21 → mm_W d mc_175 21 [some (lv x0), none, some (iv x2)] [lv s0_21] (fm m) (XL Q) := by
    intro s0_21 r_s0_21 hR
    have H := HJ_21 s0_21 r_s0_21 hR
    exact f_lret rfl r_s0_21 H
  refine z_ne rfl r_x2 (fun hq => ?_) (fun hq => ?_)
  · replace H := H.1 hq
    refine f_long 27 rfl rfl ?_
    refine w_st (fun _ => rfl) ?_
    refine f_mull rfl ?_
    refine w_st (fun _ => rfl) ?_
    refine f_int 97 rfl rfl ?_
    refine f_sub rfl ?_
    refine f_int 1 rfl rfl ?_
    refine f_add rfl ?_
    refine f_i2l rfl (wr_rg _) ?_
    refine f_addl rfl ?_
    exact tl_21 (wrl ((wrl (27 * x0)) + (wr ((wr (x2 - 97)) + 1)))) (wrl_rg _) H
  · replace H := H.2 hq
    refine w_st (fun _ => rfl) ?_
    refine w_st (fun _ => rfl) ?_
    exact tl_21 x0 r_x0 H
/-- TippedCratesModel.token(IIIJ)V -/
def P_177 (d : Nat) (m : Mm) (x1 : Int) (x2 : Int) (x3 : Int) (x4 : Int) (Q : Mm → Prop) : Prop :=
  (((0 : Int) ≤ (rd m 284 10) ∧ (rd m 284 10) < 403) ∧ (∀ m9 : Mm, m9 = wt m 287 (Int.toNat (rd m 284 10)) x1 → (((0 : Int) ≤ (rd m9 284 10) ∧ (rd m9 284 10) < 403) ∧ (∀ m19 : Mm, m19 = wt m9 288 (Int.toNat (rd m9 284 10)) x2 → (((0 : Int) ≤ (rd m19 284 10) ∧ (rd m19 284 10) < 403) ∧ (∀ m29 : Mm, m29 = wt m19 289 (Int.toNat (rd m19 284 10)) x3 → (((0 : Int) ≤ (rd m29 284 10) ∧ (rd m29 284 10) < 403) ∧ (∀ m40 : Mm, m40 = wl m29 290 (Int.toNat (rd m29 284 10)) x4 → (∀ m48 : Mm, m48 = wt m40 284 10 (wr ((rd m40 284 10) + 1)) → Q m48)))))))))
set_option maxRecDepth 20000 in
theorem br_177 {d : Nat} {m : Mm} {x1 : Int} {x2 : Int} {x3 : Int} {x4 : Int} {Q : Mm → Prop} (r_x1 : rg x1) (r_x2 : rg x2) (r_x3 : rg x3) (r_x4 : rgl x4) (H : P_177 d m x1 x2 x3 x4 Q) : CV (d + 1) 177 [.ref 284, iv x1, iv x2, iv x3, lv x4] m Q := by
  unfold P_177 at H
  refine CV_of rfl ?_
  show mm_W d mc_177 0 [some (.ref 284), some (iv x1), some (iv x2), some (iv x3), some (lv x4), none] [] (fm m) (XV Q)
  refine w_st (fun _ => rfl) ?_
  refine g_284_5 rfl ?_
  refine w_st (fun _ => rfl) ?_
  refine g_284_10 rfl ?_
  refine w_st (fun _ => rfl) ?_
  obtain ⟨m9, e_m9⟩ : ∃ q : Mm, q = wt m 287 (Int.toNat (rd m 284 10)) x1 := ⟨_, rfl⟩
  refine f_st ir_287 rfl H.1 e_m9 ?_
  replace H := H.2 m9 e_m9
  refine w_st (fun _ => rfl) ?_
  refine g_284_6 rfl ?_
  refine w_st (fun _ => rfl) ?_
  refine g_284_10 rfl ?_
  refine w_st (fun _ => rfl) ?_
  obtain ⟨m19, e_m19⟩ : ∃ q : Mm, q = wt m9 288 (Int.toNat (rd m9 284 10)) x2 := ⟨_, rfl⟩
  refine f_st ir_288 rfl H.1 e_m19 ?_
  replace H := H.2 m19 e_m19
  refine w_st (fun _ => rfl) ?_
  refine g_284_7 rfl ?_
  refine w_st (fun _ => rfl) ?_
  refine g_284_10 rfl ?_
  refine w_st (fun _ => rfl) ?_
  obtain ⟨m29, e_m29⟩ : ∃ q : Mm, q = wt m19 289 (Int.toNat (rd m19 284 10)) x3 := ⟨_, rfl⟩
  refine f_st ir_289 rfl H.1 e_m29 ?_
  replace H := H.2 m29 e_m29
  refine w_st (fun _ => rfl) ?_
  refine g_284_8 rfl ?_
  refine w_st (fun _ => rfl) ?_
  refine g_284_10 rfl ?_
  refine w_st (fun _ => rfl) ?_
  obtain ⟨m40, e_m40⟩ : ∃ q : Mm, q = wl m29 290 (Int.toNat (rd m29 284 10)) x4 := ⟨_, rfl⟩
  refine f_stl (n := 403) (by decide) (fun _ => rfl) (by decide) rfl H.1 e_m40 ?_
  replace H := H.2 m40 e_m40
  refine w_st (fun _ => rfl) ?_
  refine w_st (fun _ => rfl) ?_
  refine g_284_10 rfl ?_
  refine f_int 1 rfl rfl ?_
  refine f_add rfl ?_
  obtain ⟨m48, e_m48⟩ : ∃ q : Mm, q = wt m40 284 10 (wr ((rd m40 284 10) + 1)) := ⟨_, rfl⟩
  replace H := H m48 e_m48
  refine p_284_10 rfl e_m48 ?_
  exact f_ret rfl H
/-- TippedCratesModel.cut()V -/
def P_178 (d : Nat) (m : Mm)  (Q : Mm → Prop) : Prop :=
  (∀ m2 : Mm, m2 = wt m 284 10 0 → (∃ (I_7 : Int → Mm → Prop) (mu_7 : Int → Mm → Nat), I_7 0 m2 ∧
    ∀ (x1_7 : Int) (m_7 : Mm), rg x1_7 → I_7 x1_7 m_7 →
    ((400 < (rd m_7 284 10) → Q m_7) ∧
        (¬ 400 < (rd m_7 284 10) → CK d 172 [.ref 284, iv x1_7] m_7 (fun m19 v19 =>
          ((x1_7 < (rd m19 284 4) → (∃ R_291 : Int → Mm → Prop,
            (∃ R_67 : Prop,
            ((v19 = 9 → R_67) ∧
            (¬ v19 = 9 → ((v19 = 10 → R_67) ∧
              (¬ v19 = 10 → ((v19 = 13 → R_67) ∧
                (¬ v19 = 13 → ((¬ v19 = 32 → CK d 174 [iv v19] m19 (fun m74 v74 =>
                    ((v74 = 0 → CK d 173 [iv v19] m74 (fun m197 v197 =>
                      ((v197 = 0 → CK d 172 [.ref 284, iv (wr (x1_7 + 1))] m197 (fun m283 v283 =>
                        CK d 179 [.ref 284, iv x1_7, iv v19, iv v283] m283 (fun m286 v286 =>
                        (∀ z1_290 : Int, z1_290 = (wr (x1_7 + v286)) → R_291 z1_290 m286)))) ∧
                      (¬ v197 = 0 → (∃ (I_208 : Int → Int → Mm → Prop) (mu_208 : Int → Int → Mm → Nat), I_208 0 0 m197 ∧
                        ∀ (x3_208 x4_208 : Int) (m_208 : Mm), rg x3_208 → rg x4_208 → I_208 x3_208 x4_208 m_208 →
                        CK d 172 [.ref 284, iv (wr (x1_7 + x3_208))] m_208 (fun m212 v212 =>
                            CK d 173 [iv v212] m212 (fun m215 v215 =>
                            ((v215 = 0 → (∃ R_261 : Int → Prop,
                              ((x3_208 ≤ 4 → R_261 2) ∧
                              (¬ x3_208 ≤ 4 → R_261 3)) ∧
                              (∀ (s1_261 : Int) , rg s1_261 → R_261 s1_261 →
                              CV d 177 [.ref 284, iv s1_261, iv x1_7, iv x4_208, lv 0] m215 (fun m265 =>
                                (∀ z1_271 : Int, z1_271 = (wr (x1_7 + x3_208)) → R_291 z1_271 m265))))) ∧
                            (¬ v215 = 0 → (∃ R_244 : Int → Mm → Prop,
                              ((4 ≤ x3_208 → R_244 x4_208 m215) ∧
                              (¬ 4 ≤ x3_208 → CK d 172 [.ref 284, iv (wr (x1_7 + x3_208))] m215 (fun m235 v235 =>
                                (∀ z4_242 : Int, z4_242 = (wr ((wr ((wr (10 * x4_208)) + v235)) - 48)) → R_244 z4_242 m235)))) ∧
                              (∀ (y4_244 : Int) (m_244 : Mm), rg y4_244 → R_244 y4_244 m_244 →
                              (∀ z3_244 : Int, z3_244 = wr (x3_208 + 1) → (I_208 z3_244 y4_244 m_244 ∧ mu_208 z3_244 y4_244 m_244 < mu_208 x3_208 x4_208 m_208))))))))))))) ∧
                    (¬ v74 = 0 → (∃ (I_85 : Int → Int → Mm → Prop) (mu_85 : Int → Int → Mm → Nat), I_85 0 0 m74 ∧
                      ∀ (x3_85 x4_85 : Int) (m_85 : Mm), rg x3_85 → rgl x4_85 → I_85 x3_85 x4_85 m_85 →
                      CK d 172 [.ref 284, iv (wr (x1_7 + x3_85))] m_85 (fun m89 v89 =>
                          CK d 174 [iv v89] m89 (fun m92 v92 =>
                          ((v92 = 0 → (∃ R_135 : Int → Prop,
                            ((x3_85 ≤ 8 → R_135 1) ∧
                            (¬ x3_85 ≤ 8 → R_135 3)) ∧
                            (∀ (s0_135 : Int) , rg s0_135 → R_135 s0_135 →
                            (∃ R_179 : Int → Prop,
                              ((8 < x3_85 → R_179 s0_135) ∧
                              (¬ 8 < x3_85 → (∃ (I_146 : Int → Int → Prop) (mu_146 : Int → Int → Nat), I_146 s0_135 0 ∧
                                ∀ (x6_146 x7_146 : Int) , rg x6_146 → rg x7_146 → I_146 x6_146 x7_146 →
                                ((21 ≤ x7_146 → R_179 x6_146) ∧
                                    (¬ 21 ≤ x7_146 → (((0 : Int) ≤ x7_146 ∧ x7_146 < 21) ∧ (∃ R_173 : Int → Prop,
                                      ((¬ (lcm2 (ld m92 291 (Int.toNat x7_146)) x4_85) = 0 → R_173 x6_146) ∧
                                      ((lcm2 (ld m92 291 (Int.toNat x7_146)) x4_85) = 0 → (∀ z6_171 : Int, z6_171 = (wr (20 + x7_146)) → R_173 z6_171))) ∧
                                      (∀ (y6_173 : Int) , rg y6_173 → R_173 y6_173 →
                                      (∀ z7_173 : Int, z7_173 = wr (x7_146 + 1) → (I_146 y6_173 z7_173 ∧ mu_146 y6_173 z7_173 < mu_146 x6_146 x7_146)))))))))) ∧
                              (∀ (y6_179 : Int) , rg y6_179 → R_179 y6_179 →
                              CV d 177 [.ref 284, iv y6_179, iv x1_7, iv 0, lv x4_85] m92 (fun m186 =>
                                (∀ z1_192 : Int, z1_192 = (wr (x1_7 + x3_85)) → R_291 z1_192 m186))))))) ∧
                          (¬ v92 = 0 → (∃ R_118 : Int → Mm → Prop,
                            ((8 ≤ x3_85 → R_118 x4_85 m92) ∧
                            (¬ 8 ≤ x3_85 → CK d 172 [.ref 284, iv (wr (x1_7 + x3_85))] m92 (fun m110 v110 =>
                              CL d 175 [lv x4_85, iv v110] m110 (fun m113 v113 =>
                              R_118 v113 m113)))) ∧
                            (∀ (y4_118 : Int) (m_118 : Mm), rgl y4_118 → R_118 y4_118 m_118 →
                            (∀ z3_118 : Int, z3_118 = wr (x3_85 + 1) → (I_85 z3_118 y4_118 m_118 ∧ mu_85 z3_118 y4_118 m_118 < mu_85 x3_85 x4_85 m_85))))))))))))) ∧
                  (v19 = 32 → R_67)))))))) ∧
            (R_67 →
            (∀ z1_67 : Int, z1_67 = wr (x1_7 + 1) → R_291 z1_67 m19))) ∧
            (∀ (y1_291 : Int) (m_291 : Mm), rg y1_291 → R_291 y1_291 m_291 →
            (I_7 y1_291 m_291 ∧ mu_7 y1_291 m_291 < mu_7 x1_7 m_7)))) ∧
          (¬ x1_7 < (rd m19 284 4) → CV d 177 [.ref 284, iv 0, iv (rd m19 284 4), iv 0, lv 0] m19 (fun m39 =>
            Q m39))))))))
set_option maxRecDepth 20000 in
theorem br_178 {d : Nat} {m : Mm}  {Q : Mm → Prop}  (H : P_178 d m  Q) : CV (d + 1) 178 [.ref 284] m Q := by
  unfold P_178 at H
  refine CV_of rfl ?_
  show mm_W d mc_178 0 [some (.ref 284), none, none, none, none, none, none, none] [] (fm m) (XV Q)
  refine w_st (fun _ => rfl) ?_
  refine f_int 0 rfl rfl ?_
  obtain ⟨m2, e_m2⟩ : ∃ q : Mm, q = wt m 284 10 0 := ⟨_, rfl⟩
  replace H := H m2 e_m2
  refine p_284_10 rfl e_m2 ?_
  refine f_int 0 rfl rfl ?_
  refine w_st (ls2 := [some (.ref 284), some (iv 0), none, none, none, none, none, none]) (fun _ => rfl) ?_
  obtain ⟨I_7, mu_7, H0_7, HB_7⟩ := H
  have lp_7 : ∀ (z : Nat) (x1_7 : Int) (m_7 : Mm) (g2_7 g3_7 g4_7 g6_7 g7_7 : Option Value), mu_7 x1_7 m_7 < z → rg x1_7 → I_7 x1_7 m_7 → mm_W d mc_178 7 [some (.ref 284), some (iv x1_7), g2_7, g3_7, g4_7, none, g6_7, g7_7] [] (fm m_7) (XV Q) := by
    intro z
    induction z with
    | zero => intro x1_7 m_7 g2_7 g3_7 g4_7 g6_7 g7_7 hz; exact absurd hz (Nat.not_lt_zero _)
    | succ z ih_7 =>
      intro x1_7 m_7 g2_7 g3_7 g4_7 g6_7 g7_7 hz_7 r_x1_7 hI
      have H := HB_7 x1_7 m_7 r_x1_7 hI
      refine w_st (fun _ => rfl) ?_
      refine g_284_10 rfl ?_
      refine f_int 400 rfl rfl ?_
      refine b_gt rfl (rd_rg _ _ _) (by unfold rg; decide) (fun hq => ?_) (fun hq => ?_)
      · replace H := H.1 hq
        exact f_ret rfl H
      · replace H := H.2 hq
        refine w_st (fun _ => rfl) ?_
        refine w_st (fun _ => rfl) ?_
        refine k_VK (as := [iv x1_7]) rfl mg_178 rfl rfl (by decide) rfl rfl H (fun m19 v19 r_v19 H => ?_)
        refine w_st (ls2 := [some (.ref 284), some (iv x1_7), some (iv v19), g3_7, g4_7, none, g6_7, g7_7]) (fun _ => rfl) ?_
        refine w_st (fun _ => rfl) ?_
        refine w_st (fun _ => rfl) ?_
        refine g_284_4 rfl ?_
        refine b_lt rfl r_x1_7 (rd_rg _ _ _) (fun hq => ?_) (fun hq => ?_)
        · replace H := H.1 hq
          refine w_st (fun _ => rfl) ?_
          refine f_int 9 rfl rfl ?_
          obtain ⟨R_291, H, HJ_291⟩ := H
          have tl_291 : ∀ (y1_291 : Int) (m_291 : Mm) (g3_291 g4_291 g6_291 g7_291 : Option Value), rg y1_291 → R_291 y1_291 m_291 → mm_W d mc_178 291 [some (.ref 284), some (iv y1_291), some (iv v19), g3_291, g4_291, none, g6_291, g7_291] [] (fm m_291) (XV Q) := by
            intro y1_291 m_291 g3_291 g4_291 g6_291 g7_291 r_y1_291 hR
            have H := HJ_291 y1_291 m_291 r_y1_291 hR
            refine w_st (fun _ => rfl) ?_
            exact ih_7 y1_291 m_291 (some (iv v19)) g3_291 g4_291 g6_291 g7_291 (Nat.lt_of_lt_of_le H.2 (Nat.le_of_lt_succ hz_7)) r_y1_291 H.1
          obtain ⟨R_67, H, HJ_67⟩ := H
          have tl_67 : R_67 → mm_W d mc_178 67 [some (.ref 284), some (iv x1_7), some (iv v19), g3_7, g4_7, none, g6_7, g7_7] [] (fm m19) (XV Q) := by
            intro   hR
            have H := HJ_67   hR
            obtain ⟨z1_67, e_z1_67⟩ : ∃ q : Int, q = wr (x1_7 + 1) := ⟨_, rfl⟩
            have r_z1_67 : rg z1_67 := by rw [e_z1_67]; exact wr_rg _
            replace H := H z1_67 e_z1_67
            refine f_iinc (ls2 := [some (.ref 284), some (iv z1_67), some (iv v19), g3_7, g4_7, none, g6_7, g7_7]) 1 rfl rfl rfl e_z1_67 rfl ?_
            refine w_st (fun _ => rfl) ?_
            exact tl_291 z1_67 m19 g3_7 g4_7 g6_7 g7_7 r_z1_67 H
          refine b_eq rfl r_v19 (by unfold rg; decide) (fun hq => ?_) (fun hq => ?_)
          · replace H := H.1 hq
            exact tl_67   H
          · replace H := H.2 hq
            refine w_st (fun _ => rfl) ?_
            refine f_int 10 rfl rfl ?_
            refine b_eq rfl r_v19 (by unfold rg; decide) (fun hq => ?_) (fun hq => ?_)
            · replace H := H.1 hq
              exact tl_67   H
            · replace H := H.2 hq
              refine w_st (fun _ => rfl) ?_
              refine f_int 13 rfl rfl ?_
              refine b_eq rfl r_v19 (by unfold rg; decide) (fun hq => ?_) (fun hq => ?_)
              · replace H := H.1 hq
                exact tl_67   H
              · replace H := H.2 hq
                refine w_st (fun _ => rfl) ?_
                refine f_int 32 rfl rfl ?_
                refine b_ne rfl r_v19 (by unfold rg; decide) (fun hq => ?_) (fun hq => ?_)
                · replace H := H.1 hq
                  refine w_st (fun _ => rfl) ?_
                  refine k_SK (as := [iv v19]) rfl mg_178 rfl rfl rfl H (fun m74 v74 r_v74 H => ?_)
                  refine z_eq rfl r_v74 (fun hq => ?_) (fun hq => ?_)
                  · replace H := H.1 hq
                    refine w_st (fun _ => rfl) ?_
                    refine k_SK (as := [iv v19]) rfl mg_178 rfl rfl rfl H (fun m197 v197 r_v197 H => ?_)
                    refine z_eq rfl r_v197 (fun hq => ?_) (fun hq => ?_)
                    · replace H := H.1 hq
                      refine w_st (fun _ => rfl) ?_
                      refine w_st (fun _ => rfl) ?_
                      refine w_st (fun _ => rfl) ?_
                      refine w_st (fun _ => rfl) ?_
                      refine w_st (fun _ => rfl) ?_
                      refine w_st (fun _ => rfl) ?_
                      refine f_int 1 rfl rfl ?_
                      refine f_add rfl ?_
                      refine k_VK (as := [iv (wr (x1_7 + 1))]) rfl mg_178 rfl rfl (by decide) rfl rfl H (fun m283 v283 r_v283 H => ?_)
                      refine k_VK (as := [iv x1_7, iv v19, iv v283]) rfl mg_178 rfl rfl (by decide) rfl rfl H (fun m286 v286 r_v286 H => ?_)
                      refine f_add rfl ?_
                      obtain ⟨z1_290, e_z1_290⟩ : ∃ q : Int, q = (wr (x1_7 + v286)) := ⟨_, rfl⟩
                      have r_z1_290 : rg z1_290 := by rw [e_z1_290]; exact (wr_rg _)
                      replace H := H z1_290 e_z1_290
                      refine f_nm e_z1_290 ?_
                      refine w_st (ls2 := [some (.ref 284), some (iv z1_290), some (iv v19), g3_7, g4_7, none, g6_7, g7_7]) (fun _ => rfl) ?_
                      exact tl_291 z1_290 m286 g3_7 g4_7 g6_7 g7_7 r_z1_290 H
                    · replace H := H.2 hq
                      refine f_int 0 rfl rfl ?_
                      refine w_st (ls2 := [some (.ref 284), some (iv x1_7), some (iv v19), some (iv 0), g4_7, none, g6_7, g7_7]) (fun _ => rfl) ?_
                      refine f_int 0 rfl rfl ?_
                      refine w_st (ls2 := [some (.ref 284), some (iv x1_7), some (iv v19), some (iv 0), some (iv 0), none, g6_7, g7_7]) (fun _ => rfl) ?_
                      obtain ⟨I_208, mu_208, H0_208, HB_208⟩ := H
                      have lp_208 : ∀ (z : Nat) (x3_208 x4_208 : Int) (m_208 : Mm), mu_208 x3_208 x4_208 m_208 < z → rg x3_208 → rg x4_208 → I_208 x3_208 x4_208 m_208 → mm_W d mc_178 208 [some (.ref 284), some (iv x1_7), some (iv v19), some (iv x3_208), some (iv x4_208), none, g6_7, g7_7] [] (fm m_208) (XV Q) := by
                        intro z
                        induction z with
                        | zero => intro x3_208 x4_208 m_208 hz; exact absurd hz (Nat.not_lt_zero _)
                        | succ z ih_208 =>
                          intro x3_208 x4_208 m_208 hz_208 r_x3_208 r_x4_208 hI
                          have H := HB_208 x3_208 x4_208 m_208 r_x3_208 r_x4_208 hI
                          refine w_st (fun _ => rfl) ?_
                          refine w_st (fun _ => rfl) ?_
                          refine w_st (fun _ => rfl) ?_
                          refine f_add rfl ?_
                          refine k_VK (as := [iv (wr (x1_7 + x3_208))]) rfl mg_178 rfl rfl (by decide) rfl rfl H (fun m212 v212 r_v212 H => ?_)
                          refine k_SK (as := [iv v212]) rfl mg_178 rfl rfl rfl H (fun m215 v215 r_v215 H => ?_)
                          refine z_eq rfl r_v215 (fun hq => ?_) (fun hq => ?_)
                          · replace H := H.1 hq
                            refine w_st (fun _ => rfl) ?_
                            refine w_st (fun _ => rfl) ?_
                            refine f_int 4 rfl rfl ?_
                            obtain ⟨R_261, H, HJ_261⟩ := H
                            have tl_261 : ∀ (s1_261 : Int) , rg s1_261 → R_261 s1_261 → mm_W d mc_178 261 [some (.ref 284), some (iv x1_7), some (iv v19), some (iv x3_208), some (iv x4_208), none, g6_7, g7_7] [iv s1_261, .ref 284] (fm m215) (XV Q) := by
                              intro s1_261 r_s1_261 hR
                              have H := HJ_261 s1_261 r_s1_261 hR
                              refine w_st (fun _ => rfl) ?_
                              refine w_st (fun _ => rfl) ?_
                              refine f_long 0 rfl rfl ?_
                              refine k_VV (as := [iv s1_261, iv x1_7, iv x4_208, lv 0]) rfl mg_178 rfl rfl (by decide) rfl rfl H (fun m265 H => ?_)
                              refine w_st (fun _ => rfl) ?_
                              refine w_st (fun _ => rfl) ?_
                              refine f_add rfl ?_
                              obtain ⟨z1_271, e_z1_271⟩ : ∃ q : Int, q = (wr (x1_7 + x3_208)) := ⟨_, rfl⟩
                              have r_z1_271 : rg z1_271 := by rw [e_z1_271]; exact (wr_rg _)
                              replace H := H z1_271 e_z1_271
                              refine f_nm e_z1_271 ?_
                              refine w_st (ls2 := [some (.ref 284), some (iv z1_271), some (iv v19), some (iv x3_208), some (iv x4_208), none, g6_7, g7_7]) (fun _ => rfl) ?_
                              refine w_st (fun _ => rfl) ?_
                              exact tl_291 z1_271 m265 (some (iv x3_208)) (some (iv x4_208)) g6_7 g7_7 r_z1_271 H
                            refine b_le rfl r_x3_208 (by unfold rg; decide) (fun hq => ?_) (fun hq => ?_)
                            · replace H := H.1 hq
                              refine f_int 2 rfl rfl ?_
                              exact tl_261 2 (by unfold rg; decide) H
                            · replace H := H.2 hq
                              refine f_int 3 rfl rfl ?_
                              refine w_st (fun _ => rfl) ?_
                              exact tl_261 3 (by unfold rg; decide) H
                          · replace H := H.2 hq
                            refine w_st (fun _ => rfl) ?_
                            refine f_int 4 rfl rfl ?_
                            obtain ⟨R_244, H, HJ_244⟩ := H
                            have tl_244 : ∀ (y4_244 : Int) (m_244 : Mm), rg y4_244 → R_244 y4_244 m_244 → mm_W d mc_178 244 [some (.ref 284), some (iv x1_7), some (iv v19), some (iv x3_208), some (iv y4_244), none, g6_7, g7_7] [] (fm m_244) (XV Q) := by
                              intro y4_244 m_244 r_y4_244 hR
                              have H := HJ_244 y4_244 m_244 r_y4_244 hR
                              obtain ⟨z3_244, e_z3_244⟩ : ∃ q : Int, q = wr (x3_208 + 1) := ⟨_, rfl⟩
                              have r_z3_244 : rg z3_244 := by rw [e_z3_244]; exact wr_rg _
                              replace H := H z3_244 e_z3_244
                              refine f_iinc (ls2 := [some (.ref 284), some (iv x1_7), some (iv v19), some (iv z3_244), some (iv y4_244), none, g6_7, g7_7]) 1 rfl rfl rfl e_z3_244 rfl ?_
                              refine w_st (fun _ => rfl) ?_
                              exact ih_208 z3_244 y4_244 m_244 (Nat.lt_of_lt_of_le H.2 (Nat.le_of_lt_succ hz_208)) r_z3_244 r_y4_244 H.1
                            refine b_ge rfl r_x3_208 (by unfold rg; decide) (fun hq => ?_) (fun hq => ?_)
                            · replace H := H.1 hq
                              exact tl_244 x4_208 m215 r_x4_208 H
                            · replace H := H.2 hq
                              refine f_int 10 rfl rfl ?_
                              refine w_st (fun _ => rfl) ?_
                              refine f_mul rfl ?_
                              refine w_st (fun _ => rfl) ?_
                              refine w_st (fun _ => rfl) ?_
                              refine w_st (fun _ => rfl) ?_
                              refine f_add rfl ?_
                              refine k_VK (as := [iv (wr (x1_7 + x3_208))]) rfl mg_178 rfl rfl (by decide) rfl rfl H (fun m235 v235 r_v235 H => ?_)
                              refine f_add rfl ?_
                              refine f_int 48 rfl rfl ?_
                              refine f_sub rfl ?_
                              obtain ⟨z4_242, e_z4_242⟩ : ∃ q : Int, q = (wr ((wr ((wr (10 * x4_208)) + v235)) - 48)) := ⟨_, rfl⟩
                              have r_z4_242 : rg z4_242 := by rw [e_z4_242]; exact (wr_rg _)
                              replace H := H z4_242 e_z4_242
                              refine f_nm e_z4_242 ?_
                              refine w_st (ls2 := [some (.ref 284), some (iv x1_7), some (iv v19), some (iv x3_208), some (iv z4_242), none, g6_7, g7_7]) (fun _ => rfl) ?_
                              exact tl_244 z4_242 m235 r_z4_242 H
                      exact lp_208 _ 0 0 m197 (Nat.lt_succ_self _) (by unfold rg; decide) (by unfold rg; decide) H0_208
                  · replace H := H.2 hq
                    refine f_int 0 rfl rfl ?_
                    refine w_st (ls2 := [some (.ref 284), some (iv x1_7), some (iv v19), some (iv 0), g4_7, none, g6_7, g7_7]) (fun _ => rfl) ?_
                    refine f_long 0 rfl rfl ?_
                    refine w_st (ls2 := [some (.ref 284), some (iv x1_7), some (iv v19), some (iv 0), some (lv 0), none, g6_7, g7_7]) (fun _ => rfl) ?_
                    obtain ⟨I_85, mu_85, H0_85, HB_85⟩ := H
                    have lp_85 : ∀ (z : Nat) (x3_85 x4_85 : Int) (m_85 : Mm), mu_85 x3_85 x4_85 m_85 < z → rg x3_85 → rgl x4_85 → I_85 x3_85 x4_85 m_85 → mm_W d mc_178 85 [some (.ref 284), some (iv x1_7), some (iv v19), some (iv x3_85), some (lv x4_85), none, g6_7, g7_7] [] (fm m_85) (XV Q) := by
                      intro z
                      induction z with
                      | zero => intro x3_85 x4_85 m_85 hz; exact absurd hz (Nat.not_lt_zero _)
                      | succ z ih_85 =>
                        intro x3_85 x4_85 m_85 hz_85 r_x3_85 r_x4_85 hI
                        have H := HB_85 x3_85 x4_85 m_85 r_x3_85 r_x4_85 hI
                        refine w_st (fun _ => rfl) ?_
                        refine w_st (fun _ => rfl) ?_
                        refine w_st (fun _ => rfl) ?_
                        refine f_add rfl ?_
                        refine k_VK (as := [iv (wr (x1_7 + x3_85))]) rfl mg_178 rfl rfl (by decide) rfl rfl H (fun m89 v89 r_v89 H => ?_)
                        refine k_SK (as := [iv v89]) rfl mg_178 rfl rfl rfl H (fun m92 v92 r_v92 H => ?_)
                        refine z_eq rfl r_v92 (fun hq => ?_) (fun hq => ?_)
                        · replace H := H.1 hq
                          refine w_st (fun _ => rfl) ?_
                          refine f_int 8 rfl rfl ?_
                          obtain ⟨R_135, H, HJ_135⟩ := H
                          have tl_135 : ∀ (s0_135 : Int) , rg s0_135 → R_135 s0_135 → mm_W d mc_178 135 [some (.ref 284), some (iv x1_7), some (iv v19), some (iv x3_85), some (lv x4_85), none, g6_7, g7_7] [iv s0_135] (fm m92) (XV Q) := by
                            intro s0_135 r_s0_135 hR
                            have H := HJ_135 s0_135 r_s0_135 hR
                            refine w_st (ls2 := [some (.ref 284), some (iv x1_7), some (iv v19), some (iv x3_85), some (lv x4_85), none, some (iv s0_135), g7_7]) (fun _ => rfl) ?_
                            refine w_st (fun _ => rfl) ?_
                            refine f_int 8 rfl rfl ?_
                            obtain ⟨R_179, H, HJ_179⟩ := H
                            have tl_179 : ∀ (y6_179 : Int)  (g7_179 : Option Value), rg y6_179 → R_179 y6_179 → mm_W d mc_178 179 [some (.ref 284), some (iv x1_7), some (iv v19), some (iv x3_85), some (lv x4_85), none, some (iv y6_179), g7_179] [] (fm m92) (XV Q) := by
                              intro y6_179 g7_179 r_y6_179 hR
                              have H := HJ_179 y6_179 r_y6_179 hR
                              refine w_st (fun _ => rfl) ?_
                              refine w_st (fun _ => rfl) ?_
                              refine w_st (fun _ => rfl) ?_
                              refine f_int 0 rfl rfl ?_
                              refine w_st (fun _ => rfl) ?_
                              refine k_VV (as := [iv y6_179, iv x1_7, iv 0, lv x4_85]) rfl mg_178 rfl rfl (by decide) rfl rfl H (fun m186 H => ?_)
                              refine w_st (fun _ => rfl) ?_
                              refine w_st (fun _ => rfl) ?_
                              refine f_add rfl ?_
                              obtain ⟨z1_192, e_z1_192⟩ : ∃ q : Int, q = (wr (x1_7 + x3_85)) := ⟨_, rfl⟩
                              have r_z1_192 : rg z1_192 := by rw [e_z1_192]; exact (wr_rg _)
                              replace H := H z1_192 e_z1_192
                              refine f_nm e_z1_192 ?_
                              refine w_st (ls2 := [some (.ref 284), some (iv z1_192), some (iv v19), some (iv x3_85), some (lv x4_85), none, some (iv y6_179), g7_179]) (fun _ => rfl) ?_
                              refine w_st (fun _ => rfl) ?_
                              exact tl_291 z1_192 m186 (some (iv x3_85)) (some (lv x4_85)) (some (iv y6_179)) g7_179 r_z1_192 H
                            refine b_gt rfl r_x3_85 (by unfold rg; decide) (fun hq => ?_) (fun hq => ?_)
                            · replace H := H.1 hq
                              exact tl_179 s0_135 g7_7 r_s0_135 H
                            · replace H := H.2 hq
                              refine f_int 0 rfl rfl ?_
                              refine w_st (ls2 := [some (.ref 284), some (iv x1_7), some (iv v19), some (iv x3_85), some (lv x4_85), none, some (iv s0_135), some (iv 0)]) (fun _ => rfl) ?_
                              obtain ⟨I_146, mu_146, H0_146, HB_146⟩ := H
                              have lp_146 : ∀ (z : Nat) (x6_146 x7_146 : Int) , mu_146 x6_146 x7_146 < z → rg x6_146 → rg x7_146 → I_146 x6_146 x7_146 → mm_W d mc_178 146 [some (.ref 284), some (iv x1_7), some (iv v19), some (iv x3_85), some (lv x4_85), none, some (iv x6_146), some (iv x7_146)] [] (fm m92) (XV Q) := by
                                intro z
                                induction z with
                                | zero => intro x6_146 x7_146 hz; exact absurd hz (Nat.not_lt_zero _)
                                | succ z ih_146 =>
                                  intro x6_146 x7_146 hz_146 r_x6_146 r_x7_146 hI
                                  have H := HB_146 x6_146 x7_146 r_x6_146 r_x7_146 hI
                                  refine w_st (fun _ => rfl) ?_
                                  refine f_int 21 rfl rfl ?_
                                  refine b_ge rfl r_x7_146 (by unfold rg; decide) (fun hq => ?_) (fun hq => ?_)
                                  · replace H := H.1 hq
                                    exact tl_179 x6_146 (some (iv x7_146)) r_x6_146 H
                                  · replace H := H.2 hq
                                    refine w_st (fun _ => rfl) ?_
                                    refine g_284_9 rfl ?_
                                    refine w_st (fun _ => rfl) ?_
                                    refine f_ldl (n := 21) (by decide) rfl (by decide) rfl H.1 ?_
                                    replace H := H.2
                                    refine w_st (fun _ => rfl) ?_
                                    refine f_lcmp rfl (ld_rg _ _ _) r_x4_85 ?_
                                    obtain ⟨R_173, H, HJ_173⟩ := H
                                    have tl_173 : ∀ (y6_173 : Int) , rg y6_173 → R_173 y6_173 → mm_W d mc_178 173 [some (.ref 284), some (iv x1_7), some (iv v19), some (iv x3_85), some (lv x4_85), none, some (iv y6_173), some (iv x7_146)] [] (fm m92) (XV Q) := by
                                      intro y6_173 r_y6_173 hR
                                      have H := HJ_173 y6_173 r_y6_173 hR
                                      obtain ⟨z7_173, e_z7_173⟩ : ∃ q : Int, q = wr (x7_146 + 1) := ⟨_, rfl⟩
                                      have r_z7_173 : rg z7_173 := by rw [e_z7_173]; exact wr_rg _
                                      replace H := H z7_173 e_z7_173
                                      refine f_iinc (ls2 := [some (.ref 284), some (iv x1_7), some (iv v19), some (iv x3_85), some (lv x4_85), none, some (iv y6_173), some (iv z7_173)]) 1 rfl rfl rfl e_z7_173 rfl ?_
                                      refine w_st (fun _ => rfl) ?_
                                      exact ih_146 y6_173 z7_173 (Nat.lt_of_lt_of_le H.2 (Nat.le_of_lt_succ hz_146)) r_y6_173 r_z7_173 H.1
                                    refine z_ne rfl (lcm2_rg _ _) (fun hq => ?_) (fun hq => ?_)
                                    · replace H := H.1 hq
                                      exact tl_173 x6_146 r_x6_146 H
                                    · replace H := H.2 hq
                                      refine f_int 20 rfl rfl ?_
                                      refine w_st (fun _ => rfl) ?_
                                      refine f_add rfl ?_
                                      obtain ⟨z6_171, e_z6_171⟩ : ∃ q : Int, q = (wr (20 + x7_146)) := ⟨_, rfl⟩
                                      have r_z6_171 : rg z6_171 := by rw [e_z6_171]; exact (wr_rg _)
                                      replace H := H z6_171 e_z6_171
                                      refine f_nm e_z6_171 ?_
                                      refine w_st (ls2 := [some (.ref 284), some (iv x1_7), some (iv v19), some (iv x3_85), some (lv x4_85), none, some (iv z6_171), some (iv x7_146)]) (fun _ => rfl) ?_
                                      exact tl_173 z6_171 r_z6_171 H
                              exact lp_146 _ s0_135 0 (Nat.lt_succ_self _) r_s0_135 (by unfold rg; decide) H0_146
                          refine b_le rfl r_x3_85 (by unfold rg; decide) (fun hq => ?_) (fun hq => ?_)
                          · replace H := H.1 hq
                            refine f_int 1 rfl rfl ?_
                            exact tl_135 1 (by unfold rg; decide) H
                          · replace H := H.2 hq
                            refine f_int 3 rfl rfl ?_
                            refine w_st (fun _ => rfl) ?_
                            exact tl_135 3 (by unfold rg; decide) H
                        · replace H := H.2 hq
                          refine w_st (fun _ => rfl) ?_
                          refine f_int 8 rfl rfl ?_
                          obtain ⟨R_118, H, HJ_118⟩ := H
                          have tl_118 : ∀ (y4_118 : Int) (m_118 : Mm), rgl y4_118 → R_118 y4_118 m_118 → mm_W d mc_178 118 [some (.ref 284), some (iv x1_7), some (iv v19), some (iv x3_85), some (lv y4_118), none, g6_7, g7_7] [] (fm m_118) (XV Q) := by
                            intro y4_118 m_118 r_y4_118 hR
                            have H := HJ_118 y4_118 m_118 r_y4_118 hR
                            obtain ⟨z3_118, e_z3_118⟩ : ∃ q : Int, q = wr (x3_85 + 1) := ⟨_, rfl⟩
                            have r_z3_118 : rg z3_118 := by rw [e_z3_118]; exact wr_rg _
                            replace H := H z3_118 e_z3_118
                            refine f_iinc (ls2 := [some (.ref 284), some (iv x1_7), some (iv v19), some (iv z3_118), some (lv y4_118), none, g6_7, g7_7]) 1 rfl rfl rfl e_z3_118 rfl ?_
                            refine w_st (fun _ => rfl) ?_
                            exact ih_85 z3_118 y4_118 m_118 (Nat.lt_of_lt_of_le H.2 (Nat.le_of_lt_succ hz_85)) r_z3_118 r_y4_118 H.1
                          refine b_ge rfl r_x3_85 (by unfold rg; decide) (fun hq => ?_) (fun hq => ?_)
                          · replace H := H.1 hq
                            exact tl_118 x4_85 m92 r_x4_85 H
                          · replace H := H.2 hq
                            refine w_st (fun _ => rfl) ?_
                            refine w_st (fun _ => rfl) ?_
                            refine w_st (fun _ => rfl) ?_
                            refine w_st (fun _ => rfl) ?_
                            refine f_add rfl ?_
                            refine k_VK (as := [iv (wr (x1_7 + x3_85))]) rfl mg_178 rfl rfl (by decide) rfl rfl H (fun m110 v110 r_v110 H => ?_)
                            refine k_SL (as := [lv x4_85, iv v110]) rfl mg_178 rfl rfl rfl H (fun m113 v113 r_v113 H => ?_)
                            refine w_st (ls2 := [some (.ref 284), some (iv x1_7), some (iv v19), some (iv x3_85), some (lv v113), none, g6_7, g7_7]) (fun _ => rfl) ?_
                            exact tl_118 v113 m113 r_v113 H
                    exact lp_85 _ 0 0 m74 (Nat.lt_succ_self _) (by unfold rg; decide) (by unfold rgl; decide) H0_85
                · replace H := H.2 hq
                  exact tl_67   H
        · replace H := H.2 hq
          refine w_st (fun _ => rfl) ?_
          refine f_int 0 rfl rfl ?_
          refine w_st (fun _ => rfl) ?_
          refine g_284_4 rfl ?_
          refine f_int 0 rfl rfl ?_
          refine f_long 0 rfl rfl ?_
          refine k_VV (as := [iv 0, iv (rd m19 284 4), iv 0, lv 0]) rfl mg_178 rfl rfl (by decide) rfl rfl H (fun m39 H => ?_)
          exact f_ret rfl H
  exact lp_7 _ 0 m2 none none none none none (Nat.lt_succ_self _) (by unfold rg; decide) H0_7
/-- TippedCratesModel.sign(III)I -/
def P_179 (d : Nat) (m : Mm) (x1 : Int) (x2 : Int) (x3 : Int) (Q : Mm → Int → Prop) : Prop :=
  (∃ R_43 : Int → Prop,
    ((¬ x2 = 59 → ((¬ x2 = 61 → ((¬ x2 = 40 → ((¬ x2 = 41 → R_43 3) ∧
          (x2 = 41 → R_43 7))) ∧
        (x2 = 40 → R_43 6))) ∧
      (x2 = 61 → R_43 5))) ∧
    (x2 = 59 → R_43 4)) ∧
    (∀ (s0_43 : Int) , rg s0_43 → R_43 s0_43 →
    (∃ R_55 : Int → Prop,
      ((¬ x2 = 43 → R_55 s0_43) ∧
      (x2 = 43 → R_55 8)) ∧
      (∀ (y4_55 : Int) , rg y4_55 → R_55 y4_55 →
      (∃ R_65 : Int → Prop,
        ((¬ x2 = 45 → R_65 y4_55) ∧
        (x2 = 45 → R_65 9)) ∧
        (∀ (y4_65 : Int) , rg y4_65 → R_65 y4_65 →
        (∃ R_75 : Int → Prop,
          ((¬ x2 = 42 → R_75 y4_65) ∧
          (x2 = 42 → R_75 10)) ∧
          (∀ (y4_75 : Int) , rg y4_75 → R_75 y4_75 →
          (∃ R_85 : Int → Prop,
            ((¬ x2 = 47 → R_85 y4_75) ∧
            (x2 = 47 → R_85 15)) ∧
            (∀ (y4_85 : Int) , rg y4_85 → R_85 y4_85 →
            (∃ R_95 : Int → Prop,
              ((¬ x2 = 60 → R_95 y4_85) ∧
              (x2 = 60 → R_95 13)) ∧
              (∀ (y4_95 : Int) , rg y4_95 → R_95 y4_95 →
              CV d 177 [.ref 284, iv y4_95, iv x1, iv 0, lv 0] m (fun m101 =>
                Q m101 1)))))))))))))
set_option maxRecDepth 20000 in
theorem br_179 {d : Nat} {m : Mm} {x1 : Int} {x2 : Int} {x3 : Int} {Q : Mm → Int → Prop} (r_x1 : rg x1) (r_x2 : rg x2) (r_x3 : rg x3) (H : P_179 d m x1 x2 x3 Q) : CK (d + 1) 179 [.ref 284, iv x1, iv x2, iv x3] m Q := by
  unfold P_179 at H
  refine CK_of rfl ?_
  show mm_W d mc_179 0 [some (.ref 284), some (iv x1), some (iv x2), some (iv x3), none] [] (fm m) (XK Q)
  refine w_st (fun _ => rfl) ?_
  refine f_int 59 rfl rfl ?_
  obtain ⟨R_43, H, HJ_43⟩ := H
  have tl_43 : ∀ (s0_43 : Int) , rg s0_43 → R_43 s0_43 → mm_W d mc_179 43 [some (.ref 284), some (iv x1), some (iv x2), some (iv x3), none] [iv s0_43] (fm m) (XK Q) := by
    intro s0_43 r_s0_43 hR
    have H := HJ_43 s0_43 r_s0_43 hR
    refine w_st (ls2 := [some (.ref 284), some (iv x1), some (iv x2), some (iv x3), some (iv s0_43)]) (fun _ => rfl) ?_
    refine w_st (fun _ => rfl) ?_
    refine f_int 43 rfl rfl ?_
    obtain ⟨R_55, H, HJ_55⟩ := H
    have tl_55 : ∀ (y4_55 : Int) , rg y4_55 → R_55 y4_55 → mm_W d mc_179 55 [some (.ref 284), some (iv x1), some (iv x2), some (iv x3), some (iv y4_55)] [] (fm m) (XK Q) := by
      intro y4_55 r_y4_55 hR
      have H := HJ_55 y4_55 r_y4_55 hR
      refine w_st (fun _ => rfl) ?_
      refine f_int 45 rfl rfl ?_
      obtain ⟨R_65, H, HJ_65⟩ := H
      have tl_65 : ∀ (y4_65 : Int) , rg y4_65 → R_65 y4_65 → mm_W d mc_179 65 [some (.ref 284), some (iv x1), some (iv x2), some (iv x3), some (iv y4_65)] [] (fm m) (XK Q) := by
        intro y4_65 r_y4_65 hR
        have H := HJ_65 y4_65 r_y4_65 hR
        refine w_st (fun _ => rfl) ?_
        refine f_int 42 rfl rfl ?_
        obtain ⟨R_75, H, HJ_75⟩ := H
        have tl_75 : ∀ (y4_75 : Int) , rg y4_75 → R_75 y4_75 → mm_W d mc_179 75 [some (.ref 284), some (iv x1), some (iv x2), some (iv x3), some (iv y4_75)] [] (fm m) (XK Q) := by
          intro y4_75 r_y4_75 hR
          have H := HJ_75 y4_75 r_y4_75 hR
          refine w_st (fun _ => rfl) ?_
          refine f_int 47 rfl rfl ?_
          obtain ⟨R_85, H, HJ_85⟩ := H
          have tl_85 : ∀ (y4_85 : Int) , rg y4_85 → R_85 y4_85 → mm_W d mc_179 85 [some (.ref 284), some (iv x1), some (iv x2), some (iv x3), some (iv y4_85)] [] (fm m) (XK Q) := by
            intro y4_85 r_y4_85 hR
            have H := HJ_85 y4_85 r_y4_85 hR
            refine w_st (fun _ => rfl) ?_
            refine f_int 60 rfl rfl ?_
            obtain ⟨R_95, H, HJ_95⟩ := H
            have tl_95 : ∀ (y4_95 : Int) , rg y4_95 → R_95 y4_95 → mm_W d mc_179 95 [some (.ref 284), some (iv x1), some (iv x2), some (iv x3), some (iv y4_95)] [] (fm m) (XK Q) := by
              intro y4_95 r_y4_95 hR
              have H := HJ_95 y4_95 r_y4_95 hR
              refine w_st (fun _ => rfl) ?_
              refine w_st (fun _ => rfl) ?_
              refine w_st (fun _ => rfl) ?_
              refine f_int 0 rfl rfl ?_
              refine f_long 0 rfl rfl ?_
              refine k_VV (as := [iv y4_95, iv x1, iv 0, lv 0]) rfl mg_179 rfl rfl (by decide) rfl rfl H (fun m101 H => ?_)
              refine f_int 1 rfl rfl ?_
              exact f_iret rfl (by unfold rg; decide) H
            refine b_ne rfl r_x2 (by unfold rg; decide) (fun hq => ?_) (fun hq => ?_)
            · replace H := H.1 hq
              exact tl_95 y4_85 r_y4_85 H
            · replace H := H.2 hq
              refine f_int 13 rfl rfl ?_
              refine w_st (ls2 := [some (.ref 284), some (iv x1), some (iv x2), some (iv x3), some (iv 13)]) (fun _ => rfl) ?_
              exact tl_95 13 (by unfold rg; decide) H
          refine b_ne rfl r_x2 (by unfold rg; decide) (fun hq => ?_) (fun hq => ?_)
          · replace H := H.1 hq
            exact tl_85 y4_75 r_y4_75 H
          · replace H := H.2 hq
            refine f_int 15 rfl rfl ?_
            refine w_st (ls2 := [some (.ref 284), some (iv x1), some (iv x2), some (iv x3), some (iv 15)]) (fun _ => rfl) ?_
            exact tl_85 15 (by unfold rg; decide) H
        refine b_ne rfl r_x2 (by unfold rg; decide) (fun hq => ?_) (fun hq => ?_)
        · replace H := H.1 hq
          exact tl_75 y4_65 r_y4_65 H
        · replace H := H.2 hq
          refine f_int 10 rfl rfl ?_
          refine w_st (ls2 := [some (.ref 284), some (iv x1), some (iv x2), some (iv x3), some (iv 10)]) (fun _ => rfl) ?_
          exact tl_75 10 (by unfold rg; decide) H
      refine b_ne rfl r_x2 (by unfold rg; decide) (fun hq => ?_) (fun hq => ?_)
      · replace H := H.1 hq
        exact tl_65 y4_55 r_y4_55 H
      · replace H := H.2 hq
        refine f_int 9 rfl rfl ?_
        refine w_st (ls2 := [some (.ref 284), some (iv x1), some (iv x2), some (iv x3), some (iv 9)]) (fun _ => rfl) ?_
        exact tl_65 9 (by unfold rg; decide) H
    refine b_ne rfl r_x2 (by unfold rg; decide) (fun hq => ?_) (fun hq => ?_)
    · replace H := H.1 hq
      exact tl_55 s0_43 r_s0_43 H
    · replace H := H.2 hq
      refine f_int 8 rfl rfl ?_
      refine w_st (ls2 := [some (.ref 284), some (iv x1), some (iv x2), some (iv x3), some (iv 8)]) (fun _ => rfl) ?_
      exact tl_55 8 (by unfold rg; decide) H
  refine b_ne rfl r_x2 (by unfold rg; decide) (fun hq => ?_) (fun hq => ?_)
  · replace H := H.1 hq
    refine w_st (fun _ => rfl) ?_
    refine f_int 61 rfl rfl ?_
    refine b_ne rfl r_x2 (by unfold rg; decide) (fun hq => ?_) (fun hq => ?_)
    · replace H := H.1 hq
      refine w_st (fun _ => rfl) ?_
      refine f_int 40 rfl rfl ?_
      refine b_ne rfl r_x2 (by unfold rg; decide) (fun hq => ?_) (fun hq => ?_)
      · replace H := H.1 hq
        refine w_st (fun _ => rfl) ?_
        refine f_int 41 rfl rfl ?_
        refine b_ne rfl r_x2 (by unfold rg; decide) (fun hq => ?_) (fun hq => ?_)
        · replace H := H.1 hq
          refine f_int 3 rfl rfl ?_
          exact tl_43 3 (by unfold rg; decide) H
        · replace H := H.2 hq
          refine f_int 7 rfl rfl ?_
          refine w_st (fun _ => rfl) ?_
          exact tl_43 7 (by unfold rg; decide) H
      · replace H := H.2 hq
        refine f_int 6 rfl rfl ?_
        refine w_st (fun _ => rfl) ?_
        exact tl_43 6 (by unfold rg; decide) H
    · replace H := H.2 hq
      refine f_int 5 rfl rfl ?_
      refine w_st (fun _ => rfl) ?_
      exact tl_43 5 (by unfold rg; decide) H
  · replace H := H.2 hq
    refine f_int 4 rfl rfl ?_
    refine w_st (fun _ => rfl) ?_
    exact tl_43 4 (by unfold rg; decide) H
/-- TippedCratesModel.is(I)Z -/
def P_180 (d : Nat) (m : Mm) (x1 : Int) (Q : Mm → Int → Prop) : Prop :=
  (∃ R_25 : Int → Prop,
    (∃ R_24 : Prop,
    ((¬ (rd m 284 13) = 0 → R_24) ∧
    ((rd m 284 13) = 0 → (((0 : Int) ≤ (rd m 284 11) ∧ (rd m 284 11) < 403) ∧ ((¬ (rd m 287 (Int.toNat (rd m 284 11))) = x1 → R_24) ∧
      ((rd m 287 (Int.toNat (rd m 284 11))) = x1 → R_25 1))))) ∧
    (R_24 →
    R_25 0)) ∧
    (∀ (s0_25 : Int) , rg s0_25 → R_25 s0_25 →
    ((s0_25 = 0 ∨ s0_25 = 1) ∧ Q m s0_25)))
set_option maxRecDepth 20000 in
theorem br_180 {d : Nat} {m : Mm} {x1 : Int} {Q : Mm → Int → Prop} (r_x1 : rg x1) (H : P_180 d m x1 Q) : CK (d + 1) 180 [.ref 284, iv x1] m Q := by
  unfold P_180 at H
  refine CK_of rfl ?_
  show mm_W d mc_180 0 [some (.ref 284), some (iv x1)] [] (fm m) (XK Q)
  refine w_st (fun _ => rfl) ?_
  refine g_284_13 rfl ?_
  obtain ⟨R_25, H, HJ_25⟩ := H
  have tl_25 : ∀ (s0_25 : Int) , rg s0_25 → R_25 s0_25 → mm_W d mc_180 25 [some (.ref 284), some (iv x1)] [iv s0_25] (fm m) (XK Q) := by
    intro s0_25 r_s0_25 hR
    have H := HJ_25 s0_25 r_s0_25 hR
    exact f_zret rfl r_s0_25 H.1 H.2
  obtain ⟨R_24, H, HJ_24⟩ := H
  have tl_24 : R_24 → mm_W d mc_180 24 [some (.ref 284), some (iv x1)] [] (fm m) (XK Q) := by
    intro   hR
    have H := HJ_24   hR
    refine f_int 0 rfl rfl ?_
    exact tl_25 0 (by unfold rg; decide) H
  refine z_ne rfl (rd_rg _ _ _) (fun hq => ?_) (fun hq => ?_)
  · replace H := H.1 hq
    exact tl_24   H
  · replace H := H.2 hq
    refine w_st (fun _ => rfl) ?_
    refine g_284_5 rfl ?_
    refine w_st (fun _ => rfl) ?_
    refine g_284_11 rfl ?_
    refine f_ld ir_287 rfl H.1 ?_
    replace H := H.2
    refine w_st (fun _ => rfl) ?_
    refine b_ne rfl (rd_rg _ _ _) r_x1 (fun hq => ?_) (fun hq => ?_)
    · replace H := H.1 hq
      exact tl_24   H
    · replace H := H.2 hq
      refine f_int 1 rfl rfl ?_
      refine w_st (fun _ => rfl) ?_
      exact tl_25 1 (by unfold rg; decide) H
/-- TippedCratesModel.fail(I)V -/
def P_181 (d : Nat) (m : Mm) (x1 : Int) (Q : Mm → Prop) : Prop :=
  (((rd m 284 13) ≤ 0 → (∀ m10 : Mm, m10 = wt m 284 13 x1 → (((0 : Int) ≤ (rd m10 284 11) ∧ (rd m10 284 11) < 403) ∧ (∀ m23 : Mm, m23 = wt m10 284 14 (rd m10 288 (Int.toNat (rd m10 284 11))) → Q m23)))) ∧
    (¬ (rd m 284 13) ≤ 0 → Q m))
set_option maxRecDepth 20000 in
theorem br_181 {d : Nat} {m : Mm} {x1 : Int} {Q : Mm → Prop} (r_x1 : rg x1) (H : P_181 d m x1 Q) : CV (d + 1) 181 [.ref 284, iv x1] m Q := by
  unfold P_181 at H
  refine CV_of rfl ?_
  show mm_W d mc_181 0 [some (.ref 284), some (iv x1)] [] (fm m) (XV Q)
  refine w_st (fun _ => rfl) ?_
  refine g_284_13 rfl ?_
  refine z_le rfl (rd_rg _ _ _) (fun hq => ?_) (fun hq => ?_)
  · replace H := H.1 hq
    refine w_st (fun _ => rfl) ?_
    refine w_st (fun _ => rfl) ?_
    obtain ⟨m10, e_m10⟩ : ∃ q : Mm, q = wt m 284 13 x1 := ⟨_, rfl⟩
    replace H := H m10 e_m10
    refine p_284_13 rfl e_m10 ?_
    refine w_st (fun _ => rfl) ?_
    refine w_st (fun _ => rfl) ?_
    refine g_284_6 rfl ?_
    refine w_st (fun _ => rfl) ?_
    refine g_284_11 rfl ?_
    refine f_ld ir_288 rfl H.1 ?_
    replace H := H.2
    obtain ⟨m23, e_m23⟩ : ∃ q : Mm, q = wt m10 284 14 (rd m10 288 (Int.toNat (rd m10 284 11))) := ⟨_, rfl⟩
    replace H := H m23 e_m23
    refine p_284_14 rfl e_m23 ?_
    exact f_ret rfl H
  · replace H := H.2 hq
    exact f_ret rfl H
/-- TippedCratesModel.wrong(II)V -/
def P_182 (d : Nat) (m : Mm) (x1 : Int) (x2 : Int) (Q : Mm → Prop) : Prop :=
  (((0 : Int) ≤ x2 ∧ x2 < 403) ∧ (∀ z3_6 : Int, z3_6 = (rd m 288 (Int.toNat x2)) → (∃ R_45 : Prop,
    ((0 < (rd m 284 13) → R_45) ∧
    (¬ 0 < (rd m 284 13) → (∃ R_46 : Prop,
      (((rd m 284 15) = 0 → R_46) ∧
      (¬ (rd m 284 15) = 0 → (((rd m 284 16) < z3_6 → R_45) ∧
        (¬ (rd m 284 16) < z3_6 → ((¬ z3_6 = (rd m 284 16) → R_46) ∧
          (z3_6 = (rd m 284 16) → ((x1 < (rd m 284 15) → R_46) ∧
            (¬ x1 < (rd m 284 15) → R_45)))))))) ∧
      (R_46 →
      (∀ m48 : Mm, m48 = wt m 284 15 x1 → (∀ m53 : Mm, m53 = wt m48 284 16 z3_6 → Q m53)))))) ∧
    (R_45 →
    Q m))))
set_option maxRecDepth 20000 in
theorem br_182 {d : Nat} {m : Mm} {x1 : Int} {x2 : Int} {Q : Mm → Prop} (r_x1 : rg x1) (r_x2 : rg x2) (H : P_182 d m x1 x2 Q) : CV (d + 1) 182 [.ref 284, iv x1, iv x2] m Q := by
  unfold P_182 at H
  refine CV_of rfl ?_
  show mm_W d mc_182 0 [some (.ref 284), some (iv x1), some (iv x2), none] [] (fm m) (XV Q)
  refine w_st (fun _ => rfl) ?_
  refine g_284_6 rfl ?_
  refine w_st (fun _ => rfl) ?_
  refine f_ld ir_288 rfl H.1 ?_
  replace H := H.2
  obtain ⟨z3_6, e_z3_6⟩ : ∃ q : Int, q = (rd m 288 (Int.toNat x2)) := ⟨_, rfl⟩
  have r_z3_6 : rg z3_6 := by rw [e_z3_6]; exact (rd_rg _ _ _)
  replace H := H z3_6 e_z3_6
  refine f_nm e_z3_6 ?_
  refine w_st (ls2 := [some (.ref 284), some (iv x1), some (iv x2), some (iv z3_6)]) (fun _ => rfl) ?_
  refine w_st (fun _ => rfl) ?_
  refine g_284_13 rfl ?_
  obtain ⟨R_45, H, HJ_45⟩ := H
  have tl_45 : R_45 → mm_W d mc_182 45 [some (.ref 284), some (iv x1), some (iv x2), some (iv z3_6)] [] (fm m) (XV Q) := by
    intro   hR
    have H := HJ_45   hR
    exact f_ret rfl H
  refine z_gt rfl (rd_rg _ _ _) (fun hq => ?_) (fun hq => ?_)
  · replace H := H.1 hq
    exact tl_45   H
  · replace H := H.2 hq
    refine w_st (fun _ => rfl) ?_
    refine g_284_15 rfl ?_
    obtain ⟨R_46, H, HJ_46⟩ := H
    have tl_46 : R_46 → mm_W d mc_182 46 [some (.ref 284), some (iv x1), some (iv x2), some (iv z3_6)] [] (fm m) (XV Q) := by
      intro   hR
      have H := HJ_46   hR
      refine w_st (fun _ => rfl) ?_
      refine w_st (fun _ => rfl) ?_
      obtain ⟨m48, e_m48⟩ : ∃ q : Mm, q = wt m 284 15 x1 := ⟨_, rfl⟩
      replace H := H m48 e_m48
      refine p_284_15 rfl e_m48 ?_
      refine w_st (fun _ => rfl) ?_
      refine w_st (fun _ => rfl) ?_
      obtain ⟨m53, e_m53⟩ : ∃ q : Mm, q = wt m48 284 16 z3_6 := ⟨_, rfl⟩
      replace H := H m53 e_m53
      refine p_284_16 rfl e_m53 ?_
      exact f_ret rfl H
    refine z_eq rfl (rd_rg _ _ _) (fun hq => ?_) (fun hq => ?_)
    · replace H := H.1 hq
      exact tl_46   H
    · replace H := H.2 hq
      refine w_st (fun _ => rfl) ?_
      refine w_st (fun _ => rfl) ?_
      refine g_284_16 rfl ?_
      refine b_gt rfl r_z3_6 (rd_rg _ _ _) (fun hq => ?_) (fun hq => ?_)
      · replace H := H.1 hq
        exact tl_45   H
      · replace H := H.2 hq
        refine w_st (fun _ => rfl) ?_
        refine w_st (fun _ => rfl) ?_
        refine g_284_16 rfl ?_
        refine b_ne rfl r_z3_6 (rd_rg _ _ _) (fun hq => ?_) (fun hq => ?_)
        · replace H := H.1 hq
          exact tl_46   H
        · replace H := H.2 hq
          refine w_st (fun _ => rfl) ?_
          refine w_st (fun _ => rfl) ?_
          refine g_284_15 rfl ?_
          refine b_lt rfl r_x1 (rd_rg _ _ _) (fun hq => ?_) (fun hq => ?_)
          · replace H := H.1 hq
            exact tl_46   H
          · replace H := H.2 hq
            exact tl_45   H
/-- TippedCratesModel.goesOn()V -/
def P_183 (d : Nat) (m : Mm)  (Q : Mm → Prop) : Prop :=
  (∃ R_28 : Mm → Prop,
    ((¬ (rd m 284 11) = 400 → (∀ m25 : Mm, m25 = wt m 284 11 (wr ((rd m 284 11) + 1)) → R_28 m25)) ∧
    ((rd m 284 11) = 400 → CV d 181 [.ref 284, iv 2] m (fun m12 =>
      R_28 m12))) ∧
    (∀ (m_28 : Mm), R_28 m_28 →
    Q m_28))
set_option maxRecDepth 20000 in
theorem br_183 {d : Nat} {m : Mm}  {Q : Mm → Prop}  (H : P_183 d m  Q) : CV (d + 1) 183 [.ref 284] m Q := by
  unfold P_183 at H
  refine CV_of rfl ?_
  show mm_W d mc_183 0 [some (.ref 284)] [] (fm m) (XV Q)
  refine w_st (fun _ => rfl) ?_
  refine g_284_11 rfl ?_
  refine f_int 400 rfl rfl ?_
  obtain ⟨R_28, H, HJ_28⟩ := H
  have tl_28 : ∀ (m_28 : Mm), R_28 m_28 → mm_W d mc_183 28 [some (.ref 284)] [] (fm m_28) (XV Q) := by
    intro m_28  hR
    have H := HJ_28 m_28  hR
    exact f_ret rfl H
  refine b_ne rfl (rd_rg _ _ _) (by unfold rg; decide) (fun hq => ?_) (fun hq => ?_)
  · replace H := H.1 hq
    refine w_st (fun _ => rfl) ?_
    refine w_st (fun _ => rfl) ?_
    refine g_284_11 rfl ?_
    refine f_int 1 rfl rfl ?_
    refine f_add rfl ?_
    obtain ⟨m25, e_m25⟩ : ∃ q : Mm, q = wt m 284 11 (wr ((rd m 284 11) + 1)) := ⟨_, rfl⟩
    replace H := H m25 e_m25
    refine p_284_11 rfl e_m25 ?_
    exact tl_28 m25  H
  · replace H := H.2 hq
    refine w_st (fun _ => rfl) ?_
    refine f_int 2 rfl rfl ?_
    refine k_VV (as := [iv 2]) rfl mg_183 rfl rfl (by decide) rfl rfl H (fun m12 H => ?_)
    refine w_st (fun _ => rfl) ?_
    exact tl_28 m12  H
/-- TippedCratesModel.must(I)V -/
def P_184 (d : Nat) (m : Mm) (x1 : Int) (Q : Mm → Prop) : Prop :=
  CK d 180 [.ref 284, iv x1] m (fun m2 v2 =>
    (∃ R_20 : Mm → Prop,
    ((v2 = 0 → CV d 181 [.ref 284, iv 1] m2 (fun m17 =>
      R_20 m17)) ∧
    (¬ v2 = 0 → CV d 183 [.ref 284] m2 (fun m9 =>
      R_20 m9))) ∧
    (∀ (m_20 : Mm), R_20 m_20 →
    Q m_20)))
set_option maxRecDepth 20000 in
theorem br_184 {d : Nat} {m : Mm} {x1 : Int} {Q : Mm → Prop} (r_x1 : rg x1) (H : P_184 d m x1 Q) : CV (d + 1) 184 [.ref 284, iv x1] m Q := by
  unfold P_184 at H
  refine CV_of rfl ?_
  show mm_W d mc_184 0 [some (.ref 284), some (iv x1)] [] (fm m) (XV Q)
  refine w_st (fun _ => rfl) ?_
  refine w_st (fun _ => rfl) ?_
  refine k_VK (as := [iv x1]) rfl mg_184 rfl rfl (by decide) rfl rfl H (fun m2 v2 r_v2 H => ?_)
  obtain ⟨R_20, H, HJ_20⟩ := H
  have tl_20 : ∀ (m_20 : Mm), R_20 m_20 → mm_W d mc_184 20 [some (.ref 284), some (iv x1)] [] (fm m_20) (XV Q) := by
    intro m_20  hR
    have H := HJ_20 m_20  hR
    exact f_ret rfl H
  refine z_eq rfl r_v2 (fun hq => ?_) (fun hq => ?_)
  · replace H := H.1 hq
    refine w_st (fun _ => rfl) ?_
    refine f_int 1 rfl rfl ?_
    refine k_VV (as := [iv 1]) rfl mg_184 rfl rfl (by decide) rfl rfl H (fun m17 H => ?_)
    exact tl_20 m17  H
  · replace H := H.2 hq
    refine w_st (fun _ => rfl) ?_
    refine k_VV (as := []) rfl mg_184 rfl rfl (by decide) rfl rfl H (fun m9 H => ?_)
    refine w_st (fun _ => rfl) ?_
    exact tl_20 m9  H
/-- TippedCratesModel.plain(I)V -/
def P_185 (d : Nat) (m : Mm) (x1 : Int) (Q : Mm → Prop) : Prop :=
  (((0 : Int) ≤ x1 ∧ x1 < 2) ∧ (∀ m6 : Mm, m6 = wt m 293 (Int.toNat x1) 4 → (((0 : Int) ≤ x1 ∧ x1 < 2) ∧ (∀ m13 : Mm, m13 = wt m6 294 (Int.toNat x1) 4 → (((0 : Int) ≤ x1 ∧ x1 < 2) ∧ (∀ m20 : Mm, m20 = wt m13 295 (Int.toNat x1) 0 → (((0 : Int) ≤ x1 ∧ x1 < 2) ∧ (∀ m27 : Mm, m27 = wt m20 298 (Int.toNat x1) 0 → (((0 : Int) ≤ x1 ∧ x1 < 2) ∧ (∀ m34 : Mm, m34 = wt m27 302 (Int.toNat x1) 0 → (((0 : Int) ≤ x1 ∧ x1 < 2) ∧ (∀ m41 : Mm, m41 = wt m34 306 (Int.toNat x1) 0 → (∃ (I_44 : Int → Mm → Prop) (mu_44 : Int → Mm → Nat), I_44 0 m41 ∧
    ∀ (x2_44 : Int) (m_44 : Mm), rg x2_44 → I_44 x2_44 m_44 →
    ((4 ≤ x2_44 → Q m_44) ∧
        (¬ 4 ≤ x2_44 → (((0 : Int) ≤ (wr ((wr (4 * x1)) + x2_44)) ∧ (wr ((wr (4 * x1)) + x2_44)) < 8) ∧ (∀ m59 : Mm, m59 = wt m_44 307 (Int.toNat (wr ((wr (4 * x1)) + x2_44))) 0 → (((0 : Int) ≤ (wr ((wr (4 * x1)) + x2_44)) ∧ (wr ((wr (4 * x1)) + x2_44)) < 8) ∧ (∀ m70 : Mm, m70 = wt m59 308 (Int.toNat (wr ((wr (4 * x1)) + x2_44))) 0 → (∀ z2_71 : Int, z2_71 = wr (x2_44 + 1) → (I_44 z2_71 m70 ∧ mu_44 z2_71 m70 < mu_44 x2_44 m_44)))))))))))))))))))))
set_option maxRecDepth 20000 in
theorem br_185 {d : Nat} {m : Mm} {x1 : Int} {Q : Mm → Prop} (r_x1 : rg x1) (H : P_185 d m x1 Q) : CV (d + 1) 185 [.ref 284, iv x1] m Q := by
  unfold P_185 at H
  refine CV_of rfl ?_
  show mm_W d mc_185 0 [some (.ref 284), some (iv x1), none] [] (fm m) (XV Q)
  refine w_st (fun _ => rfl) ?_
  refine g_284_22 rfl ?_
  refine w_st (fun _ => rfl) ?_
  refine f_int 4 rfl rfl ?_
  obtain ⟨m6, e_m6⟩ : ∃ q : Mm, q = wt m 293 (Int.toNat x1) 4 := ⟨_, rfl⟩
  refine f_st ir_293 rfl H.1 e_m6 ?_
  replace H := H.2 m6 e_m6
  refine w_st (fun _ => rfl) ?_
  refine g_284_23 rfl ?_
  refine w_st (fun _ => rfl) ?_
  refine f_int 4 rfl rfl ?_
  obtain ⟨m13, e_m13⟩ : ∃ q : Mm, q = wt m6 294 (Int.toNat x1) 4 := ⟨_, rfl⟩
  refine f_st ir_294 rfl H.1 e_m13 ?_
  replace H := H.2 m13 e_m13
  refine w_st (fun _ => rfl) ?_
  refine g_284_24 rfl ?_
  refine w_st (fun _ => rfl) ?_
  refine f_int 0 rfl rfl ?_
  obtain ⟨m20, e_m20⟩ : ∃ q : Mm, q = wt m13 295 (Int.toNat x1) 0 := ⟨_, rfl⟩
  refine f_st ir_295 rfl H.1 e_m20 ?_
  replace H := H.2 m20 e_m20
  refine w_st (fun _ => rfl) ?_
  refine g_284_27 rfl ?_
  refine w_st (fun _ => rfl) ?_
  refine f_int 0 rfl rfl ?_
  obtain ⟨m27, e_m27⟩ : ∃ q : Mm, q = wt m20 298 (Int.toNat x1) 0 := ⟨_, rfl⟩
  refine f_st ir_298 rfl H.1 e_m27 ?_
  replace H := H.2 m27 e_m27
  refine w_st (fun _ => rfl) ?_
  refine g_284_31 rfl ?_
  refine w_st (fun _ => rfl) ?_
  refine f_int 0 rfl rfl ?_
  obtain ⟨m34, e_m34⟩ : ∃ q : Mm, q = wt m27 302 (Int.toNat x1) 0 := ⟨_, rfl⟩
  refine f_st ir_302 rfl H.1 e_m34 ?_
  replace H := H.2 m34 e_m34
  refine w_st (fun _ => rfl) ?_
  refine g_284_35 rfl ?_
  refine w_st (fun _ => rfl) ?_
  refine f_int 0 rfl rfl ?_
  obtain ⟨m41, e_m41⟩ : ∃ q : Mm, q = wt m34 306 (Int.toNat x1) 0 := ⟨_, rfl⟩
  refine f_st ir_306 rfl H.1 e_m41 ?_
  replace H := H.2 m41 e_m41
  refine f_int 0 rfl rfl ?_
  refine w_st (ls2 := [some (.ref 284), some (iv x1), some (iv 0)]) (fun _ => rfl) ?_
  obtain ⟨I_44, mu_44, H0_44, HB_44⟩ := H
  have lp_44 : ∀ (z : Nat) (x2_44 : Int) (m_44 : Mm), mu_44 x2_44 m_44 < z → rg x2_44 → I_44 x2_44 m_44 → mm_W d mc_185 44 [some (.ref 284), some (iv x1), some (iv x2_44)] [] (fm m_44) (XV Q) := by
    intro z
    induction z with
    | zero => intro x2_44 m_44 hz; exact absurd hz (Nat.not_lt_zero _)
    | succ z ih_44 =>
      intro x2_44 m_44 hz_44 r_x2_44 hI
      have H := HB_44 x2_44 m_44 r_x2_44 hI
      refine w_st (fun _ => rfl) ?_
      refine f_int 4 rfl rfl ?_
      refine b_ge rfl r_x2_44 (by unfold rg; decide) (fun hq => ?_) (fun hq => ?_)
      · replace H := H.1 hq
        exact f_ret rfl H
      · replace H := H.2 hq
        refine w_st (fun _ => rfl) ?_
        refine g_284_36 rfl ?_
        refine f_int 4 rfl rfl ?_
        refine w_st (fun _ => rfl) ?_
        refine f_mul rfl ?_
        refine w_st (fun _ => rfl) ?_
        refine f_add rfl ?_
        refine f_int 0 rfl rfl ?_
        obtain ⟨m59, e_m59⟩ : ∃ q : Mm, q = wt m_44 307 (Int.toNat (wr ((wr (4 * x1)) + x2_44))) 0 := ⟨_, rfl⟩
        refine f_st ir_307 rfl H.1 e_m59 ?_
        replace H := H.2 m59 e_m59
        refine w_st (fun _ => rfl) ?_
        refine g_284_37 rfl ?_
        refine f_int 4 rfl rfl ?_
        refine w_st (fun _ => rfl) ?_
        refine f_mul rfl ?_
        refine w_st (fun _ => rfl) ?_
        refine f_add rfl ?_
        refine f_int 0 rfl rfl ?_
        obtain ⟨m70, e_m70⟩ : ∃ q : Mm, q = wt m59 308 (Int.toNat (wr ((wr (4 * x1)) + x2_44))) 0 := ⟨_, rfl⟩
        refine f_st ir_308 rfl H.1 e_m70 ?_
        replace H := H.2 m70 e_m70
        obtain ⟨z2_71, e_z2_71⟩ : ∃ q : Int, q = wr (x2_44 + 1) := ⟨_, rfl⟩
        have r_z2_71 : rg z2_71 := by rw [e_z2_71]; exact wr_rg _
        replace H := H z2_71 e_z2_71
        refine f_iinc (ls2 := [some (.ref 284), some (iv x1), some (iv z2_71)]) 1 rfl rfl rfl e_z2_71 rfl ?_
        refine w_st (fun _ => rfl) ?_
        exact ih_44 z2_71 m70 (Nat.lt_of_lt_of_le H.2 (Nat.le_of_lt_succ hz_44)) r_z2_71 H.1
  exact lp_44 _ 0 m41 (Nat.lt_succ_self _) (by unfold rg; decide) H0_44
/-- TippedCratesModel.read()I -/
def P_186 (d : Nat) (m : Mm)  (Q : Mm → Int → Prop) : Prop :=
  (∀ m5 : Mm, m5 = wt m 284 4 (rd m 284 2) → (∃ (I_10 : Int → Mm → Prop) (mu_10 : Int → Mm → Nat), I_10 0 m5 ∧
    ∀ (x1_10 : Int) (m_10 : Mm), rg x1_10 → I_10 x1_10 m_10 →
    (((rd m_10 284 4) ≤ x1_10 → (∀ m38 : Mm, m38 = wt m_10 284 2 0 → CV d 178 [.ref 284] m38 (fun m42 =>
          (∀ m47 : Mm, m47 = wt m42 284 11 0 → (∀ m52 : Mm, m52 = wt m47 284 12 0 → (∀ m57 : Mm, m57 = wt m52 284 13 0 → (∀ m62 : Mm, m62 = wt m57 284 15 0 → (∀ m72 : Mm, m72 = wt m62 284 19 (wr (1 - (rd m62 284 18))) → (∀ m77 : Mm, m77 = wt m72 284 20 0 → CV d 185 [.ref 284, iv (rd m77 284 19)] m77 (fun m85 =>
          (∀ m97 : Mm, m97 = wt m85 284 38 (wr (130 * (rd m85 284 19))) → (∀ m109 : Mm, m109 = wt m97 284 44 (wr (420 * (rd m97 284 19))) → (∃ (I_112 : Mm → Prop) (mu_112 : Mm → Nat), I_112 m109 ∧
          ∀ (m_112 : Mm), I_112 m_112 →
          (∃ R_134 : Mm → Prop,
              ((¬ (rd m_112 284 13) = 0 → R_134 m_112) ∧
              ((rd m_112 284 13) = 0 → CK d 180 [.ref 284, iv 0] m_112 (fun m121 v121 =>
                ((¬ v121 = 0 → R_134 m121) ∧
                (v121 = 0 → CV d 192 [.ref 284] m121 (fun m128 =>
                  (I_112 m128 ∧ mu_112 m128 < mu_112 m_112))))))) ∧
              (∀ (m_134 : Mm), R_134 m_134 →
              (∃ R_158 : Mm → Prop,
                ((¬ (rd m_134 284 13) = 0 → R_158 m_134) ∧
                ((rd m_134 284 13) = 0 → CK d 190 [.ref 284] m_134 (fun m142 v142 =>
                  ((v142 = 0 → R_158 m142) ∧
                  (¬ v142 = 0 → CV d 182 [.ref 284, iv 6, iv (rd m142 284 11)] m142 (fun m155 =>
                    R_158 m155)))))) ∧
                (∀ (m_158 : Mm), R_158 m_158 →
                (∃ R_188 : Int → Prop,
                  (((rd m_158 284 13) ≤ 0 → (((rd m_158 284 15) ≤ 0 → R_188 (-1)) ∧
                    (¬ (rd m_158 284 15) ≤ 0 → R_188 (rd m_158 284 16)))) ∧
                  (¬ (rd m_158 284 13) ≤ 0 → R_188 (rd m_158 284 14))) ∧
                  (∀ (s1_188 : Int) , rg s1_188 → R_188 s1_188 →
                  (∀ m188 : Mm, m188 = wt m_158 284 17 s1_188 → (((rd m188 284 13) ≤ 0 → (((rd m188 284 15) ≤ 0 → (∀ m220 : Mm, m220 = wt m188 284 18 (rd m188 284 19) → CV d 214 [.ref 284] m220 (fun m224 =>
                        CV d 215 [.ref 284] m224 (fun m228 =>
                        (∀ m233 : Mm, m233 = wt m228 284 60 0 → (∀ m238 : Mm, m238 = wt m233 284 72 0 → (∃ (I_243 : Int → Mm → Prop) (mu_243 : Int → Mm → Nat), I_243 0 m238 ∧
                        ∀ (x1_243 : Int) (m_243 : Mm), rg x1_243 → I_243 x1_243 m_243 →
                        ((3 ≤ x1_243 → Q m_243 0) ∧
                            (¬ 3 ≤ x1_243 → (((0 : Int) ≤ x1_243 ∧ x1_243 < 3) ∧ (∀ m254 : Mm, m254 = wt m_243 339 (Int.toNat x1_243) (nz 0) → (∀ z1_255 : Int, z1_255 = wr (x1_243 + 1) → (I_243 z1_255 m254 ∧ mu_243 z1_255 m254 < mu_243 x1_243 m_243))))))))))))) ∧
                      (¬ (rd m188 284 15) ≤ 0 → Q m188 (rd m188 284 15)))) ∧
                    (¬ (rd m188 284 13) ≤ 0 → Q m188 (rd m188 284 13))))))))))))))))))))))) ∧
        (¬ (rd m_10 284 4) ≤ x1_10 → (((0 : Int) ≤ x1_10 ∧ x1_10 < 2000) ∧ (((0 : Int) ≤ x1_10 ∧ x1_10 < 2000) ∧ (∀ m29 : Mm, m29 = wt m_10 286 (Int.toNat x1_10) (nb (rd m_10 285 (Int.toNat x1_10))) → (∀ z1_30 : Int, z1_30 = wr (x1_10 + 1) → (I_10 z1_30 m29 ∧ mu_10 z1_30 m29 < mu_10 x1_10 m_10)))))))))
set_option maxRecDepth 20000 in
theorem br_186 {d : Nat} {m : Mm}  {Q : Mm → Int → Prop}  (H : P_186 d m  Q) : CK (d + 1) 186 [.ref 284] m Q := by
  unfold P_186 at H
  refine CK_of rfl ?_
  show mm_W d mc_186 0 [some (.ref 284), none] [] (fm m) (XK Q)
  refine w_st (fun _ => rfl) ?_
  refine w_st (fun _ => rfl) ?_
  refine g_284_2 rfl ?_
  obtain ⟨m5, e_m5⟩ : ∃ q : Mm, q = wt m 284 4 (rd m 284 2) := ⟨_, rfl⟩
  replace H := H m5 e_m5
  refine p_284_4 rfl e_m5 ?_
  refine f_int 0 rfl rfl ?_
  refine w_st (ls2 := [some (.ref 284), some (iv 0)]) (fun _ => rfl) ?_
  obtain ⟨I_10, mu_10, H0_10, HB_10⟩ := H
  have lp_10 : ∀ (z : Nat) (x1_10 : Int) (m_10 : Mm), mu_10 x1_10 m_10 < z → rg x1_10 → I_10 x1_10 m_10 → mm_W d mc_186 10 [some (.ref 284), some (iv x1_10)] [] (fm m_10) (XK Q) := by
    intro z
    induction z with
    | zero => intro x1_10 m_10 hz; exact absurd hz (Nat.not_lt_zero _)
    | succ z ih_10 =>
      intro x1_10 m_10 hz_10 r_x1_10 hI
      have H := HB_10 x1_10 m_10 r_x1_10 hI
      refine w_st (fun _ => rfl) ?_
      refine w_st (fun _ => rfl) ?_
      refine g_284_4 rfl ?_
      refine b_ge rfl r_x1_10 (rd_rg _ _ _) (fun hq => ?_) (fun hq => ?_)
      · replace H := H.1 hq
        refine w_st (fun _ => rfl) ?_
        refine f_int 0 rfl rfl ?_
        obtain ⟨m38, e_m38⟩ : ∃ q : Mm, q = wt m_10 284 2 0 := ⟨_, rfl⟩
        replace H := H m38 e_m38
        refine p_284_2 rfl e_m38 ?_
        refine w_st (fun _ => rfl) ?_
        refine k_VV (as := []) rfl mg_186 rfl rfl (by decide) rfl rfl H (fun m42 H => ?_)
        refine w_st (fun _ => rfl) ?_
        refine f_int 0 rfl rfl ?_
        obtain ⟨m47, e_m47⟩ : ∃ q : Mm, q = wt m42 284 11 0 := ⟨_, rfl⟩
        replace H := H m47 e_m47
        refine p_284_11 rfl e_m47 ?_
        refine w_st (fun _ => rfl) ?_
        refine f_int 0 rfl rfl ?_
        obtain ⟨m52, e_m52⟩ : ∃ q : Mm, q = wt m47 284 12 0 := ⟨_, rfl⟩
        replace H := H m52 e_m52
        refine p_284_12 rfl e_m52 ?_
        refine w_st (fun _ => rfl) ?_
        refine f_int 0 rfl rfl ?_
        obtain ⟨m57, e_m57⟩ : ∃ q : Mm, q = wt m52 284 13 0 := ⟨_, rfl⟩
        replace H := H m57 e_m57
        refine p_284_13 rfl e_m57 ?_
        refine w_st (fun _ => rfl) ?_
        refine f_int 0 rfl rfl ?_
        obtain ⟨m62, e_m62⟩ : ∃ q : Mm, q = wt m57 284 15 0 := ⟨_, rfl⟩
        replace H := H m62 e_m62
        refine p_284_15 rfl e_m62 ?_
        refine w_st (fun _ => rfl) ?_
        refine f_int 1 rfl rfl ?_
        refine w_st (fun _ => rfl) ?_
        refine g_284_18 rfl ?_
        refine f_sub rfl ?_
        obtain ⟨m72, e_m72⟩ : ∃ q : Mm, q = wt m62 284 19 (wr (1 - (rd m62 284 18))) := ⟨_, rfl⟩
        replace H := H m72 e_m72
        refine p_284_19 rfl e_m72 ?_
        refine w_st (fun _ => rfl) ?_
        refine f_int 0 rfl rfl ?_
        obtain ⟨m77, e_m77⟩ : ∃ q : Mm, q = wt m72 284 20 0 := ⟨_, rfl⟩
        replace H := H m77 e_m77
        refine p_284_20 rfl e_m77 ?_
        refine w_st (fun _ => rfl) ?_
        refine w_st (fun _ => rfl) ?_
        refine g_284_19 rfl ?_
        refine k_VV (as := [iv (rd m77 284 19)]) rfl mg_186 rfl rfl (by decide) rfl rfl H (fun m85 H => ?_)
        refine w_st (fun _ => rfl) ?_
        refine f_int 130 rfl rfl ?_
        refine w_st (fun _ => rfl) ?_
        refine g_284_19 rfl ?_
        refine f_mul rfl ?_
        obtain ⟨m97, e_m97⟩ : ∃ q : Mm, q = wt m85 284 38 (wr (130 * (rd m85 284 19))) := ⟨_, rfl⟩
        replace H := H m97 e_m97
        refine p_284_38 rfl e_m97 ?_
        refine w_st (fun _ => rfl) ?_
        refine f_int 420 rfl rfl ?_
        refine w_st (fun _ => rfl) ?_
        refine g_284_19 rfl ?_
        refine f_mul rfl ?_
        obtain ⟨m109, e_m109⟩ : ∃ q : Mm, q = wt m97 284 44 (wr (420 * (rd m97 284 19))) := ⟨_, rfl⟩
        replace H := H m109 e_m109
        refine p_284_44 rfl e_m109 ?_
        obtain ⟨I_112, mu_112, H0_112, HB_112⟩ := H
        have lp_112 : ∀ (z : Nat) (m_112 : Mm), mu_112 m_112 < z → I_112 m_112 → mm_W d mc_186 112 [some (.ref 284), some (iv x1_10)] [] (fm m_112) (XK Q) := by
          intro z
          induction z with
          | zero => intro m_112 hz; exact absurd hz (Nat.not_lt_zero _)
          | succ z ih_112 =>
            intro m_112 hz_112  hI
            have H := HB_112 m_112  hI
            refine w_st (fun _ => rfl) ?_
            refine g_284_13 rfl ?_
            obtain ⟨R_134, H, HJ_134⟩ := H
            have tl_134 : ∀ (m_134 : Mm), R_134 m_134 → mm_W d mc_186 134 [some (.ref 284), some (iv x1_10)] [] (fm m_134) (XK Q) := by
              intro m_134  hR
              have H := HJ_134 m_134  hR
              refine w_st (fun _ => rfl) ?_
              refine g_284_13 rfl ?_
              obtain ⟨R_158, H, HJ_158⟩ := H
              have tl_158 : ∀ (m_158 : Mm), R_158 m_158 → mm_W d mc_186 158 [some (.ref 284), some (iv x1_10)] [] (fm m_158) (XK Q) := by
                intro m_158  hR
                have H := HJ_158 m_158  hR
                refine w_st (fun _ => rfl) ?_
                refine w_st (fun _ => rfl) ?_
                refine g_284_13 rfl ?_
                obtain ⟨R_188, H, HJ_188⟩ := H
                have tl_188 : ∀ (s1_188 : Int) , rg s1_188 → R_188 s1_188 → mm_W d mc_186 188 [some (.ref 284), some (iv x1_10)] [iv s1_188, .ref 284] (fm m_158) (XK Q) := by
                  intro s1_188 r_s1_188 hR
                  have H := HJ_188 s1_188 r_s1_188 hR
                  obtain ⟨m188, e_m188⟩ : ∃ q : Mm, q = wt m_158 284 17 s1_188 := ⟨_, rfl⟩
                  replace H := H m188 e_m188
                  refine p_284_17 rfl e_m188 ?_
                  refine w_st (fun _ => rfl) ?_
                  refine g_284_13 rfl ?_
                  refine z_le rfl (rd_rg _ _ _) (fun hq => ?_) (fun hq => ?_)
                  · replace H := H.1 hq
                    refine w_st (fun _ => rfl) ?_
                    refine g_284_15 rfl ?_
                    refine z_le rfl (rd_rg _ _ _) (fun hq => ?_) (fun hq => ?_)
                    · replace H := H.1 hq
                      refine w_st (fun _ => rfl) ?_
                      refine w_st (fun _ => rfl) ?_
                      refine g_284_19 rfl ?_
                      obtain ⟨m220, e_m220⟩ : ∃ q : Mm, q = wt m188 284 18 (rd m188 284 19) := ⟨_, rfl⟩
                      replace H := H m220 e_m220
                      refine p_284_18 rfl e_m220 ?_
                      refine w_st (fun _ => rfl) ?_
                      refine k_VV (as := []) rfl mg_186 rfl rfl (by decide) rfl rfl H (fun m224 H => ?_)
                      refine w_st (fun _ => rfl) ?_
                      refine k_VV (as := []) rfl mg_186 rfl rfl (by decide) rfl rfl H (fun m228 H => ?_)
                      refine w_st (fun _ => rfl) ?_
                      refine f_int 0 rfl rfl ?_
                      obtain ⟨m233, e_m233⟩ : ∃ q : Mm, q = wt m228 284 60 0 := ⟨_, rfl⟩
                      replace H := H m233 e_m233
                      refine p_284_60 rfl e_m233 ?_
                      refine w_st (fun _ => rfl) ?_
                      refine f_int 0 rfl rfl ?_
                      obtain ⟨m238, e_m238⟩ : ∃ q : Mm, q = wt m233 284 72 0 := ⟨_, rfl⟩
                      replace H := H m238 e_m238
                      refine p_284_72 rfl e_m238 ?_
                      refine f_int 0 rfl rfl ?_
                      refine w_st (ls2 := [some (.ref 284), some (iv 0)]) (fun _ => rfl) ?_
                      obtain ⟨I_243, mu_243, H0_243, HB_243⟩ := H
                      have lp_243 : ∀ (z : Nat) (x1_243 : Int) (m_243 : Mm), mu_243 x1_243 m_243 < z → rg x1_243 → I_243 x1_243 m_243 → mm_W d mc_186 243 [some (.ref 284), some (iv x1_243)] [] (fm m_243) (XK Q) := by
                        intro z
                        induction z with
                        | zero => intro x1_243 m_243 hz; exact absurd hz (Nat.not_lt_zero _)
                        | succ z ih_243 =>
                          intro x1_243 m_243 hz_243 r_x1_243 hI
                          have H := HB_243 x1_243 m_243 r_x1_243 hI
                          refine w_st (fun _ => rfl) ?_
                          refine f_int 3 rfl rfl ?_
                          refine b_ge rfl r_x1_243 (by unfold rg; decide) (fun hq => ?_) (fun hq => ?_)
                          · replace H := H.1 hq
                            refine f_int 0 rfl rfl ?_
                            exact f_iret rfl (by unfold rg; decide) H
                          · replace H := H.2 hq
                            refine w_st (fun _ => rfl) ?_
                            refine g_284_78 rfl ?_
                            refine w_st (fun _ => rfl) ?_
                            refine f_int 0 rfl rfl ?_
                            obtain ⟨m254, e_m254⟩ : ∃ q : Mm, q = wt m_243 339 (Int.toNat x1_243) (nz 0) := ⟨_, rfl⟩
                            refine f_stz (n := 3) (by decide) (fun _ => rfl) (by decide) rfl H.1 e_m254 ?_
                            replace H := H.2 m254 e_m254
                            obtain ⟨z1_255, e_z1_255⟩ : ∃ q : Int, q = wr (x1_243 + 1) := ⟨_, rfl⟩
                            have r_z1_255 : rg z1_255 := by rw [e_z1_255]; exact wr_rg _
                            replace H := H z1_255 e_z1_255
                            refine f_iinc (ls2 := [some (.ref 284), some (iv z1_255)]) 1 rfl rfl rfl e_z1_255 rfl ?_
                            refine w_st (fun _ => rfl) ?_
                            exact ih_243 z1_255 m254 (Nat.lt_of_lt_of_le H.2 (Nat.le_of_lt_succ hz_243)) r_z1_255 H.1
                      exact lp_243 _ 0 m238 (Nat.lt_succ_self _) (by unfold rg; decide) H0_243
                    · replace H := H.2 hq
                      refine w_st (fun _ => rfl) ?_
                      refine g_284_15 rfl ?_
                      exact f_iret rfl (rd_rg _ _ _) H
                  · replace H := H.2 hq
                    refine w_st (fun _ => rfl) ?_
                    refine g_284_13 rfl ?_
                    exact f_iret rfl (rd_rg _ _ _) H
                refine z_le rfl (rd_rg _ _ _) (fun hq => ?_) (fun hq => ?_)
                · replace H := H.1 hq
                  refine w_st (fun _ => rfl) ?_
                  refine g_284_15 rfl ?_
                  refine z_le rfl (rd_rg _ _ _) (fun hq => ?_) (fun hq => ?_)
                  · replace H := H.1 hq
                    refine f_int (-1) rfl rfl ?_
                    exact tl_188 (-1) (by unfold rg; decide) H
                  · replace H := H.2 hq
                    refine w_st (fun _ => rfl) ?_
                    refine g_284_16 rfl ?_
                    refine w_st (fun _ => rfl) ?_
                    exact tl_188 (rd m_158 284 16) (rd_rg _ _ _) H
                · replace H := H.2 hq
                  refine w_st (fun _ => rfl) ?_
                  refine g_284_14 rfl ?_
                  refine w_st (fun _ => rfl) ?_
                  exact tl_188 (rd m_158 284 14) (rd_rg _ _ _) H
              refine z_ne rfl (rd_rg _ _ _) (fun hq => ?_) (fun hq => ?_)
              · replace H := H.1 hq
                exact tl_158 m_134  H
              · replace H := H.2 hq
                refine w_st (fun _ => rfl) ?_
                refine k_VK (as := []) rfl mg_186 rfl rfl (by decide) rfl rfl H (fun m142 v142 r_v142 H => ?_)
                refine z_eq rfl r_v142 (fun hq => ?_) (fun hq => ?_)
                · replace H := H.1 hq
                  exact tl_158 m142  H
                · replace H := H.2 hq
                  refine w_st (fun _ => rfl) ?_
                  refine f_int 6 rfl rfl ?_
                  refine w_st (fun _ => rfl) ?_
                  refine g_284_11 rfl ?_
                  refine k_VV (as := [iv 6, iv (rd m142 284 11)]) rfl mg_186 rfl rfl (by decide) rfl rfl H (fun m155 H => ?_)
                  exact tl_158 m155  H
            refine z_ne rfl (rd_rg _ _ _) (fun hq => ?_) (fun hq => ?_)
            · replace H := H.1 hq
              exact tl_134 m_112  H
            · replace H := H.2 hq
              refine w_st (fun _ => rfl) ?_
              refine f_int 0 rfl rfl ?_
              refine k_VK (as := [iv 0]) rfl mg_186 rfl rfl (by decide) rfl rfl H (fun m121 v121 r_v121 H => ?_)
              refine z_ne rfl r_v121 (fun hq => ?_) (fun hq => ?_)
              · replace H := H.1 hq
                exact tl_134 m121  H
              · replace H := H.2 hq
                refine w_st (fun _ => rfl) ?_
                refine k_VV (as := []) rfl mg_186 rfl rfl (by decide) rfl rfl H (fun m128 H => ?_)
                refine w_st (fun _ => rfl) ?_
                exact ih_112 m128 (Nat.lt_of_lt_of_le H.2 (Nat.le_of_lt_succ hz_112))  H.1
        exact lp_112 _ m109 (Nat.lt_succ_self _)  H0_112
      · replace H := H.2 hq
        refine w_st (fun _ => rfl) ?_
        refine g_284_3 rfl ?_
        refine w_st (fun _ => rfl) ?_
        refine w_st (fun _ => rfl) ?_
        refine g_284_1 rfl ?_
        refine w_st (fun _ => rfl) ?_
        refine f_ldb (n := 2000) (by decide) rfl (by decide) rfl H.1 ?_
        replace H := H.2
        obtain ⟨m29, e_m29⟩ : ∃ q : Mm, q = wt m_10 286 (Int.toNat x1_10) (nb (rd m_10 285 (Int.toNat x1_10))) := ⟨_, rfl⟩
        refine f_stb (n := 2000) (by decide) (fun _ => rfl) (by decide) rfl H.1 e_m29 ?_
        replace H := H.2 m29 e_m29
        obtain ⟨z1_30, e_z1_30⟩ : ∃ q : Int, q = wr (x1_10 + 1) := ⟨_, rfl⟩
        have r_z1_30 : rg z1_30 := by rw [e_z1_30]; exact wr_rg _
        replace H := H z1_30 e_z1_30
        refine f_iinc (ls2 := [some (.ref 284), some (iv z1_30)]) 1 rfl rfl rfl e_z1_30 rfl ?_
        refine w_st (fun _ => rfl) ?_
        exact ih_10 z1_30 m29 (Nat.lt_of_lt_of_le H.2 (Nat.le_of_lt_succ hz_10)) r_z1_30 H.1
  exact lp_10 _ 0 m5 (Nat.lt_succ_self _) (by unfold rg; decide) H0_10
/-- TippedCratesModel.place()I -/
def P_187 (d : Nat) (m : Mm)  (Q : Mm → Int → Prop) : Prop :=
  Q m (rd m 284 17)
set_option maxRecDepth 20000 in
theorem br_187 {d : Nat} {m : Mm}  {Q : Mm → Int → Prop}  (H : P_187 d m  Q) : CK (d + 1) 187 [.ref 284] m Q := by
  unfold P_187 at H
  refine CK_of rfl ?_
  show mm_W d mc_187 0 [some (.ref 284)] [] (fm m) (XK Q)
  refine w_st (fun _ => rfl) ?_
  refine g_284_17 rfl ?_
  exact f_iret rfl (rd_rg _ _ _) H
/-- TippedCratesModel.isOff(II)Z -/
def P_188 (d : Nat) (m : Mm) (x1 : Int) (x2 : Int) (Q : Mm → Int → Prop) : Prop :=
  (((0 : Int) ≤ (rd m 284 19) ∧ (rd m 284 19) < 2) ∧ (∃ R_31 : Int → Prop,
    (∃ R_26 : Prop,
    (((rd m 293 (Int.toNat (rd m 284 19))) ≤ x1 → R_26) ∧
    (¬ (rd m 293 (Int.toNat (rd m 284 19))) ≤ x1 → (((0 : Int) ≤ (rd m 284 19) ∧ (rd m 284 19) < 2) ∧ ((x2 < (rd m 294 (Int.toNat (rd m 284 19))) → R_31 0) ∧
      (¬ x2 < (rd m 294 (Int.toNat (rd m 284 19))) → R_26))))) ∧
    (R_26 →
    R_31 1)) ∧
    (∀ (s0_31 : Int) , rg s0_31 → R_31 s0_31 →
    ((s0_31 = 0 ∨ s0_31 = 1) ∧ Q m s0_31))))
set_option maxRecDepth 20000 in
theorem br_188 {d : Nat} {m : Mm} {x1 : Int} {x2 : Int} {Q : Mm → Int → Prop} (r_x1 : rg x1) (r_x2 : rg x2) (H : P_188 d m x1 x2 Q) : CK (d + 1) 188 [.ref 284, iv x1, iv x2] m Q := by
  unfold P_188 at H
  refine CK_of rfl ?_
  show mm_W d mc_188 0 [some (.ref 284), some (iv x1), some (iv x2)] [] (fm m) (XK Q)
  refine w_st (fun _ => rfl) ?_
  refine w_st (fun _ => rfl) ?_
  refine g_284_22 rfl ?_
  refine w_st (fun _ => rfl) ?_
  refine g_284_19 rfl ?_
  refine f_ld ir_293 rfl H.1 ?_
  replace H := H.2
  obtain ⟨R_31, H, HJ_31⟩ := H
  have tl_31 : ∀ (s0_31 : Int) , rg s0_31 → R_31 s0_31 → mm_W d mc_188 31 [some (.ref 284), some (iv x1), some (iv x2)] [iv s0_31] (fm m) (XK Q) := by
    intro s0_31 r_s0_31 hR
    have H := HJ_31 s0_31 r_s0_31 hR
    exact f_zret rfl r_s0_31 H.1 H.2
  obtain ⟨R_26, H, HJ_26⟩ := H
  have tl_26 : R_26 → mm_W d mc_188 26 [some (.ref 284), some (iv x1), some (iv x2)] [] (fm m) (XK Q) := by
    intro   hR
    have H := HJ_26   hR
    refine f_int 1 rfl rfl ?_
    refine w_st (fun _ => rfl) ?_
    exact tl_31 1 (by unfold rg; decide) H
  refine b_ge rfl r_x1 (rd_rg _ _ _) (fun hq => ?_) (fun hq => ?_)
  · replace H := H.1 hq
    exact tl_26   H
  · replace H := H.2 hq
    refine w_st (fun _ => rfl) ?_
    refine w_st (fun _ => rfl) ?_
    refine g_284_23 rfl ?_
    refine w_st (fun _ => rfl) ?_
    refine g_284_19 rfl ?_
    refine f_ld ir_294 rfl H.1 ?_
    replace H := H.2
    refine b_lt rfl r_x2 (rd_rg _ _ _) (fun hq => ?_) (fun hq => ?_)
    · replace H := H.1 hq
      refine f_int 0 rfl rfl ?_
      exact tl_31 0 (by unfold rg; decide) H
    · replace H := H.2 hq
      exact tl_26   H
/-- TippedCratesModel.isShutTold(II)Z -/
def P_189 (d : Nat) (m : Mm) (x1 : Int) (x2 : Int) (Q : Mm → Int → Prop) : Prop :=
  (∀ z3_7 : Int, z3_7 = (wr (8 * (rd m 284 19))) → (∃ (I_8 : Int → Prop) (mu_8 : Int → Nat), I_8 z3_7 ∧
    ∀ (x3_8 : Int) , rg x3_8 → I_8 x3_8 →
    (((0 : Int) ≤ (rd m 284 19) ∧ (rd m 284 19) < 2) ∧ (((wr ((wr (8 * (rd m 284 19))) + (rd m 295 (Int.toNat (rd m 284 19))))) ≤ x3_8 → Q m 0) ∧
        (¬ (wr ((wr (8 * (rd m 284 19))) + (rd m 295 (Int.toNat (rd m 284 19))))) ≤ x3_8 → (((0 : Int) ≤ x3_8 ∧ x3_8 < 16) ∧ (∃ R_51 : Prop,
          ((¬ (rd m 296 (Int.toNat x3_8)) = x1 → R_51) ∧
          ((rd m 296 (Int.toNat x3_8)) = x1 → (((0 : Int) ≤ x3_8 ∧ x3_8 < 16) ∧ ((¬ (rd m 297 (Int.toNat x3_8)) = x2 → R_51) ∧
            ((rd m 297 (Int.toNat x3_8)) = x2 → Q m 1))))) ∧
          (R_51 →
          (∀ z3_51 : Int, z3_51 = wr (x3_8 + 1) → (I_8 z3_51 ∧ mu_8 z3_51 < mu_8 x3_8))))))))))
set_option maxRecDepth 20000 in
theorem br_189 {d : Nat} {m : Mm} {x1 : Int} {x2 : Int} {Q : Mm → Int → Prop} (r_x1 : rg x1) (r_x2 : rg x2) (H : P_189 d m x1 x2 Q) : CK (d + 1) 189 [.ref 284, iv x1, iv x2] m Q := by
  unfold P_189 at H
  refine CK_of rfl ?_
  show mm_W d mc_189 0 [some (.ref 284), some (iv x1), some (iv x2), none] [] (fm m) (XK Q)
  refine f_int 8 rfl rfl ?_
  refine w_st (fun _ => rfl) ?_
  refine g_284_19 rfl ?_
  refine f_mul rfl ?_
  obtain ⟨z3_7, e_z3_7⟩ : ∃ q : Int, q = (wr (8 * (rd m 284 19))) := ⟨_, rfl⟩
  have r_z3_7 : rg z3_7 := by rw [e_z3_7]; exact (wr_rg _)
  replace H := H z3_7 e_z3_7
  refine f_nm e_z3_7 ?_
  refine w_st (ls2 := [some (.ref 284), some (iv x1), some (iv x2), some (iv z3_7)]) (fun _ => rfl) ?_
  obtain ⟨I_8, mu_8, H0_8, HB_8⟩ := H
  have lp_8 : ∀ (z : Nat) (x3_8 : Int) , mu_8 x3_8 < z → rg x3_8 → I_8 x3_8 → mm_W d mc_189 8 [some (.ref 284), some (iv x1), some (iv x2), some (iv x3_8)] [] (fm m) (XK Q) := by
    intro z
    induction z with
    | zero => intro x3_8 hz; exact absurd hz (Nat.not_lt_zero _)
    | succ z ih_8 =>
      intro x3_8 hz_8 r_x3_8 hI
      have H := HB_8 x3_8 r_x3_8 hI
      refine w_st (fun _ => rfl) ?_
      refine f_int 8 rfl rfl ?_
      refine w_st (fun _ => rfl) ?_
      refine g_284_19 rfl ?_
      refine f_mul rfl ?_
      refine w_st (fun _ => rfl) ?_
      refine g_284_24 rfl ?_
      refine w_st (fun _ => rfl) ?_
      refine g_284_19 rfl ?_
      refine f_ld ir_295 rfl H.1 ?_
      replace H := H.2
      refine f_add rfl ?_
      refine b_ge rfl r_x3_8 (wr_rg _) (fun hq => ?_) (fun hq => ?_)
      · replace H := H.1 hq
        refine f_int 0 rfl rfl ?_
        exact f_zret rfl (by unfold rg; decide) (Or.inl rfl) H
      · replace H := H.2 hq
        refine w_st (fun _ => rfl) ?_
        refine g_284_25 rfl ?_
        refine w_st (fun _ => rfl) ?_
        refine f_ld ir_296 rfl H.1 ?_
        replace H := H.2
        refine w_st (fun _ => rfl) ?_
        obtain ⟨R_51, H, HJ_51⟩ := H
        have tl_51 : R_51 → mm_W d mc_189 51 [some (.ref 284), some (iv x1), some (iv x2), some (iv x3_8)] [] (fm m) (XK Q) := by
          intro   hR
          have H := HJ_51   hR
          obtain ⟨z3_51, e_z3_51⟩ : ∃ q : Int, q = wr (x3_8 + 1) := ⟨_, rfl⟩
          have r_z3_51 : rg z3_51 := by rw [e_z3_51]; exact wr_rg _
          replace H := H z3_51 e_z3_51
          refine f_iinc (ls2 := [some (.ref 284), some (iv x1), some (iv x2), some (iv z3_51)]) 1 rfl rfl rfl e_z3_51 rfl ?_
          refine w_st (fun _ => rfl) ?_
          exact ih_8 z3_51 (Nat.lt_of_lt_of_le H.2 (Nat.le_of_lt_succ hz_8)) r_z3_51 H.1
        refine b_ne rfl (rd_rg _ _ _) r_x1 (fun hq => ?_) (fun hq => ?_)
        · replace H := H.1 hq
          exact tl_51   H
        · replace H := H.2 hq
          refine w_st (fun _ => rfl) ?_
          refine g_284_26 rfl ?_
          refine w_st (fun _ => rfl) ?_
          refine f_ld ir_297 rfl H.1 ?_
          replace H := H.2
          refine w_st (fun _ => rfl) ?_
          refine b_ne rfl (rd_rg _ _ _) r_x2 (fun hq => ?_) (fun hq => ?_)
          · replace H := H.1 hq
            exact tl_51   H
          · replace H := H.2 hq
            refine f_int 1 rfl rfl ?_
            exact f_zret rfl (by unfold rg; decide) (Or.inr rfl) H
  exact lp_8 _ z3_7 (Nat.lt_succ_self _) r_z3_7 H0_8
/-- TippedCratesModel.isBeyond()Z -/
def P_190 (d : Nat) (m : Mm)  (Q : Mm → Int → Prop) : Prop :=
  (∀ z1_7 : Int, z1_7 = (wr (8 * (rd m 284 19))) → (∃ (I_8 : Int → Mm → Prop) (mu_8 : Int → Mm → Nat), I_8 z1_7 m ∧
    ∀ (x1_8 : Int) (m_8 : Mm), rg x1_8 → I_8 x1_8 m_8 →
    (((0 : Int) ≤ (rd m_8 284 19) ∧ (rd m_8 284 19) < 2) ∧ (((wr ((wr (8 * (rd m_8 284 19))) + (rd m_8 295 (Int.toNat (rd m_8 284 19))))) ≤ x1_8 → (∀ z1_63 : Int, z1_63 = (wr (10 * (rd m_8 284 19))) → (∃ (I_64 : Int → Mm → Prop) (mu_64 : Int → Mm → Nat), I_64 z1_63 m_8 ∧
          ∀ (x1_64 : Int) (m_64 : Mm), rg x1_64 → I_64 x1_64 m_64 →
          (((0 : Int) ≤ (rd m_64 284 19) ∧ (rd m_64 284 19) < 2) ∧ (((wr ((wr (10 * (rd m_64 284 19))) + (rd m_64 298 (Int.toNat (rd m_64 284 19))))) ≤ x1_64 → (∀ z1_118 : Int, z1_118 = (wr (3 * (rd m_64 284 19))) → (∃ (I_119 : Int → Mm → Prop) (mu_119 : Int → Mm → Nat), I_119 z1_118 m_64 ∧
                ∀ (x1_119 : Int) (m_119 : Mm), rg x1_119 → I_119 x1_119 m_119 →
                (((0 : Int) ≤ (rd m_119 284 19) ∧ (rd m_119 284 19) < 2) ∧ (((wr ((wr (3 * (rd m_119 284 19))) + (rd m_119 302 (Int.toNat (rd m_119 284 19))))) ≤ x1_119 → Q m_119 0) ∧
                    (¬ (wr ((wr (3 * (rd m_119 284 19))) + (rd m_119 302 (Int.toNat (rd m_119 284 19))))) ≤ x1_119 → (((0 : Int) ≤ x1_119 ∧ x1_119 < 6) ∧ (((0 : Int) ≤ x1_119 ∧ x1_119 < 6) ∧ CK d 188 [.ref 284, iv (rd m_119 303 (Int.toNat x1_119)), iv (rd m_119 304 (Int.toNat x1_119))] m_119 (fun m152 v152 =>
                      (∃ R_177 : Mm → Prop,
                      ((¬ v152 = 0 → R_177 m152) ∧
                      (v152 = 0 → (((0 : Int) ≤ x1_119 ∧ x1_119 < 6) ∧ (((0 : Int) ≤ x1_119 ∧ x1_119 < 6) ∧ CK d 189 [.ref 284, iv (rd m152 303 (Int.toNat x1_119)), iv (rd m152 304 (Int.toNat x1_119))] m152 (fun m171 v171 =>
                        ((v171 = 0 → (∀ z2_185 : Int, z2_185 = (wr (3 * (rd m171 284 19))) → (∃ (I_186 : Int → Prop) (mu_186 : Int → Nat), I_186 z2_185 ∧
                          ∀ (x2_186 : Int) , rg x2_186 → I_186 x2_186 →
                          ((x1_119 ≤ x2_186 → (∀ z1_229 : Int, z1_229 = wr (x1_119 + 1) → (I_119 z1_229 m171 ∧ mu_119 z1_229 m171 < mu_119 x1_119 m_119))) ∧
                              (¬ x1_119 ≤ x2_186 → (((0 : Int) ≤ x2_186 ∧ x2_186 < 6) ∧ (((0 : Int) ≤ x1_119 ∧ x1_119 < 6) ∧ (∃ R_223 : Prop,
                                ((¬ (rd m171 303 (Int.toNat x2_186)) = (rd m171 303 (Int.toNat x1_119)) → R_223) ∧
                                ((rd m171 303 (Int.toNat x2_186)) = (rd m171 303 (Int.toNat x1_119)) → (((0 : Int) ≤ x2_186 ∧ x2_186 < 6) ∧ (((0 : Int) ≤ x1_119 ∧ x1_119 < 6) ∧ ((¬ (rd m171 304 (Int.toNat x2_186)) = (rd m171 304 (Int.toNat x1_119)) → R_223) ∧
                                  ((rd m171 304 (Int.toNat x2_186)) = (rd m171 304 (Int.toNat x1_119)) → Q m171 1)))))) ∧
                                (R_223 →
                                (∀ z2_223 : Int, z2_223 = wr (x2_186 + 1) → (I_186 z2_223 ∧ mu_186 z2_223 < mu_186 x2_186))))))))))) ∧
                        (¬ v171 = 0 → R_177 m171))))))) ∧
                      (∀ (m_177 : Mm), R_177 m_177 →
                      Q m_177 1))))))))))) ∧
              (¬ (wr ((wr (10 * (rd m_64 284 19))) + (rd m_64 298 (Int.toNat (rd m_64 284 19))))) ≤ x1_64 → (((0 : Int) ≤ x1_64 ∧ x1_64 < 20) ∧ (((0 : Int) ≤ x1_64 ∧ x1_64 < 20) ∧ CK d 188 [.ref 284, iv (rd m_64 299 (Int.toNat x1_64)), iv (rd m_64 300 (Int.toNat x1_64))] m_64 (fun m98 v98 =>
                ((v98 = 0 → (∀ z1_106 : Int, z1_106 = wr (x1_64 + 1) → (I_64 z1_106 m98 ∧ mu_64 z1_106 m98 < mu_64 x1_64 m_64))) ∧
                (¬ v98 = 0 → Q m98 1))))))))))) ∧
        (¬ (wr ((wr (8 * (rd m_8 284 19))) + (rd m_8 295 (Int.toNat (rd m_8 284 19))))) ≤ x1_8 → (((0 : Int) ≤ x1_8 ∧ x1_8 < 16) ∧ (((0 : Int) ≤ x1_8 ∧ x1_8 < 16) ∧ CK d 188 [.ref 284, iv (rd m_8 296 (Int.toNat x1_8)), iv (rd m_8 297 (Int.toNat x1_8))] m_8 (fun m42 v42 =>
          ((v42 = 0 → (∀ z1_50 : Int, z1_50 = wr (x1_8 + 1) → (I_8 z1_50 m42 ∧ mu_8 z1_50 m42 < mu_8 x1_8 m_8))) ∧
          (¬ v42 = 0 → Q m42 1))))))))))
set_option maxRecDepth 20000 in
theorem br_190 {d : Nat} {m : Mm}  {Q : Mm → Int → Prop}  (H : P_190 d m  Q) : CK (d + 1) 190 [.ref 284] m Q := by
  unfold P_190 at H
  refine CK_of rfl ?_
  show mm_W d mc_190 0 [some (.ref 284), none, none] [] (fm m) (XK Q)
  refine f_int 8 rfl rfl ?_
  refine w_st (fun _ => rfl) ?_
  refine g_284_19 rfl ?_
  refine f_mul rfl ?_
  obtain ⟨z1_7, e_z1_7⟩ : ∃ q : Int, q = (wr (8 * (rd m 284 19))) := ⟨_, rfl⟩
  have r_z1_7 : rg z1_7 := by rw [e_z1_7]; exact (wr_rg _)
  replace H := H z1_7 e_z1_7
  refine f_nm e_z1_7 ?_
  refine w_st (ls2 := [some (.ref 284), some (iv z1_7), none]) (fun _ => rfl) ?_
  obtain ⟨I_8, mu_8, H0_8, HB_8⟩ := H
  have lp_8 : ∀ (z : Nat) (x1_8 : Int) (m_8 : Mm), mu_8 x1_8 m_8 < z → rg x1_8 → I_8 x1_8 m_8 → mm_W d mc_190 8 [some (.ref 284), some (iv x1_8), none] [] (fm m_8) (XK Q) := by
    intro z
    induction z with
    | zero => intro x1_8 m_8 hz; exact absurd hz (Nat.not_lt_zero _)
    | succ z ih_8 =>
      intro x1_8 m_8 hz_8 r_x1_8 hI
      have H := HB_8 x1_8 m_8 r_x1_8 hI
      refine w_st (fun _ => rfl) ?_
      refine f_int 8 rfl rfl ?_
      refine w_st (fun _ => rfl) ?_
      refine g_284_19 rfl ?_
      refine f_mul rfl ?_
      refine w_st (fun _ => rfl) ?_
      refine g_284_24 rfl ?_
      refine w_st (fun _ => rfl) ?_
      refine g_284_19 rfl ?_
      refine f_ld ir_295 rfl H.1 ?_
      replace H := H.2
      refine f_add rfl ?_
      refine b_ge rfl r_x1_8 (wr_rg _) (fun hq => ?_) (fun hq => ?_)
      · replace H := H.1 hq
        refine f_int 10 rfl rfl ?_
        refine w_st (fun _ => rfl) ?_
        refine g_284_19 rfl ?_
        refine f_mul rfl ?_
        obtain ⟨z1_63, e_z1_63⟩ : ∃ q : Int, q = (wr (10 * (rd m_8 284 19))) := ⟨_, rfl⟩
        have r_z1_63 : rg z1_63 := by rw [e_z1_63]; exact (wr_rg _)
        replace H := H z1_63 e_z1_63
        refine f_nm e_z1_63 ?_
        refine w_st (ls2 := [some (.ref 284), some (iv z1_63), none]) (fun _ => rfl) ?_
        obtain ⟨I_64, mu_64, H0_64, HB_64⟩ := H
        have lp_64 : ∀ (z : Nat) (x1_64 : Int) (m_64 : Mm), mu_64 x1_64 m_64 < z → rg x1_64 → I_64 x1_64 m_64 → mm_W d mc_190 64 [some (.ref 284), some (iv x1_64), none] [] (fm m_64) (XK Q) := by
          intro z
          induction z with
          | zero => intro x1_64 m_64 hz; exact absurd hz (Nat.not_lt_zero _)
          | succ z ih_64 =>
            intro x1_64 m_64 hz_64 r_x1_64 hI
            have H := HB_64 x1_64 m_64 r_x1_64 hI
            refine w_st (fun _ => rfl) ?_
            refine f_int 10 rfl rfl ?_
            refine w_st (fun _ => rfl) ?_
            refine g_284_19 rfl ?_
            refine f_mul rfl ?_
            refine w_st (fun _ => rfl) ?_
            refine g_284_27 rfl ?_
            refine w_st (fun _ => rfl) ?_
            refine g_284_19 rfl ?_
            refine f_ld ir_298 rfl H.1 ?_
            replace H := H.2
            refine f_add rfl ?_
            refine b_ge rfl r_x1_64 (wr_rg _) (fun hq => ?_) (fun hq => ?_)
            · replace H := H.1 hq
              refine f_int 3 rfl rfl ?_
              refine w_st (fun _ => rfl) ?_
              refine g_284_19 rfl ?_
              refine f_mul rfl ?_
              obtain ⟨z1_118, e_z1_118⟩ : ∃ q : Int, q = (wr (3 * (rd m_64 284 19))) := ⟨_, rfl⟩
              have r_z1_118 : rg z1_118 := by rw [e_z1_118]; exact (wr_rg _)
              replace H := H z1_118 e_z1_118
              refine f_nm e_z1_118 ?_
              refine w_st (ls2 := [some (.ref 284), some (iv z1_118), none]) (fun _ => rfl) ?_
              obtain ⟨I_119, mu_119, H0_119, HB_119⟩ := H
              have lp_119 : ∀ (z : Nat) (x1_119 : Int) (m_119 : Mm) (g2_119 : Option Value), mu_119 x1_119 m_119 < z → rg x1_119 → I_119 x1_119 m_119 → mm_W d mc_190 119 [some (.ref 284), some (iv x1_119), g2_119] [] (fm m_119) (XK Q) := by
                intro z
                induction z with
                | zero => intro x1_119 m_119 g2_119 hz; exact absurd hz (Nat.not_lt_zero _)
                | succ z ih_119 =>
                  intro x1_119 m_119 g2_119 hz_119 r_x1_119 hI
                  have H := HB_119 x1_119 m_119 r_x1_119 hI
                  refine w_st (fun _ => rfl) ?_
                  refine f_int 3 rfl rfl ?_
                  refine w_st (fun _ => rfl) ?_
                  refine g_284_19 rfl ?_
                  refine f_mul rfl ?_
                  refine w_st (fun _ => rfl) ?_
                  refine g_284_31 rfl ?_
                  refine w_st (fun _ => rfl) ?_
                  refine g_284_19 rfl ?_
                  refine f_ld ir_302 rfl H.1 ?_
                  replace H := H.2
                  refine f_add rfl ?_
                  refine b_ge rfl r_x1_119 (wr_rg _) (fun hq => ?_) (fun hq => ?_)
                  · replace H := H.1 hq
                    refine f_int 0 rfl rfl ?_
                    exact f_zret rfl (by unfold rg; decide) (Or.inl rfl) H
                  · replace H := H.2 hq
                    refine w_st (fun _ => rfl) ?_
                    refine w_st (fun _ => rfl) ?_
                    refine g_284_32 rfl ?_
                    refine w_st (fun _ => rfl) ?_
                    refine f_ld ir_303 rfl H.1 ?_
                    replace H := H.2
                    refine w_st (fun _ => rfl) ?_
                    refine g_284_33 rfl ?_
                    refine w_st (fun _ => rfl) ?_
                    refine f_ld ir_304 rfl H.1 ?_
                    replace H := H.2
                    refine k_VK (as := [iv (rd m_119 303 (Int.toNat x1_119)), iv (rd m_119 304 (Int.toNat x1_119))]) rfl mg_190 rfl rfl (by decide) rfl rfl H (fun m152 v152 r_v152 H => ?_)
                    obtain ⟨R_177, H, HJ_177⟩ := H
                    have tl_177 : ∀ (m_177 : Mm), R_177 m_177 → mm_W d mc_190 177 [some (.ref 284), some (iv x1_119), g2_119] [] (fm m_177) (XK Q) := by
                      intro m_177  hR
                      have H := HJ_177 m_177  hR
                      refine f_int 1 rfl rfl ?_
                      exact f_zret rfl (by unfold rg; decide) (Or.inr rfl) H
                    refine z_ne rfl r_v152 (fun hq => ?_) (fun hq => ?_)
                    · replace H := H.1 hq
                      exact tl_177 m152  H
                    · replace H := H.2 hq
                      refine w_st (fun _ => rfl) ?_
                      refine w_st (fun _ => rfl) ?_
                      refine g_284_32 rfl ?_
                      refine w_st (fun _ => rfl) ?_
                      refine f_ld ir_303 rfl H.1 ?_
                      replace H := H.2
                      refine w_st (fun _ => rfl) ?_
                      refine g_284_33 rfl ?_
                      refine w_st (fun _ => rfl) ?_
                      refine f_ld ir_304 rfl H.1 ?_
                      replace H := H.2
                      refine k_VK (as := [iv (rd m152 303 (Int.toNat x1_119)), iv (rd m152 304 (Int.toNat x1_119))]) rfl mg_190 rfl rfl (by decide) rfl rfl H (fun m171 v171 r_v171 H => ?_)
                      refine z_eq rfl r_v171 (fun hq => ?_) (fun hq => ?_)
                      · replace H := H.1 hq
                        refine f_int 3 rfl rfl ?_
                        refine w_st (fun _ => rfl) ?_
                        refine g_284_19 rfl ?_
                        refine f_mul rfl ?_
                        obtain ⟨z2_185, e_z2_185⟩ : ∃ q : Int, q = (wr (3 * (rd m171 284 19))) := ⟨_, rfl⟩
                        have r_z2_185 : rg z2_185 := by rw [e_z2_185]; exact (wr_rg _)
                        replace H := H z2_185 e_z2_185
                        refine f_nm e_z2_185 ?_
                        refine w_st (ls2 := [some (.ref 284), some (iv x1_119), some (iv z2_185)]) (fun _ => rfl) ?_
                        obtain ⟨I_186, mu_186, H0_186, HB_186⟩ := H
                        have lp_186 : ∀ (z : Nat) (x2_186 : Int) , mu_186 x2_186 < z → rg x2_186 → I_186 x2_186 → mm_W d mc_190 186 [some (.ref 284), some (iv x1_119), some (iv x2_186)] [] (fm m171) (XK Q) := by
                          intro z
                          induction z with
                          | zero => intro x2_186 hz; exact absurd hz (Nat.not_lt_zero _)
                          | succ z ih_186 =>
                            intro x2_186 hz_186 r_x2_186 hI
                            have H := HB_186 x2_186 r_x2_186 hI
                            refine w_st (fun _ => rfl) ?_
                            refine w_st (fun _ => rfl) ?_
                            refine b_ge rfl r_x2_186 r_x1_119 (fun hq => ?_) (fun hq => ?_)
                            · replace H := H.1 hq
                              obtain ⟨z1_229, e_z1_229⟩ : ∃ q : Int, q = wr (x1_119 + 1) := ⟨_, rfl⟩
                              have r_z1_229 : rg z1_229 := by rw [e_z1_229]; exact wr_rg _
                              replace H := H z1_229 e_z1_229
                              refine f_iinc (ls2 := [some (.ref 284), some (iv z1_229), some (iv x2_186)]) 1 rfl rfl rfl e_z1_229 rfl ?_
                              refine w_st (fun _ => rfl) ?_
                              exact ih_119 z1_229 m171 (some (iv x2_186)) (Nat.lt_of_lt_of_le H.2 (Nat.le_of_lt_succ hz_119)) r_z1_229 H.1
                            · replace H := H.2 hq
                              refine w_st (fun _ => rfl) ?_
                              refine g_284_32 rfl ?_
                              refine w_st (fun _ => rfl) ?_
                              refine f_ld ir_303 rfl H.1 ?_
                              replace H := H.2
                              refine w_st (fun _ => rfl) ?_
                              refine g_284_32 rfl ?_
                              refine w_st (fun _ => rfl) ?_
                              refine f_ld ir_303 rfl H.1 ?_
                              replace H := H.2
                              obtain ⟨R_223, H, HJ_223⟩ := H
                              have tl_223 : R_223 → mm_W d mc_190 223 [some (.ref 284), some (iv x1_119), some (iv x2_186)] [] (fm m171) (XK Q) := by
                                intro   hR
                                have H := HJ_223   hR
                                obtain ⟨z2_223, e_z2_223⟩ : ∃ q : Int, q = wr (x2_186 + 1) := ⟨_, rfl⟩
                                have r_z2_223 : rg z2_223 := by rw [e_z2_223]; exact wr_rg _
                                replace H := H z2_223 e_z2_223
                                refine f_iinc (ls2 := [some (.ref 284), some (iv x1_119), some (iv z2_223)]) 1 rfl rfl rfl e_z2_223 rfl ?_
                                refine w_st (fun _ => rfl) ?_
                                exact ih_186 z2_223 (Nat.lt_of_lt_of_le H.2 (Nat.le_of_lt_succ hz_186)) r_z2_223 H.1
                              refine b_ne rfl (rd_rg _ _ _) (rd_rg _ _ _) (fun hq => ?_) (fun hq => ?_)
                              · replace H := H.1 hq
                                exact tl_223   H
                              · replace H := H.2 hq
                                refine w_st (fun _ => rfl) ?_
                                refine g_284_33 rfl ?_
                                refine w_st (fun _ => rfl) ?_
                                refine f_ld ir_304 rfl H.1 ?_
                                replace H := H.2
                                refine w_st (fun _ => rfl) ?_
                                refine g_284_33 rfl ?_
                                refine w_st (fun _ => rfl) ?_
                                refine f_ld ir_304 rfl H.1 ?_
                                replace H := H.2
                                refine b_ne rfl (rd_rg _ _ _) (rd_rg _ _ _) (fun hq => ?_) (fun hq => ?_)
                                · replace H := H.1 hq
                                  exact tl_223   H
                                · replace H := H.2 hq
                                  refine f_int 1 rfl rfl ?_
                                  exact f_zret rfl (by unfold rg; decide) (Or.inr rfl) H
                        exact lp_186 _ z2_185 (Nat.lt_succ_self _) r_z2_185 H0_186
                      · replace H := H.2 hq
                        exact tl_177 m171  H
              exact lp_119 _ z1_118 m_64 none (Nat.lt_succ_self _) r_z1_118 H0_119
            · replace H := H.2 hq
              refine w_st (fun _ => rfl) ?_
              refine w_st (fun _ => rfl) ?_
              refine g_284_28 rfl ?_
              refine w_st (fun _ => rfl) ?_
              refine f_ld ir_299 rfl H.1 ?_
              replace H := H.2
              refine w_st (fun _ => rfl) ?_
              refine g_284_29 rfl ?_
              refine w_st (fun _ => rfl) ?_
              refine f_ld ir_300 rfl H.1 ?_
              replace H := H.2
              refine k_VK (as := [iv (rd m_64 299 (Int.toNat x1_64)), iv (rd m_64 300 (Int.toNat x1_64))]) rfl mg_190 rfl rfl (by decide) rfl rfl H (fun m98 v98 r_v98 H => ?_)
              refine z_eq rfl r_v98 (fun hq => ?_) (fun hq => ?_)
              · replace H := H.1 hq
                obtain ⟨z1_106, e_z1_106⟩ : ∃ q : Int, q = wr (x1_64 + 1) := ⟨_, rfl⟩
                have r_z1_106 : rg z1_106 := by rw [e_z1_106]; exact wr_rg _
                replace H := H z1_106 e_z1_106
                refine f_iinc (ls2 := [some (.ref 284), some (iv z1_106), none]) 1 rfl rfl rfl e_z1_106 rfl ?_
                refine w_st (fun _ => rfl) ?_
                exact ih_64 z1_106 m98 (Nat.lt_of_lt_of_le H.2 (Nat.le_of_lt_succ hz_64)) r_z1_106 H.1
              · replace H := H.2 hq
                refine f_int 1 rfl rfl ?_
                exact f_zret rfl (by unfold rg; decide) (Or.inr rfl) H
        exact lp_64 _ z1_63 m_8 (Nat.lt_succ_self _) r_z1_63 H0_64
      · replace H := H.2 hq
        refine w_st (fun _ => rfl) ?_
        refine w_st (fun _ => rfl) ?_
        refine g_284_25 rfl ?_
        refine w_st (fun _ => rfl) ?_
        refine f_ld ir_296 rfl H.1 ?_
        replace H := H.2
        refine w_st (fun _ => rfl) ?_
        refine g_284_26 rfl ?_
        refine w_st (fun _ => rfl) ?_
        refine f_ld ir_297 rfl H.1 ?_
        replace H := H.2
        refine k_VK (as := [iv (rd m_8 296 (Int.toNat x1_8)), iv (rd m_8 297 (Int.toNat x1_8))]) rfl mg_190 rfl rfl (by decide) rfl rfl H (fun m42 v42 r_v42 H => ?_)
        refine z_eq rfl r_v42 (fun hq => ?_) (fun hq => ?_)
        · replace H := H.1 hq
          obtain ⟨z1_50, e_z1_50⟩ : ∃ q : Int, q = wr (x1_8 + 1) := ⟨_, rfl⟩
          have r_z1_50 : rg z1_50 := by rw [e_z1_50]; exact wr_rg _
          replace H := H z1_50 e_z1_50
          refine f_iinc (ls2 := [some (.ref 284), some (iv z1_50), none]) 1 rfl rfl rfl e_z1_50 rfl ?_
          refine w_st (fun _ => rfl) ?_
          exact ih_8 z1_50 m42 (Nat.lt_of_lt_of_le H.2 (Nat.le_of_lt_succ hz_8)) r_z1_50 H.1
        · replace H := H.2 hq
          refine f_int 1 rfl rfl ?_
          exact f_zret rfl (by unfold rg; decide) (Or.inr rfl) H
  exact lp_8 _ z1_7 m (Nat.lt_succ_self _) r_z1_7 H0_8
/-- TippedCratesModel.roomFor(II)V -/
def P_191 (d : Nat) (m : Mm) (x1 : Int) (x2 : Int) (Q : Mm → Prop) : Prop :=
  (∃ R_10 : Mm → Prop,
    ((¬ x1 = x2 → R_10 m) ∧
    (x1 = x2 → CV d 181 [.ref 284, iv 2] m (fun m7 =>
      R_10 m7))) ∧
    (∀ (m_10 : Mm), R_10 m_10 →
    (∃ R_21 : Mm → Prop,
      ((¬ (rd m_10 284 13) = 0 → R_21 m_10) ∧
      ((rd m_10 284 13) = 0 → CV d 183 [.ref 284] m_10 (fun m18 =>
        R_21 m18))) ∧
      (∀ (m_21 : Mm), R_21 m_21 →
      Q m_21))))
set_option maxRecDepth 20000 in
theorem br_191 {d : Nat} {m : Mm} {x1 : Int} {x2 : Int} {Q : Mm → Prop} (r_x1 : rg x1) (r_x2 : rg x2) (H : P_191 d m x1 x2 Q) : CV (d + 1) 191 [.ref 284, iv x1, iv x2] m Q := by
  unfold P_191 at H
  refine CV_of rfl ?_
  show mm_W d mc_191 0 [some (.ref 284), some (iv x1), some (iv x2)] [] (fm m) (XV Q)
  refine w_st (fun _ => rfl) ?_
  refine w_st (fun _ => rfl) ?_
  obtain ⟨R_10, H, HJ_10⟩ := H
  have tl_10 : ∀ (m_10 : Mm), R_10 m_10 → mm_W d mc_191 10 [some (.ref 284), some (iv x1), some (iv x2)] [] (fm m_10) (XV Q) := by
    intro m_10  hR
    have H := HJ_10 m_10  hR
    refine w_st (fun _ => rfl) ?_
    refine g_284_13 rfl ?_
    obtain ⟨R_21, H, HJ_21⟩ := H
    have tl_21 : ∀ (m_21 : Mm), R_21 m_21 → mm_W d mc_191 21 [some (.ref 284), some (iv x1), some (iv x2)] [] (fm m_21) (XV Q) := by
      intro m_21  hR
      have H := HJ_21 m_21  hR
      exact f_ret rfl H
    refine z_ne rfl (rd_rg _ _ _) (fun hq => ?_) (fun hq => ?_)
    · replace H := H.1 hq
      exact tl_21 m_10  H
    · replace H := H.2 hq
      refine w_st (fun _ => rfl) ?_
      refine k_VV (as := []) rfl mg_191 rfl rfl (by decide) rfl rfl H (fun m18 H => ?_)
      exact tl_21 m18  H
  refine b_ne rfl r_x1 r_x2 (fun hq => ?_) (fun hq => ?_)
  · replace H := H.1 hq
    exact tl_10 m  H
  · replace H := H.2 hq
    refine w_st (fun _ => rfl) ?_
    refine f_int 2 rfl rfl ?_
    refine k_VV (as := [iv 2]) rfl mg_191 rfl rfl (by decide) rfl rfl H (fun m7 H => ?_)
    exact tl_10 m7  H
/-- TippedCratesModel.tellOne()V -/
def P_192 (d : Nat) (m : Mm)  (Q : Mm → Prop) : Prop :=
  (((0 : Int) ≤ (rd m 284 11) ∧ (rd m 284 11) < 403) ∧ (∃ R_411 : Mm → Prop,
    (((rd m 287 (Int.toNat (rd m 284 11))) = 20 → CV d 183 [.ref 284] m (fun m61 =>
      CK d 193 [.ref 284, iv 2, iv 5] m61 (fun m75 v75 =>
      (((0 : Int) ≤ (rd m61 284 19) ∧ (rd m61 284 19) < 2) ∧ (∀ m78 : Mm, m78 = wt m75 293 (Int.toNat (rd m61 284 19)) v75 → CK d 193 [.ref 284, iv 2, iv 5] m78 (fun m90 v90 =>
      (((0 : Int) ≤ (rd m78 284 19) ∧ (rd m78 284 19) < 2) ∧ (∀ m93 : Mm, m93 = wt m90 294 (Int.toNat (rd m78 284 19)) v90 → CV d 184 [.ref 284, iv 4] m93 (fun m96 =>
      R_411 m96))))))))) ∧
    ((rd m 287 (Int.toNat (rd m 284 11))) = 21 → (((0 : Int) ≤ (rd m 284 19) ∧ (rd m 284 19) < 2) ∧ CV d 191 [.ref 284, iv (rd m 295 (Int.toNat (rd m 284 19))), iv 8] m (fun m114 =>
        (((rd m114 284 13) ≤ 0 → (((0 : Int) ≤ (rd m114 284 19) ∧ (rd m114 284 19) < 2) ∧ (∀ z1_142 : Int, z1_142 = (wr ((wr (8 * (rd m114 284 19))) + (rd m114 295 (Int.toNat (rd m114 284 19))))) → CK d 193 [.ref 284, iv 0, iv 4] m114 (fun m151 v151 =>
          (((0 : Int) ≤ z1_142 ∧ z1_142 < 16) ∧ (∀ m154 : Mm, m154 = wt m151 296 (Int.toNat z1_142) v151 → CK d 193 [.ref 284, iv 0, iv 4] m154 (fun m163 v163 =>
          (((0 : Int) ≤ z1_142 ∧ z1_142 < 16) ∧ (∀ m166 : Mm, m166 = wt m163 297 (Int.toNat z1_142) v163 → CV d 184 [.ref 284, iv 4] m166 (fun m169 =>
          ((¬ (rd m169 284 13) = 0 → R_411 m169) ∧
          ((rd m169 284 13) = 0 → (((0 : Int) ≤ (rd m169 284 19) ∧ (rd m169 284 19) < 2) ∧ (((0 : Int) ≤ (rd m169 284 19) ∧ (rd m169 284 19) < 2) ∧ (∀ m191 : Mm, m191 = wt m169 295 (Int.toNat (rd m169 284 19)) (wr ((rd m169 295 (Int.toNat (rd m169 284 19))) + 1)) → R_411 m191))))))))))))))) ∧
        (¬ (rd m114 284 13) ≤ 0 → Q m114))))) ∧
    ((rd m 287 (Int.toNat (rd m 284 11))) = 22 → (((0 : Int) ≤ (rd m 284 19) ∧ (rd m 284 19) < 2) ∧ CV d 191 [.ref 284, iv (rd m 298 (Int.toNat (rd m 284 19))), iv 10] m (fun m207 =>
          (((rd m207 284 13) ≤ 0 → (((0 : Int) ≤ (rd m207 284 19) ∧ (rd m207 284 19) < 2) ∧ (∀ z1_235 : Int, z1_235 = (wr ((wr (10 * (rd m207 284 19))) + (rd m207 298 (Int.toNat (rd m207 284 19))))) → CK d 193 [.ref 284, iv 0, iv 4] m207 (fun m244 v244 =>
            (((0 : Int) ≤ z1_235 ∧ z1_235 < 20) ∧ (∀ m247 : Mm, m247 = wt m244 299 (Int.toNat z1_235) v244 → CK d 193 [.ref 284, iv 0, iv 4] m247 (fun m256 v256 =>
            (((0 : Int) ≤ z1_235 ∧ z1_235 < 20) ∧ (∀ m259 : Mm, m259 = wt m256 300 (Int.toNat z1_235) v256 → CK d 193 [.ref 284, iv 0, iv 9] m259 (fun m269 v269 =>
            (((0 : Int) ≤ z1_235 ∧ z1_235 < 20) ∧ (∀ m272 : Mm, m272 = wt m269 301 (Int.toNat z1_235) v269 → CV d 184 [.ref 284, iv 4] m272 (fun m275 =>
            ((¬ (rd m275 284 13) = 0 → R_411 m275) ∧
            ((rd m275 284 13) = 0 → (((0 : Int) ≤ (rd m275 284 19) ∧ (rd m275 284 19) < 2) ∧ (((0 : Int) ≤ (rd m275 284 19) ∧ (rd m275 284 19) < 2) ∧ (∀ m297 : Mm, m297 = wt m275 298 (Int.toNat (rd m275 284 19)) (wr ((rd m275 298 (Int.toNat (rd m275 284 19))) + 1)) → R_411 m297)))))))))))))))))) ∧
          (¬ (rd m207 284 13) ≤ 0 → Q m207))))) ∧
    ((rd m 287 (Int.toNat (rd m 284 11))) = 23 → (((0 : Int) ≤ (rd m 284 19) ∧ (rd m 284 19) < 2) ∧ CV d 191 [.ref 284, iv (rd m 302 (Int.toNat (rd m 284 19))), iv 3] m (fun m312 =>
            ((¬ (rd m312 284 13) = 0 → R_411 m312) ∧
            ((rd m312 284 13) = 0 → CV d 194 [.ref 284] m312 (fun m323 =>
              R_411 m323)))))) ∧
    ((rd m 287 (Int.toNat (rd m 284 11))) = 24 → (((0 : Int) ≤ (rd m 284 11) ∧ (rd m 284 11) < 403) ∧ (∀ z1_370 : Int, z1_370 = (wr ((rd m 287 (Int.toNat (rd m 284 11))) - 24)) → (∃ R_394 : Mm → Prop,
              (∃ R_389 : Prop,
              ((z1_370 < 0 → R_389) ∧
              (¬ z1_370 < 0 → (((0 : Int) ≤ (rd m 284 11) ∧ (rd m 284 11) < 403) ∧ (((rd m 287 (Int.toNat (rd m 284 11))) ≤ 27 → R_394 m) ∧
                (¬ (rd m 287 (Int.toNat (rd m 284 11))) ≤ 27 → R_389))))) ∧
              (R_389 →
              CV d 181 [.ref 284, iv 1] m (fun m391 =>
                R_394 m391))) ∧
              (∀ (m_394 : Mm), R_394 m_394 →
              (((rd m_394 284 13) ≤ 0 → CV d 183 [.ref 284] m_394 (fun m403 =>
                  CV d 195 [.ref 284, iv z1_370] m403 (fun m408 =>
                  R_411 m408))) ∧
                (¬ (rd m_394 284 13) ≤ 0 → Q m_394))))))) ∧
    ((rd m 287 (Int.toNat (rd m 284 11))) = 25 → (((0 : Int) ≤ (rd m 284 11) ∧ (rd m 284 11) < 403) ∧ (∀ z1_370 : Int, z1_370 = (wr ((rd m 287 (Int.toNat (rd m 284 11))) - 24)) → (∃ R_394 : Mm → Prop,
                (∃ R_389 : Prop,
                ((z1_370 < 0 → R_389) ∧
                (¬ z1_370 < 0 → (((0 : Int) ≤ (rd m 284 11) ∧ (rd m 284 11) < 403) ∧ (((rd m 287 (Int.toNat (rd m 284 11))) ≤ 27 → R_394 m) ∧
                  (¬ (rd m 287 (Int.toNat (rd m 284 11))) ≤ 27 → R_389))))) ∧
                (R_389 →
                CV d 181 [.ref 284, iv 1] m (fun m391 =>
                  R_394 m391))) ∧
                (∀ (m_394 : Mm), R_394 m_394 →
                (((rd m_394 284 13) ≤ 0 → CV d 183 [.ref 284] m_394 (fun m403 =>
                    CV d 195 [.ref 284, iv z1_370] m403 (fun m408 =>
                    R_411 m408))) ∧
                  (¬ (rd m_394 284 13) ≤ 0 → Q m_394))))))) ∧
    ((rd m 287 (Int.toNat (rd m 284 11))) = 26 → (((0 : Int) ≤ (rd m 284 11) ∧ (rd m 284 11) < 403) ∧ (∀ z1_370 : Int, z1_370 = (wr ((rd m 287 (Int.toNat (rd m 284 11))) - 24)) → (∃ R_394 : Mm → Prop,
                  (∃ R_389 : Prop,
                  ((z1_370 < 0 → R_389) ∧
                  (¬ z1_370 < 0 → (((0 : Int) ≤ (rd m 284 11) ∧ (rd m 284 11) < 403) ∧ (((rd m 287 (Int.toNat (rd m 284 11))) ≤ 27 → R_394 m) ∧
                    (¬ (rd m 287 (Int.toNat (rd m 284 11))) ≤ 27 → R_389))))) ∧
                  (R_389 →
                  CV d 181 [.ref 284, iv 1] m (fun m391 =>
                    R_394 m391))) ∧
                  (∀ (m_394 : Mm), R_394 m_394 →
                  (((rd m_394 284 13) ≤ 0 → CV d 183 [.ref 284] m_394 (fun m403 =>
                      CV d 195 [.ref 284, iv z1_370] m403 (fun m408 =>
                      R_411 m408))) ∧
                    (¬ (rd m_394 284 13) ≤ 0 → Q m_394))))))) ∧
    ((rd m 287 (Int.toNat (rd m 284 11))) = 27 → (((0 : Int) ≤ (rd m 284 11) ∧ (rd m 284 11) < 403) ∧ (∀ z1_370 : Int, z1_370 = (wr ((rd m 287 (Int.toNat (rd m 284 11))) - 24)) → (∃ R_394 : Mm → Prop,
                    (∃ R_389 : Prop,
                    ((z1_370 < 0 → R_389) ∧
                    (¬ z1_370 < 0 → (((0 : Int) ≤ (rd m 284 11) ∧ (rd m 284 11) < 403) ∧ (((rd m 287 (Int.toNat (rd m 284 11))) ≤ 27 → R_394 m) ∧
                      (¬ (rd m 287 (Int.toNat (rd m 284 11))) ≤ 27 → R_389))))) ∧
                    (R_389 →
                    CV d 181 [.ref 284, iv 1] m (fun m391 =>
                      R_394 m391))) ∧
                    (∀ (m_394 : Mm), R_394 m_394 →
                    (((rd m_394 284 13) ≤ 0 → CV d 183 [.ref 284] m_394 (fun m403 =>
                        CV d 195 [.ref 284, iv z1_370] m403 (fun m408 =>
                        R_411 m408))) ∧
                      (¬ (rd m_394 284 13) ≤ 0 → Q m_394))))))) ∧
    ((rd m 287 (Int.toNat (rd m 284 11))) = 28 → CV d 183 [.ref 284] m (fun m330 =>
                      CK d 193 [.ref 284, iv 0, iv 9999] m330 (fun m346 v346 =>
                      (((0 : Int) ≤ (rd m330 284 19) ∧ (rd m330 284 19) < 2) ∧ (∀ m349 : Mm, m349 = wt m346 306 (Int.toNat (rd m330 284 19)) v346 → CV d 184 [.ref 284, iv 4] m349 (fun m352 =>
                      R_411 m352)))))) ∧
    ((rd m 287 (Int.toNat (rd m 284 11))) < 20 ∨ 28 < (rd m 287 (Int.toNat (rd m 284 11))) → (((0 : Int) ≤ (rd m 284 11) ∧ (rd m 284 11) < 403) ∧ (∀ z1_370 : Int, z1_370 = (wr ((rd m 287 (Int.toNat (rd m 284 11))) - 24)) → (∃ R_394 : Mm → Prop,
                      (∃ R_389 : Prop,
                      ((z1_370 < 0 → R_389) ∧
                      (¬ z1_370 < 0 → (((0 : Int) ≤ (rd m 284 11) ∧ (rd m 284 11) < 403) ∧ (((rd m 287 (Int.toNat (rd m 284 11))) ≤ 27 → R_394 m) ∧
                        (¬ (rd m 287 (Int.toNat (rd m 284 11))) ≤ 27 → R_389))))) ∧
                      (R_389 →
                      CV d 181 [.ref 284, iv 1] m (fun m391 =>
                        R_394 m391))) ∧
                      (∀ (m_394 : Mm), R_394 m_394 →
                      (((rd m_394 284 13) ≤ 0 → CV d 183 [.ref 284] m_394 (fun m403 =>
                          CV d 195 [.ref 284, iv z1_370] m403 (fun m408 =>
                          R_411 m408))) ∧
                        (¬ (rd m_394 284 13) ≤ 0 → Q m_394)))))))) ∧
    (∀ (m_411 : Mm), R_411 m_411 →
    Q m_411)))
set_option maxRecDepth 20000 in
theorem br_192 {d : Nat} {m : Mm}  {Q : Mm → Prop}  (H : P_192 d m  Q) : CV (d + 1) 192 [.ref 284] m Q := by
  unfold P_192 at H
  refine CV_of rfl ?_
  show mm_W d mc_192 0 [some (.ref 284), none] [] (fm m) (XV Q)
  refine w_st (fun _ => rfl) ?_
  refine g_284_5 rfl ?_
  refine w_st (fun _ => rfl) ?_
  refine g_284_11 rfl ?_
  refine f_ld ir_287 rfl H.1 ?_
  replace H := H.2
  obtain ⟨R_411, H, HJ_411⟩ := H
  have tl_411 : ∀ (m_411 : Mm) (g1_411 : Option Value), R_411 m_411 → mm_W d mc_192 411 [some (.ref 284), g1_411] [] (fm m_411) (XV Q) := by
    intro m_411 g1_411  hR
    have H := HJ_411 m_411  hR
    exact f_ret rfl H
  by_cases e20_9 : (rd m 287 (Int.toNat (rd m 284 11))) = 20
  · refine f_tsw 20 rfl (rd_rg _ _ _) e20_9 rfl rfl ?_
    replace H := H.1 e20_9
    refine w_st (fun _ => rfl) ?_
    refine k_VV (as := []) rfl mg_192 rfl rfl (by decide) rfl rfl H (fun m61 H => ?_)
    refine w_st (fun _ => rfl) ?_
    refine g_284_22 rfl ?_
    refine w_st (fun _ => rfl) ?_
    refine g_284_19 rfl ?_
    refine w_st (fun _ => rfl) ?_
    refine f_int 2 rfl rfl ?_
    refine f_int 5 rfl rfl ?_
    refine k_VK (as := [iv 2, iv 5]) rfl mg_192 rfl rfl (by decide) rfl rfl H (fun m75 v75 r_v75 H => ?_)
    obtain ⟨m78, e_m78⟩ : ∃ q : Mm, q = wt m75 293 (Int.toNat (rd m61 284 19)) v75 := ⟨_, rfl⟩
    refine f_st ir_293 rfl H.1 e_m78 ?_
    replace H := H.2 m78 e_m78
    refine w_st (fun _ => rfl) ?_
    refine g_284_23 rfl ?_
    refine w_st (fun _ => rfl) ?_
    refine g_284_19 rfl ?_
    refine w_st (fun _ => rfl) ?_
    refine f_int 2 rfl rfl ?_
    refine f_int 5 rfl rfl ?_
    refine k_VK (as := [iv 2, iv 5]) rfl mg_192 rfl rfl (by decide) rfl rfl H (fun m90 v90 r_v90 H => ?_)
    obtain ⟨m93, e_m93⟩ : ∃ q : Mm, q = wt m90 294 (Int.toNat (rd m78 284 19)) v90 := ⟨_, rfl⟩
    refine f_st ir_294 rfl H.1 e_m93 ?_
    replace H := H.2 m93 e_m93
    refine w_st (fun _ => rfl) ?_
    refine f_int 4 rfl rfl ?_
    refine k_VV (as := [iv 4]) rfl mg_192 rfl rfl (by decide) rfl rfl H (fun m96 H => ?_)
    refine w_st (fun _ => rfl) ?_
    exact tl_411 m96 none  H
  · replace H := H.2
    by_cases e21_9 : (rd m 287 (Int.toNat (rd m 284 11))) = 21
    · refine f_tsw 21 rfl (rd_rg _ _ _) e21_9 rfl rfl ?_
      replace H := H.1 e21_9
      refine w_st (fun _ => rfl) ?_
      refine w_st (fun _ => rfl) ?_
      refine g_284_24 rfl ?_
      refine w_st (fun _ => rfl) ?_
      refine g_284_19 rfl ?_
      refine f_ld ir_295 rfl H.1 ?_
      replace H := H.2
      refine f_int 8 rfl rfl ?_
      refine k_VV (as := [iv (rd m 295 (Int.toNat (rd m 284 19))), iv 8]) rfl mg_192 rfl rfl (by decide) rfl rfl H (fun m114 H => ?_)
      refine w_st (fun _ => rfl) ?_
      refine g_284_13 rfl ?_
      refine z_le rfl (rd_rg _ _ _) (fun hq => ?_) (fun hq => ?_)
      · replace H := H.1 hq
        refine f_int 8 rfl rfl ?_
        refine w_st (fun _ => rfl) ?_
        refine g_284_19 rfl ?_
        refine f_mul rfl ?_
        refine w_st (fun _ => rfl) ?_
        refine g_284_24 rfl ?_
        refine w_st (fun _ => rfl) ?_
        refine g_284_19 rfl ?_
        refine f_ld ir_295 rfl H.1 ?_
        replace H := H.2
        refine f_add rfl ?_
        obtain ⟨z1_142, e_z1_142⟩ : ∃ q : Int, q = (wr ((wr (8 * (rd m114 284 19))) + (rd m114 295 (Int.toNat (rd m114 284 19))))) := ⟨_, rfl⟩
        have r_z1_142 : rg z1_142 := by rw [e_z1_142]; exact (wr_rg _)
        replace H := H z1_142 e_z1_142
        refine f_nm e_z1_142 ?_
        refine w_st (ls2 := [some (.ref 284), some (iv z1_142)]) (fun _ => rfl) ?_
        refine w_st (fun _ => rfl) ?_
        refine g_284_25 rfl ?_
        refine w_st (fun _ => rfl) ?_
        refine w_st (fun _ => rfl) ?_
        refine f_int 0 rfl rfl ?_
        refine f_int 4 rfl rfl ?_
        refine k_VK (as := [iv 0, iv 4]) rfl mg_192 rfl rfl (by decide) rfl rfl H (fun m151 v151 r_v151 H => ?_)
        obtain ⟨m154, e_m154⟩ : ∃ q : Mm, q = wt m151 296 (Int.toNat z1_142) v151 := ⟨_, rfl⟩
        refine f_st ir_296 rfl H.1 e_m154 ?_
        replace H := H.2 m154 e_m154
        refine w_st (fun _ => rfl) ?_
        refine g_284_26 rfl ?_
        refine w_st (fun _ => rfl) ?_
        refine w_st (fun _ => rfl) ?_
        refine f_int 0 rfl rfl ?_
        refine f_int 4 rfl rfl ?_
        refine k_VK (as := [iv 0, iv 4]) rfl mg_192 rfl rfl (by decide) rfl rfl H (fun m163 v163 r_v163 H => ?_)
        obtain ⟨m166, e_m166⟩ : ∃ q : Mm, q = wt m163 297 (Int.toNat z1_142) v163 := ⟨_, rfl⟩
        refine f_st ir_297 rfl H.1 e_m166 ?_
        replace H := H.2 m166 e_m166
        refine w_st (fun _ => rfl) ?_
        refine f_int 4 rfl rfl ?_
        refine k_VV (as := [iv 4]) rfl mg_192 rfl rfl (by decide) rfl rfl H (fun m169 H => ?_)
        refine w_st (fun _ => rfl) ?_
        refine g_284_13 rfl ?_
        refine z_ne rfl (rd_rg _ _ _) (fun hq => ?_) (fun hq => ?_)
        · replace H := H.1 hq
          exact tl_411 m169 (some (iv z1_142))  H
        · replace H := H.2 hq
          refine w_st (fun _ => rfl) ?_
          refine g_284_24 rfl ?_
          refine w_st (fun _ => rfl) ?_
          refine g_284_19 rfl ?_
          refine w_st (fun _ => rfl) ?_
          refine f_ld ir_295 rfl H.1 ?_
          replace H := H.2
          refine f_int 1 rfl rfl ?_
          refine f_add rfl ?_
          obtain ⟨m191, e_m191⟩ : ∃ q : Mm, q = wt m169 295 (Int.toNat (rd m169 284 19)) (wr ((rd m169 295 (Int.toNat (rd m169 284 19))) + 1)) := ⟨_, rfl⟩
          refine f_st ir_295 rfl H.1 e_m191 ?_
          replace H := H.2 m191 e_m191
          refine w_st (fun _ => rfl) ?_
          exact tl_411 m191 (some (iv z1_142))  H
      · replace H := H.2 hq
        exact f_ret rfl H
    · replace H := H.2
      by_cases e22_9 : (rd m 287 (Int.toNat (rd m 284 11))) = 22
      · refine f_tsw 22 rfl (rd_rg _ _ _) e22_9 rfl rfl ?_
        replace H := H.1 e22_9
        refine w_st (fun _ => rfl) ?_
        refine w_st (fun _ => rfl) ?_
        refine g_284_27 rfl ?_
        refine w_st (fun _ => rfl) ?_
        refine g_284_19 rfl ?_
        refine f_ld ir_298 rfl H.1 ?_
        replace H := H.2
        refine f_int 10 rfl rfl ?_
        refine k_VV (as := [iv (rd m 298 (Int.toNat (rd m 284 19))), iv 10]) rfl mg_192 rfl rfl (by decide) rfl rfl H (fun m207 H => ?_)
        refine w_st (fun _ => rfl) ?_
        refine g_284_13 rfl ?_
        refine z_le rfl (rd_rg _ _ _) (fun hq => ?_) (fun hq => ?_)
        · replace H := H.1 hq
          refine f_int 10 rfl rfl ?_
          refine w_st (fun _ => rfl) ?_
          refine g_284_19 rfl ?_
          refine f_mul rfl ?_
          refine w_st (fun _ => rfl) ?_
          refine g_284_27 rfl ?_
          refine w_st (fun _ => rfl) ?_
          refine g_284_19 rfl ?_
          refine f_ld ir_298 rfl H.1 ?_
          replace H := H.2
          refine f_add rfl ?_
          obtain ⟨z1_235, e_z1_235⟩ : ∃ q : Int, q = (wr ((wr (10 * (rd m207 284 19))) + (rd m207 298 (Int.toNat (rd m207 284 19))))) := ⟨_, rfl⟩
          have r_z1_235 : rg z1_235 := by rw [e_z1_235]; exact (wr_rg _)
          replace H := H z1_235 e_z1_235
          refine f_nm e_z1_235 ?_
          refine w_st (ls2 := [some (.ref 284), some (iv z1_235)]) (fun _ => rfl) ?_
          refine w_st (fun _ => rfl) ?_
          refine g_284_28 rfl ?_
          refine w_st (fun _ => rfl) ?_
          refine w_st (fun _ => rfl) ?_
          refine f_int 0 rfl rfl ?_
          refine f_int 4 rfl rfl ?_
          refine k_VK (as := [iv 0, iv 4]) rfl mg_192 rfl rfl (by decide) rfl rfl H (fun m244 v244 r_v244 H => ?_)
          obtain ⟨m247, e_m247⟩ : ∃ q : Mm, q = wt m244 299 (Int.toNat z1_235) v244 := ⟨_, rfl⟩
          refine f_st ir_299 rfl H.1 e_m247 ?_
          replace H := H.2 m247 e_m247
          refine w_st (fun _ => rfl) ?_
          refine g_284_29 rfl ?_
          refine w_st (fun _ => rfl) ?_
          refine w_st (fun _ => rfl) ?_
          refine f_int 0 rfl rfl ?_
          refine f_int 4 rfl rfl ?_
          refine k_VK (as := [iv 0, iv 4]) rfl mg_192 rfl rfl (by decide) rfl rfl H (fun m256 v256 r_v256 H => ?_)
          obtain ⟨m259, e_m259⟩ : ∃ q : Mm, q = wt m256 300 (Int.toNat z1_235) v256 := ⟨_, rfl⟩
          refine f_st ir_300 rfl H.1 e_m259 ?_
          replace H := H.2 m259 e_m259
          refine w_st (fun _ => rfl) ?_
          refine g_284_30 rfl ?_
          refine w_st (fun _ => rfl) ?_
          refine w_st (fun _ => rfl) ?_
          refine f_int 0 rfl rfl ?_
          refine f_int 9 rfl rfl ?_
          refine k_VK (as := [iv 0, iv 9]) rfl mg_192 rfl rfl (by decide) rfl rfl H (fun m269 v269 r_v269 H => ?_)
          obtain ⟨m272, e_m272⟩ : ∃ q : Mm, q = wt m269 301 (Int.toNat z1_235) v269 := ⟨_, rfl⟩
          refine f_st ir_301 rfl H.1 e_m272 ?_
          replace H := H.2 m272 e_m272
          refine w_st (fun _ => rfl) ?_
          refine f_int 4 rfl rfl ?_
          refine k_VV (as := [iv 4]) rfl mg_192 rfl rfl (by decide) rfl rfl H (fun m275 H => ?_)
          refine w_st (fun _ => rfl) ?_
          refine g_284_13 rfl ?_
          refine z_ne rfl (rd_rg _ _ _) (fun hq => ?_) (fun hq => ?_)
          · replace H := H.1 hq
            exact tl_411 m275 (some (iv z1_235))  H
          · replace H := H.2 hq
            refine w_st (fun _ => rfl) ?_
            refine g_284_27 rfl ?_
            refine w_st (fun _ => rfl) ?_
            refine g_284_19 rfl ?_
            refine w_st (fun _ => rfl) ?_
            refine f_ld ir_298 rfl H.1 ?_
            replace H := H.2
            refine f_int 1 rfl rfl ?_
            refine f_add rfl ?_
            obtain ⟨m297, e_m297⟩ : ∃ q : Mm, q = wt m275 298 (Int.toNat (rd m275 284 19)) (wr ((rd m275 298 (Int.toNat (rd m275 284 19))) + 1)) := ⟨_, rfl⟩
            refine f_st ir_298 rfl H.1 e_m297 ?_
            replace H := H.2 m297 e_m297
            refine w_st (fun _ => rfl) ?_
            exact tl_411 m297 (some (iv z1_235))  H
        · replace H := H.2 hq
          exact f_ret rfl H
      · replace H := H.2
        by_cases e23_9 : (rd m 287 (Int.toNat (rd m 284 11))) = 23
        · refine f_tsw 23 rfl (rd_rg _ _ _) e23_9 rfl rfl ?_
          replace H := H.1 e23_9
          refine w_st (fun _ => rfl) ?_
          refine w_st (fun _ => rfl) ?_
          refine g_284_31 rfl ?_
          refine w_st (fun _ => rfl) ?_
          refine g_284_19 rfl ?_
          refine f_ld ir_302 rfl H.1 ?_
          replace H := H.2
          refine f_int 3 rfl rfl ?_
          refine k_VV (as := [iv (rd m 302 (Int.toNat (rd m 284 19))), iv 3]) rfl mg_192 rfl rfl (by decide) rfl rfl H (fun m312 H => ?_)
          refine w_st (fun _ => rfl) ?_
          refine g_284_13 rfl ?_
          refine z_ne rfl (rd_rg _ _ _) (fun hq => ?_) (fun hq => ?_)
          · replace H := H.1 hq
            exact tl_411 m312 none  H
          · replace H := H.2 hq
            refine w_st (fun _ => rfl) ?_
            refine k_VV (as := []) rfl mg_192 rfl rfl (by decide) rfl rfl H (fun m323 H => ?_)
            refine w_st (fun _ => rfl) ?_
            exact tl_411 m323 none  H
        · replace H := H.2
          by_cases e24_9 : (rd m 287 (Int.toNat (rd m 284 11))) = 24
          · refine f_tsw 24 rfl (rd_rg _ _ _) e24_9 rfl rfl ?_
            replace H := H.1 e24_9
            refine w_st (fun _ => rfl) ?_
            refine g_284_5 rfl ?_
            refine w_st (fun _ => rfl) ?_
            refine g_284_11 rfl ?_
            refine f_ld ir_287 rfl H.1 ?_
            replace H := H.2
            refine f_int 24 rfl rfl ?_
            refine f_sub rfl ?_
            obtain ⟨z1_370, e_z1_370⟩ : ∃ q : Int, q = (wr ((rd m 287 (Int.toNat (rd m 284 11))) - 24)) := ⟨_, rfl⟩
            have r_z1_370 : rg z1_370 := by rw [e_z1_370]; exact (wr_rg _)
            replace H := H z1_370 e_z1_370
            refine f_nm e_z1_370 ?_
            refine w_st (ls2 := [some (.ref 284), some (iv z1_370)]) (fun _ => rfl) ?_
            refine w_st (fun _ => rfl) ?_
            obtain ⟨R_394, H, HJ_394⟩ := H
            have tl_394 : ∀ (m_394 : Mm), R_394 m_394 → mm_W d mc_192 394 [some (.ref 284), some (iv z1_370)] [] (fm m_394) (XV Q) := by
              intro m_394  hR
              have H := HJ_394 m_394  hR
              refine w_st (fun _ => rfl) ?_
              refine g_284_13 rfl ?_
              refine z_le rfl (rd_rg _ _ _) (fun hq => ?_) (fun hq => ?_)
              · replace H := H.1 hq
                refine w_st (fun _ => rfl) ?_
                refine k_VV (as := []) rfl mg_192 rfl rfl (by decide) rfl rfl H (fun m403 H => ?_)
                refine w_st (fun _ => rfl) ?_
                refine w_st (fun _ => rfl) ?_
                refine k_VV (as := [iv z1_370]) rfl mg_192 rfl rfl (by decide) rfl rfl H (fun m408 H => ?_)
                exact tl_411 m408 (some (iv z1_370))  H
              · replace H := H.2 hq
                exact f_ret rfl H
            obtain ⟨R_389, H, HJ_389⟩ := H
            have tl_389 : R_389 → mm_W d mc_192 389 [some (.ref 284), some (iv z1_370)] [] (fm m) (XV Q) := by
              intro   hR
              have H := HJ_389   hR
              refine w_st (fun _ => rfl) ?_
              refine f_int 1 rfl rfl ?_
              refine k_VV (as := [iv 1]) rfl mg_192 rfl rfl (by decide) rfl rfl H (fun m391 H => ?_)
              exact tl_394 m391  H
            refine z_lt rfl r_z1_370 (fun hq => ?_) (fun hq => ?_)
            · replace H := H.1 hq
              exact tl_389   H
            · replace H := H.2 hq
              refine w_st (fun _ => rfl) ?_
              refine g_284_5 rfl ?_
              refine w_st (fun _ => rfl) ?_
              refine g_284_11 rfl ?_
              refine f_ld ir_287 rfl H.1 ?_
              replace H := H.2
              refine f_int 27 rfl rfl ?_
              refine b_le rfl (rd_rg _ _ _) (by unfold rg; decide) (fun hq => ?_) (fun hq => ?_)
              · replace H := H.1 hq
                exact tl_394 m  H
              · replace H := H.2 hq
                exact tl_389   H
          · replace H := H.2
            by_cases e25_9 : (rd m 287 (Int.toNat (rd m 284 11))) = 25
            · refine f_tsw 25 rfl (rd_rg _ _ _) e25_9 rfl rfl ?_
              replace H := H.1 e25_9
              refine w_st (fun _ => rfl) ?_
              refine g_284_5 rfl ?_
              refine w_st (fun _ => rfl) ?_
              refine g_284_11 rfl ?_
              refine f_ld ir_287 rfl H.1 ?_
              replace H := H.2
              refine f_int 24 rfl rfl ?_
              refine f_sub rfl ?_
              obtain ⟨z1_370, e_z1_370⟩ : ∃ q : Int, q = (wr ((rd m 287 (Int.toNat (rd m 284 11))) - 24)) := ⟨_, rfl⟩
              have r_z1_370 : rg z1_370 := by rw [e_z1_370]; exact (wr_rg _)
              replace H := H z1_370 e_z1_370
              refine f_nm e_z1_370 ?_
              refine w_st (ls2 := [some (.ref 284), some (iv z1_370)]) (fun _ => rfl) ?_
              refine w_st (fun _ => rfl) ?_
              obtain ⟨R_394, H, HJ_394⟩ := H
              have tl_394 : ∀ (m_394 : Mm), R_394 m_394 → mm_W d mc_192 394 [some (.ref 284), some (iv z1_370)] [] (fm m_394) (XV Q) := by
                intro m_394  hR
                have H := HJ_394 m_394  hR
                refine w_st (fun _ => rfl) ?_
                refine g_284_13 rfl ?_
                refine z_le rfl (rd_rg _ _ _) (fun hq => ?_) (fun hq => ?_)
                · replace H := H.1 hq
                  refine w_st (fun _ => rfl) ?_
                  refine k_VV (as := []) rfl mg_192 rfl rfl (by decide) rfl rfl H (fun m403 H => ?_)
                  refine w_st (fun _ => rfl) ?_
                  refine w_st (fun _ => rfl) ?_
                  refine k_VV (as := [iv z1_370]) rfl mg_192 rfl rfl (by decide) rfl rfl H (fun m408 H => ?_)
                  exact tl_411 m408 (some (iv z1_370))  H
                · replace H := H.2 hq
                  exact f_ret rfl H
              obtain ⟨R_389, H, HJ_389⟩ := H
              have tl_389 : R_389 → mm_W d mc_192 389 [some (.ref 284), some (iv z1_370)] [] (fm m) (XV Q) := by
                intro   hR
                have H := HJ_389   hR
                refine w_st (fun _ => rfl) ?_
                refine f_int 1 rfl rfl ?_
                refine k_VV (as := [iv 1]) rfl mg_192 rfl rfl (by decide) rfl rfl H (fun m391 H => ?_)
                exact tl_394 m391  H
              refine z_lt rfl r_z1_370 (fun hq => ?_) (fun hq => ?_)
              · replace H := H.1 hq
                exact tl_389   H
              · replace H := H.2 hq
                refine w_st (fun _ => rfl) ?_
                refine g_284_5 rfl ?_
                refine w_st (fun _ => rfl) ?_
                refine g_284_11 rfl ?_
                refine f_ld ir_287 rfl H.1 ?_
                replace H := H.2
                refine f_int 27 rfl rfl ?_
                refine b_le rfl (rd_rg _ _ _) (by unfold rg; decide) (fun hq => ?_) (fun hq => ?_)
                · replace H := H.1 hq
                  exact tl_394 m  H
                · replace H := H.2 hq
                  exact tl_389   H
            · replace H := H.2
              by_cases e26_9 : (rd m 287 (Int.toNat (rd m 284 11))) = 26
              · refine f_tsw 26 rfl (rd_rg _ _ _) e26_9 rfl rfl ?_
                replace H := H.1 e26_9
                refine w_st (fun _ => rfl) ?_
                refine g_284_5 rfl ?_
                refine w_st (fun _ => rfl) ?_
                refine g_284_11 rfl ?_
                refine f_ld ir_287 rfl H.1 ?_
                replace H := H.2
                refine f_int 24 rfl rfl ?_
                refine f_sub rfl ?_
                obtain ⟨z1_370, e_z1_370⟩ : ∃ q : Int, q = (wr ((rd m 287 (Int.toNat (rd m 284 11))) - 24)) := ⟨_, rfl⟩
                have r_z1_370 : rg z1_370 := by rw [e_z1_370]; exact (wr_rg _)
                replace H := H z1_370 e_z1_370
                refine f_nm e_z1_370 ?_
                refine w_st (ls2 := [some (.ref 284), some (iv z1_370)]) (fun _ => rfl) ?_
                refine w_st (fun _ => rfl) ?_
                obtain ⟨R_394, H, HJ_394⟩ := H
                have tl_394 : ∀ (m_394 : Mm), R_394 m_394 → mm_W d mc_192 394 [some (.ref 284), some (iv z1_370)] [] (fm m_394) (XV Q) := by
                  intro m_394  hR
                  have H := HJ_394 m_394  hR
                  refine w_st (fun _ => rfl) ?_
                  refine g_284_13 rfl ?_
                  refine z_le rfl (rd_rg _ _ _) (fun hq => ?_) (fun hq => ?_)
                  · replace H := H.1 hq
                    refine w_st (fun _ => rfl) ?_
                    refine k_VV (as := []) rfl mg_192 rfl rfl (by decide) rfl rfl H (fun m403 H => ?_)
                    refine w_st (fun _ => rfl) ?_
                    refine w_st (fun _ => rfl) ?_
                    refine k_VV (as := [iv z1_370]) rfl mg_192 rfl rfl (by decide) rfl rfl H (fun m408 H => ?_)
                    exact tl_411 m408 (some (iv z1_370))  H
                  · replace H := H.2 hq
                    exact f_ret rfl H
                obtain ⟨R_389, H, HJ_389⟩ := H
                have tl_389 : R_389 → mm_W d mc_192 389 [some (.ref 284), some (iv z1_370)] [] (fm m) (XV Q) := by
                  intro   hR
                  have H := HJ_389   hR
                  refine w_st (fun _ => rfl) ?_
                  refine f_int 1 rfl rfl ?_
                  refine k_VV (as := [iv 1]) rfl mg_192 rfl rfl (by decide) rfl rfl H (fun m391 H => ?_)
                  exact tl_394 m391  H
                refine z_lt rfl r_z1_370 (fun hq => ?_) (fun hq => ?_)
                · replace H := H.1 hq
                  exact tl_389   H
                · replace H := H.2 hq
                  refine w_st (fun _ => rfl) ?_
                  refine g_284_5 rfl ?_
                  refine w_st (fun _ => rfl) ?_
                  refine g_284_11 rfl ?_
                  refine f_ld ir_287 rfl H.1 ?_
                  replace H := H.2
                  refine f_int 27 rfl rfl ?_
                  refine b_le rfl (rd_rg _ _ _) (by unfold rg; decide) (fun hq => ?_) (fun hq => ?_)
                  · replace H := H.1 hq
                    exact tl_394 m  H
                  · replace H := H.2 hq
                    exact tl_389   H
              · replace H := H.2
                by_cases e27_9 : (rd m 287 (Int.toNat (rd m 284 11))) = 27
                · refine f_tsw 27 rfl (rd_rg _ _ _) e27_9 rfl rfl ?_
                  replace H := H.1 e27_9
                  refine w_st (fun _ => rfl) ?_
                  refine g_284_5 rfl ?_
                  refine w_st (fun _ => rfl) ?_
                  refine g_284_11 rfl ?_
                  refine f_ld ir_287 rfl H.1 ?_
                  replace H := H.2
                  refine f_int 24 rfl rfl ?_
                  refine f_sub rfl ?_
                  obtain ⟨z1_370, e_z1_370⟩ : ∃ q : Int, q = (wr ((rd m 287 (Int.toNat (rd m 284 11))) - 24)) := ⟨_, rfl⟩
                  have r_z1_370 : rg z1_370 := by rw [e_z1_370]; exact (wr_rg _)
                  replace H := H z1_370 e_z1_370
                  refine f_nm e_z1_370 ?_
                  refine w_st (ls2 := [some (.ref 284), some (iv z1_370)]) (fun _ => rfl) ?_
                  refine w_st (fun _ => rfl) ?_
                  obtain ⟨R_394, H, HJ_394⟩ := H
                  have tl_394 : ∀ (m_394 : Mm), R_394 m_394 → mm_W d mc_192 394 [some (.ref 284), some (iv z1_370)] [] (fm m_394) (XV Q) := by
                    intro m_394  hR
                    have H := HJ_394 m_394  hR
                    refine w_st (fun _ => rfl) ?_
                    refine g_284_13 rfl ?_
                    refine z_le rfl (rd_rg _ _ _) (fun hq => ?_) (fun hq => ?_)
                    · replace H := H.1 hq
                      refine w_st (fun _ => rfl) ?_
                      refine k_VV (as := []) rfl mg_192 rfl rfl (by decide) rfl rfl H (fun m403 H => ?_)
                      refine w_st (fun _ => rfl) ?_
                      refine w_st (fun _ => rfl) ?_
                      refine k_VV (as := [iv z1_370]) rfl mg_192 rfl rfl (by decide) rfl rfl H (fun m408 H => ?_)
                      exact tl_411 m408 (some (iv z1_370))  H
                    · replace H := H.2 hq
                      exact f_ret rfl H
                  obtain ⟨R_389, H, HJ_389⟩ := H
                  have tl_389 : R_389 → mm_W d mc_192 389 [some (.ref 284), some (iv z1_370)] [] (fm m) (XV Q) := by
                    intro   hR
                    have H := HJ_389   hR
                    refine w_st (fun _ => rfl) ?_
                    refine f_int 1 rfl rfl ?_
                    refine k_VV (as := [iv 1]) rfl mg_192 rfl rfl (by decide) rfl rfl H (fun m391 H => ?_)
                    exact tl_394 m391  H
                  refine z_lt rfl r_z1_370 (fun hq => ?_) (fun hq => ?_)
                  · replace H := H.1 hq
                    exact tl_389   H
                  · replace H := H.2 hq
                    refine w_st (fun _ => rfl) ?_
                    refine g_284_5 rfl ?_
                    refine w_st (fun _ => rfl) ?_
                    refine g_284_11 rfl ?_
                    refine f_ld ir_287 rfl H.1 ?_
                    replace H := H.2
                    refine f_int 27 rfl rfl ?_
                    refine b_le rfl (rd_rg _ _ _) (by unfold rg; decide) (fun hq => ?_) (fun hq => ?_)
                    · replace H := H.1 hq
                      exact tl_394 m  H
                    · replace H := H.2 hq
                      exact tl_389   H
                · replace H := H.2
                  by_cases e28_9 : (rd m 287 (Int.toNat (rd m 284 11))) = 28
                  · refine f_tsw 28 rfl (rd_rg _ _ _) e28_9 rfl rfl ?_
                    replace H := H.1 e28_9
                    refine w_st (fun _ => rfl) ?_
                    refine k_VV (as := []) rfl mg_192 rfl rfl (by decide) rfl rfl H (fun m330 H => ?_)
                    refine w_st (fun _ => rfl) ?_
                    refine g_284_35 rfl ?_
                    refine w_st (fun _ => rfl) ?_
                    refine g_284_19 rfl ?_
                    refine w_st (fun _ => rfl) ?_
                    refine f_int 0 rfl rfl ?_
                    refine f_int 9999 rfl rfl ?_
                    refine k_VK (as := [iv 0, iv 9999]) rfl mg_192 rfl rfl (by decide) rfl rfl H (fun m346 v346 r_v346 H => ?_)
                    obtain ⟨m349, e_m349⟩ : ∃ q : Mm, q = wt m346 306 (Int.toNat (rd m330 284 19)) v346 := ⟨_, rfl⟩
                    refine f_st ir_306 rfl H.1 e_m349 ?_
                    replace H := H.2 m349 e_m349
                    refine w_st (fun _ => rfl) ?_
                    refine f_int 4 rfl rfl ?_
                    refine k_VV (as := [iv 4]) rfl mg_192 rfl rfl (by decide) rfl rfl H (fun m352 H => ?_)
                    refine w_st (fun _ => rfl) ?_
                    exact tl_411 m352 none  H
                  · replace H := H.2
                    refine f_tswd rfl (rd_rg _ _ _) (by omega) ?_
                    replace H := H (by omega)
                    refine w_st (fun _ => rfl) ?_
                    refine g_284_5 rfl ?_
                    refine w_st (fun _ => rfl) ?_
                    refine g_284_11 rfl ?_
                    refine f_ld ir_287 rfl H.1 ?_
                    replace H := H.2
                    refine f_int 24 rfl rfl ?_
                    refine f_sub rfl ?_
                    obtain ⟨z1_370, e_z1_370⟩ : ∃ q : Int, q = (wr ((rd m 287 (Int.toNat (rd m 284 11))) - 24)) := ⟨_, rfl⟩
                    have r_z1_370 : rg z1_370 := by rw [e_z1_370]; exact (wr_rg _)
                    replace H := H z1_370 e_z1_370
                    refine f_nm e_z1_370 ?_
                    refine w_st (ls2 := [some (.ref 284), some (iv z1_370)]) (fun _ => rfl) ?_
                    refine w_st (fun _ => rfl) ?_
                    obtain ⟨R_394, H, HJ_394⟩ := H
                    have tl_394 : ∀ (m_394 : Mm), R_394 m_394 → mm_W d mc_192 394 [some (.ref 284), some (iv z1_370)] [] (fm m_394) (XV Q) := by
                      intro m_394  hR
                      have H := HJ_394 m_394  hR
                      refine w_st (fun _ => rfl) ?_
                      refine g_284_13 rfl ?_
                      refine z_le rfl (rd_rg _ _ _) (fun hq => ?_) (fun hq => ?_)
                      · replace H := H.1 hq
                        refine w_st (fun _ => rfl) ?_
                        refine k_VV (as := []) rfl mg_192 rfl rfl (by decide) rfl rfl H (fun m403 H => ?_)
                        refine w_st (fun _ => rfl) ?_
                        refine w_st (fun _ => rfl) ?_
                        refine k_VV (as := [iv z1_370]) rfl mg_192 rfl rfl (by decide) rfl rfl H (fun m408 H => ?_)
                        exact tl_411 m408 (some (iv z1_370))  H
                      · replace H := H.2 hq
                        exact f_ret rfl H
                    obtain ⟨R_389, H, HJ_389⟩ := H
                    have tl_389 : R_389 → mm_W d mc_192 389 [some (.ref 284), some (iv z1_370)] [] (fm m) (XV Q) := by
                      intro   hR
                      have H := HJ_389   hR
                      refine w_st (fun _ => rfl) ?_
                      refine f_int 1 rfl rfl ?_
                      refine k_VV (as := [iv 1]) rfl mg_192 rfl rfl (by decide) rfl rfl H (fun m391 H => ?_)
                      exact tl_394 m391  H
                    refine z_lt rfl r_z1_370 (fun hq => ?_) (fun hq => ?_)
                    · replace H := H.1 hq
                      exact tl_389   H
                    · replace H := H.2 hq
                      refine w_st (fun _ => rfl) ?_
                      refine g_284_5 rfl ?_
                      refine w_st (fun _ => rfl) ?_
                      refine g_284_11 rfl ?_
                      refine f_ld ir_287 rfl H.1 ?_
                      replace H := H.2
                      refine f_int 27 rfl rfl ?_
                      refine b_le rfl (rd_rg _ _ _) (by unfold rg; decide) (fun hq => ?_) (fun hq => ?_)
                      · replace H := H.1 hq
                        exact tl_394 m  H
                      · replace H := H.2 hq
                        exact tl_389   H
