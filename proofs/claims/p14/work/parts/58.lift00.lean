/-- TippedCrates$Drays.canTip(LTippedCrates$State;II)Z -/
def P_1 (d : Nat) (m : Mm) (a : Nat) (x2 : Int) (x3 : Int) (Q : Mm → Int → Prop) : Prop :=
  (((0 : Int) ≤ x2 ∧ x2 < 3) ∧ CK d 30 [.ref 7, iv (rd m (a + 2) (Int.toNat x2)), iv x3] m (fun m11 v11 =>
    (∃ R_49 : Int → Mm → Prop,
    (∃ R_48 : Mm → Prop,
    ((v11 = (-1) → R_48 m11) ∧
    (¬ v11 = (-1) → CK d 31 [.ref 7, iv v11] m11 (fun m28 v28 =>
      ((¬ v28 = 0 → R_48 m28) ∧
      (v28 = 0 → CK d 77 [.ref a, iv v11] m28 (fun m37 v37 =>
        ((¬ v37 = (-1) → R_48 m37) ∧
        (v37 = (-1) → R_49 1 m37)))))))) ∧
    (∀ (m_48 : Mm), R_48 m_48 →
    R_49 0 m_48)) ∧
    (∀ (s0_49 : Int) (m_49 : Mm), rg s0_49 → R_49 s0_49 m_49 →
    ((s0_49 = 0 ∨ s0_49 = 1) ∧ Q m_49 s0_49)))))
set_option maxRecDepth 20000 in
theorem br_1 {d : Nat} {m : Mm} {a : Nat} {x2 : Int} {x3 : Int} {Q : Mm → Int → Prop} (h_a : isSt a) (r_x2 : rg x2) (r_x3 : rg x3) (H : P_1 d m a x2 x3 Q) : CK (d + 1) 1 [.ref 30, .ref a, iv x2, iv x3] m Q := by
  unfold P_1 at H
  refine CK_of rfl ?_
  show mm_W d mc_1 0 [some (.ref 30), some (.ref a), some (iv x2), some (iv x3), none] [] (fm m) (XK Q)
  refine w_st (fun _ => rfl) ?_
  refine g_30_0 rfl ?_
  refine w_st (fun _ => rfl) ?_
  refine f_getr rfl (st_l0 h_a) (st_ck h_a _ _).1 rfl ?_
  refine w_st (fun _ => rfl) ?_
  refine f_ld (st_2 h_a) rfl H.1 ?_
  replace H := H.2
  refine w_st (fun _ => rfl) ?_
  refine k_VK (as := [iv (rd m (a + 2) (Int.toNat x2)), iv x3]) rfl mg_1 rfl rfl (by decide) rfl rfl H (fun m11 v11 r_v11 H => ?_)
  refine w_st (ls2 := [some (.ref 30), some (.ref a), some (iv x2), some (iv x3), some (iv v11)]) (fun _ => rfl) ?_
  refine w_st (fun _ => rfl) ?_
  refine f_int (-1) rfl rfl ?_
  obtain ⟨R_49, H, HJ_49⟩ := H
  have tl_49 : ∀ (s0_49 : Int) (m_49 : Mm), rg s0_49 → R_49 s0_49 m_49 → mm_W d mc_1 49 [some (.ref 30), some (.ref a), some (iv x2), some (iv x3), some (iv v11)] [iv s0_49] (fm m_49) (XK Q) := by
    intro s0_49 m_49 r_s0_49 hR
    have H := HJ_49 s0_49 m_49 r_s0_49 hR
    exact f_zret rfl r_s0_49 H.1 H.2
  obtain ⟨R_48, H, HJ_48⟩ := H
  have tl_48 : ∀ (m_48 : Mm), R_48 m_48 → mm_W d mc_1 48 [some (.ref 30), some (.ref a), some (iv x2), some (iv x3), some (iv v11)] [] (fm m_48) (XK Q) := by
    intro m_48  hR
    have H := HJ_48 m_48  hR
    refine f_int 0 rfl rfl ?_
    exact tl_49 0 m_48 (by unfold rg; decide) H
  refine b_eq rfl r_v11 (by unfold rg; decide) (fun hq => ?_) (fun hq => ?_)
  · replace H := H.1 hq
    exact tl_48 m11  H
  · replace H := H.2 hq
    refine w_st (fun _ => rfl) ?_
    refine g_30_0 rfl ?_
    refine w_st (fun _ => rfl) ?_
    refine k_VK (as := [iv v11]) rfl mg_1 rfl rfl (by decide) rfl rfl H (fun m28 v28 r_v28 H => ?_)
    refine z_ne rfl r_v28 (fun hq => ?_) (fun hq => ?_)
    · replace H := H.1 hq
      exact tl_48 m28  H
    · replace H := H.2 hq
      refine w_st (fun _ => rfl) ?_
      refine w_st (fun _ => rfl) ?_
      refine k_VK (as := [iv v11]) rfl mg_1 rfl rfl (st_l0 h_a) (st_ck h_a _ _).1 rfl H (fun m37 v37 r_v37 H => ?_)
      refine f_int (-1) rfl rfl ?_
      refine b_ne rfl r_v37 (by unfold rg; decide) (fun hq => ?_) (fun hq => ?_)
      · replace H := H.1 hq
        exact tl_48 m37  H
      · replace H := H.2 hq
        refine f_int 1 rfl rfl ?_
        refine w_st (fun _ => rfl) ?_
        exact tl_49 1 m37 (by unfold rg; decide) H
/-- TippedCrates$Drays.lookAt(LTippedCrates$State;II)V -/
def P_2 (d : Nat) (m : Mm) (a : Nat) (x2 : Int) (x3 : Int) (Q : Mm → Prop) : Prop :=
  (((0 : Int) ≤ x3 ∧ x3 < 4) ∧ (((0 : Int) ≤ (wr ((wr (x2 * 6)) + (sx 1 x3))) ∧ (wr ((wr (x2 * 6)) + (sx 1 x3))) < 18) ∧ (∀ z4_15 : Int, z4_15 = (rd m (a + 3) (Int.toNat (wr ((wr (x2 * 6)) + (sx 1 x3))))) → (((0 : Int) ≤ x3 ∧ x3 < 4) ∧ (((0 : Int) ≤ (wr ((wr (x2 * 6)) + (sx 0 x3))) ∧ (wr ((wr (x2 * 6)) + (sx 0 x3))) < 18) ∧ (∀ z5_32 : Int, z5_32 = (rd m (a + 3) (Int.toNat (wr ((wr (x2 * 6)) + (sx 0 x3))))) → (((0 : Int) ≤ x2 ∧ x2 < 3) ∧ CV d 3 [.ref 30, .ref a, iv x2, iv (rd m (a + 2) (Int.toNat x2)), iv x3, iv z4_15, iv z5_32] m (fun m48 =>
    Q m48))))))))
set_option maxRecDepth 20000 in
theorem br_2 {d : Nat} {m : Mm} {a : Nat} {x2 : Int} {x3 : Int} {Q : Mm → Prop} (h_a : isSt a) (r_x2 : rg x2) (r_x3 : rg x3) (H : P_2 d m a x2 x3 Q) : CV (d + 1) 2 [.ref 30, .ref a, iv x2, iv x3] m Q := by
  unfold P_2 at H
  refine CV_of rfl ?_
  show mm_W d mc_2 0 [some (.ref 30), some (.ref a), some (iv x2), some (iv x3), none, none] [] (fm m) (XV Q)
  refine w_st (fun _ => rfl) ?_
  refine f_getr rfl (st_l0 h_a) (st_ck h_a _ _).1 rfl ?_
  refine w_st (fun _ => rfl) ?_
  refine f_int 6 rfl rfl ?_
  refine f_mul rfl ?_
  refine w_st (fun _ => rfl) ?_
  refine w_st (fun _ => rfl) ?_
  refine f_sx (n := 4) 1 (by decide) rfl rfl H.1 ?_
  replace H := H.2
  refine f_add rfl ?_
  refine f_ld (st_3 h_a) rfl H.1 ?_
  replace H := H.2
  obtain ⟨z4_15, e_z4_15⟩ : ∃ q : Int, q = (rd m (a + 3) (Int.toNat (wr ((wr (x2 * 6)) + (sx 1 x3))))) := ⟨_, rfl⟩
  have r_z4_15 : rg z4_15 := by rw [e_z4_15]; exact (rd_rg _ _ _)
  replace H := H z4_15 e_z4_15
  refine f_nm e_z4_15 ?_
  refine w_st (ls2 := [some (.ref 30), some (.ref a), some (iv x2), some (iv x3), some (iv z4_15), none]) (fun _ => rfl) ?_
  refine w_st (fun _ => rfl) ?_
  refine f_getr rfl (st_l0 h_a) (st_ck h_a _ _).1 rfl ?_
  refine w_st (fun _ => rfl) ?_
  refine f_int 6 rfl rfl ?_
  refine f_mul rfl ?_
  refine w_st (fun _ => rfl) ?_
  refine w_st (fun _ => rfl) ?_
  refine f_sx (n := 4) 0 (by decide) rfl rfl H.1 ?_
  replace H := H.2
  refine f_add rfl ?_
  refine f_ld (st_3 h_a) rfl H.1 ?_
  replace H := H.2
  obtain ⟨z5_32, e_z5_32⟩ : ∃ q : Int, q = (rd m (a + 3) (Int.toNat (wr ((wr (x2 * 6)) + (sx 0 x3))))) := ⟨_, rfl⟩
  have r_z5_32 : rg z5_32 := by rw [e_z5_32]; exact (rd_rg _ _ _)
  replace H := H z5_32 e_z5_32
  refine f_nm e_z5_32 ?_
  refine w_st (ls2 := [some (.ref 30), some (.ref a), some (iv x2), some (iv x3), some (iv z4_15), some (iv z5_32)]) (fun _ => rfl) ?_
  refine w_st (fun _ => rfl) ?_
  refine w_st (fun _ => rfl) ?_
  refine w_st (fun _ => rfl) ?_
  refine w_st (fun _ => rfl) ?_
  refine f_getr rfl (st_l0 h_a) (st_ck h_a _ _).1 rfl ?_
  refine w_st (fun _ => rfl) ?_
  refine f_ld (st_2 h_a) rfl H.1 ?_
  replace H := H.2
  refine w_st (fun _ => rfl) ?_
  refine w_st (fun _ => rfl) ?_
  refine w_st (fun _ => rfl) ?_
  refine k_VV (as := [.ref a, iv x2, iv (rd m (a + 2) (Int.toNat x2)), iv x3, iv z4_15, iv z5_32]) rfl mg_2 rfl rfl (by decide) rfl rfl H (fun m48 H => ?_)
  exact f_ret rfl H
/-- TippedCrates$Drays.lookFrom(LTippedCrates$State;IIIII)V -/
def P_3 (d : Nat) (m : Mm) (a : Nat) (x2 : Int) (x3 : Int) (x4 : Int) (x5 : Int) (x6 : Int) (Q : Mm → Prop) : Prop :=
  CK d 30 [.ref 7, iv x3, iv x4] m (fun m7 v7 =>
    (((0 : Int) ≤ x3 ∧ x3 < 25) ∧ (((0 : Int) ≤ x4 ∧ x4 < 4) ∧ (∀ m43 : Mm, m43 = wt m7 12 0 (wr ((rd m7 16 (Int.toNat x3)) + (sx 2 x4))) → (((0 : Int) ≤ x3 ∧ x3 < 25) ∧ (((0 : Int) ≤ x4 ∧ x4 < 4) ∧ (∀ m63 : Mm, m63 = wt m43 12 1 (wr ((rd m43 17 (Int.toNat x3)) + (sx 3 x4))) → (∃ R_84 : Int → Prop,
    ((¬ v7 = (-1) → (((0 : Int) ≤ v7 ∧ v7 < 25) ∧ R_84 (rd m63 (a + 1) (Int.toNat v7)))) ∧
    (v7 = (-1) → R_84 0)) ∧
    (∀ (s2_84 : Int) , rg s2_84 → R_84 s2_84 →
    (∀ m84 : Mm, m84 = wt m63 12 2 s2_84 → (∀ m90 : Mm, m90 = wt m84 12 3 x5 → (∀ m96 : Mm, m96 = wt m90 12 4 x6 → (((0 : Int) ≤ x2 ∧ x2 < 3) ∧ (∀ m106 : Mm, m106 = wt m96 12 5 (rd m96 (a + 4) (Int.toNat x2)) → (∀ m115 : Mm, m115 = wt m106 12 6 (rd m106 a 5) → (∀ m121 : Mm, m121 = wt m115 12 7 x2 → (∀ m128 : Mm, m128 = wt m121 12 8 x4 → Q m128)))))))))))))))))
set_option maxRecDepth 20000 in
theorem br_3 {d : Nat} {m : Mm} {a : Nat} {x2 : Int} {x3 : Int} {x4 : Int} {x5 : Int} {x6 : Int} {Q : Mm → Prop} (h_a : isSt a) (r_x2 : rg x2) (r_x3 : rg x3) (r_x4 : rg x4) (r_x5 : rg x5) (r_x6 : rg x6) (H : P_3 d m a x2 x3 x4 x5 x6 Q) : CV (d + 1) 3 [.ref 30, .ref a, iv x2, iv x3, iv x4, iv x5, iv x6] m Q := by
  unfold P_3 at H
  refine CV_of rfl ?_
  show mm_W d mc_3 0 [some (.ref 30), some (.ref a), some (iv x2), some (iv x3), some (iv x4), some (iv x5), some (iv x6), none, none] [] (fm m) (XV Q)
  refine w_st (fun _ => rfl) ?_
  refine g_30_0 rfl ?_
  refine w_st (fun _ => rfl) ?_
  refine w_st (fun _ => rfl) ?_
  refine k_VK (as := [iv x3, iv x4]) rfl mg_3 rfl rfl (by decide) rfl rfl H (fun m7 v7 r_v7 H => ?_)
  refine w_st (ls2 := [some (.ref 30), some (.ref a), some (iv x2), some (iv x3), some (iv x4), some (iv x5), some (iv x6), some (iv v7), none]) (fun _ => rfl) ?_
  refine w_st (fun _ => rfl) ?_
  refine g_30_0 rfl ?_
  refine g_7_8 rfl ?_
  refine f_getr rfl (lw_l0 lw_11) (lw_ck lw_11 _ _).1 rfl ?_
  refine w_st (ls2 := [some (.ref 30), some (.ref a), some (iv x2), some (iv x3), some (iv x4), some (iv x5), some (iv x6), some (iv v7), some (.ref 12)]) (fun _ => rfl) ?_
  refine w_st (fun _ => rfl) ?_
  refine f_int 0 rfl rfl ?_
  refine w_st (fun _ => rfl) ?_
  refine g_30_0 rfl ?_
  refine g_7_9 rfl ?_
  refine w_st (fun _ => rfl) ?_
  refine f_ld ir_16 rfl H.1 ?_
  replace H := H.2
  refine w_st (fun _ => rfl) ?_
  refine w_st (fun _ => rfl) ?_
  refine f_sx (n := 4) 2 (by decide) rfl rfl H.1 ?_
  replace H := H.2
  refine f_add rfl ?_
  obtain ⟨m43, e_m43⟩ : ∃ q : Mm, q = wt m7 12 0 (wr ((rd m7 16 (Int.toNat x3)) + (sx 2 x4))) := ⟨_, rfl⟩
  refine f_st (lw_1 lw_11) rfl ⟨by decide, by decide⟩ e_m43 ?_
  replace H := H m43 e_m43
  refine w_st (fun _ => rfl) ?_
  refine f_int 1 rfl rfl ?_
  refine w_st (fun _ => rfl) ?_
  refine g_30_0 rfl ?_
  refine g_7_10 rfl ?_
  refine w_st (fun _ => rfl) ?_
  refine f_ld ir_17 rfl H.1 ?_
  replace H := H.2
  refine w_st (fun _ => rfl) ?_
  refine w_st (fun _ => rfl) ?_
  refine f_sx (n := 4) 3 (by decide) rfl rfl H.1 ?_
  replace H := H.2
  refine f_add rfl ?_
  obtain ⟨m63, e_m63⟩ : ∃ q : Mm, q = wt m43 12 1 (wr ((rd m43 17 (Int.toNat x3)) + (sx 3 x4))) := ⟨_, rfl⟩
  refine f_st (lw_1 lw_11) rfl ⟨by decide, by decide⟩ e_m63 ?_
  replace H := H m63 e_m63
  refine w_st (fun _ => rfl) ?_
  refine f_int 2 rfl rfl ?_
  refine w_st (fun _ => rfl) ?_
  refine f_int (-1) rfl rfl ?_
  obtain ⟨R_84, H, HJ_84⟩ := H
  have tl_84 : ∀ (s2_84 : Int) , rg s2_84 → R_84 s2_84 → mm_W d mc_3 84 [some (.ref 30), some (.ref a), some (iv x2), some (iv x3), some (iv x4), some (iv x5), some (iv x6), some (iv v7), some (.ref 12)] [iv s2_84, iv 2, .ref 12] (fm m63) (XV Q) := by
    intro s2_84 r_s2_84 hR
    have H := HJ_84 s2_84 r_s2_84 hR
    obtain ⟨m84, e_m84⟩ : ∃ q : Mm, q = wt m63 12 2 s2_84 := ⟨_, rfl⟩
    refine f_st (lw_1 lw_11) rfl ⟨by decide, by decide⟩ e_m84 ?_
    replace H := H m84 e_m84
    refine w_st (fun _ => rfl) ?_
    refine f_int 3 rfl rfl ?_
    refine w_st (fun _ => rfl) ?_
    obtain ⟨m90, e_m90⟩ : ∃ q : Mm, q = wt m84 12 3 x5 := ⟨_, rfl⟩
    refine f_st (lw_1 lw_11) rfl ⟨by decide, by decide⟩ e_m90 ?_
    replace H := H m90 e_m90
    refine w_st (fun _ => rfl) ?_
    refine f_int 4 rfl rfl ?_
    refine w_st (fun _ => rfl) ?_
    obtain ⟨m96, e_m96⟩ : ∃ q : Mm, q = wt m90 12 4 x6 := ⟨_, rfl⟩
    refine f_st (lw_1 lw_11) rfl ⟨by decide, by decide⟩ e_m96 ?_
    replace H := H m96 e_m96
    refine w_st (fun _ => rfl) ?_
    refine f_int 5 rfl rfl ?_
    refine w_st (fun _ => rfl) ?_
    refine f_getr rfl (st_l0 h_a) (st_ck h_a _ _).1 rfl ?_
    refine w_st (fun _ => rfl) ?_
    refine f_ld (st_4 h_a) rfl H.1 ?_
    replace H := H.2
    obtain ⟨m106, e_m106⟩ : ∃ q : Mm, q = wt m96 12 5 (rd m96 (a + 4) (Int.toNat x2)) := ⟨_, rfl⟩
    refine f_st (lw_1 lw_11) rfl ⟨by decide, by decide⟩ e_m106 ?_
    replace H := H m106 e_m106
    refine w_st (fun _ => rfl) ?_
    refine f_int 6 rfl rfl ?_
    refine w_st (fun _ => rfl) ?_
    refine f_get rfl (st_l0 h_a) (st_ck h_a _ _).1 rfl ?_
    obtain ⟨m115, e_m115⟩ : ∃ q : Mm, q = wt m106 12 6 (rd m106 a 5) := ⟨_, rfl⟩
    refine f_st (lw_1 lw_11) rfl ⟨by decide, by decide⟩ e_m115 ?_
    replace H := H m115 e_m115
    refine w_st (fun _ => rfl) ?_
    refine f_int 7 rfl rfl ?_
    refine w_st (fun _ => rfl) ?_
    obtain ⟨m121, e_m121⟩ : ∃ q : Mm, q = wt m115 12 7 x2 := ⟨_, rfl⟩
    refine f_st (lw_1 lw_11) rfl ⟨by decide, by decide⟩ e_m121 ?_
    replace H := H m121 e_m121
    refine w_st (fun _ => rfl) ?_
    refine f_int 8 rfl rfl ?_
    refine w_st (fun _ => rfl) ?_
    obtain ⟨m128, e_m128⟩ : ∃ q : Mm, q = wt m121 12 8 x4 := ⟨_, rfl⟩
    refine f_st (lw_1 lw_11) rfl ⟨by decide, by decide⟩ e_m128 ?_
    replace H := H m128 e_m128
    exact f_ret rfl H
  refine b_ne rfl r_v7 (by unfold rg; decide) (fun hq => ?_) (fun hq => ?_)
  · replace H := H.1 hq
    refine w_st (fun _ => rfl) ?_
    refine f_getr rfl (st_l0 h_a) (st_ck h_a _ _).1 rfl ?_
    refine w_st (fun _ => rfl) ?_
    refine f_ld (st_1 h_a) rfl H.1 ?_
    replace H := H.2
    exact tl_84 (rd m63 (a + 1) (Int.toNat v7)) (rd_rg _ _ _) H
  · replace H := H.2 hq
    refine f_int 0 rfl rfl ?_
    refine w_st (fun _ => rfl) ?_
    exact tl_84 0 (by unfold rg; decide) H
/-- TippedCrates$Drays.costNow()I -/
def P_4 (d : Nat) (m : Mm)  (Q : Mm → Int → Prop) : Prop :=
  CK d 18 [.ref 11, iv 2] m (fun m11 v11 =>
    Q m11 (max 0 (min 99 v11)))
set_option maxRecDepth 20000 in
theorem br_4 {d : Nat} {m : Mm}  {Q : Mm → Int → Prop}  (H : P_4 d m  Q) : CK (d + 1) 4 [.ref 30] m Q := by
  unfold P_4 at H
  refine CK_of rfl ?_
  show mm_W d mc_4 0 [some (.ref 30)] [] (fm m) (XK Q)
  refine f_int 0 rfl rfl ?_
  refine f_int 99 rfl rfl ?_
  refine w_st (fun _ => rfl) ?_
  refine g_30_0 rfl ?_
  refine g_7_8 rfl ?_
  refine f_int 2 rfl rfl ?_
  refine k_VK (as := [iv 2]) rfl mg_4 rfl rfl (lw_l0 lw_11) (lw_ck lw_11 _ _).1 rfl H (fun m11 v11 r_v11 H => ?_)
  refine f_min rfl (by unfold rg; decide) r_v11 rfl ?_
  refine f_max rfl (by unfold rg; decide) (mn_rg (by unfold rg; decide) r_v11) rfl ?_
  exact f_iret rfl (mx_rg (by unfold rg; decide) (mn_rg (by unfold rg; decide) r_v11)) H
/-- TippedCrates$Drays.slipNow()I -/
def P_5 (d : Nat) (m : Mm)  (Q : Mm → Int → Prop) : Prop :=
  CK d 18 [.ref 11, iv 3] m (fun m11 v11 =>
    Q m11 (max 0 (min 100 v11)))
set_option maxRecDepth 20000 in
theorem br_5 {d : Nat} {m : Mm}  {Q : Mm → Int → Prop}  (H : P_5 d m  Q) : CK (d + 1) 5 [.ref 30] m Q := by
  unfold P_5 at H
  refine CK_of rfl ?_
  show mm_W d mc_5 0 [some (.ref 30)] [] (fm m) (XK Q)
  refine f_int 0 rfl rfl ?_
  refine f_int 100 rfl rfl ?_
  refine w_st (fun _ => rfl) ?_
  refine g_30_0 rfl ?_
  refine g_7_8 rfl ?_
  refine f_int 3 rfl rfl ?_
  refine k_VK (as := [iv 3]) rfl mg_5 rfl rfl (lw_l0 lw_11) (lw_ck lw_11 _ _).1 rfl H (fun m11 v11 r_v11 H => ?_)
  refine f_min rfl (by unfold rg; decide) r_v11 rfl ?_
  refine f_max rfl (by unfold rg; decide) (mn_rg (by unfold rg; decide) r_v11) rfl ?_
  exact f_iret rfl (mx_rg (by unfold rg; decide) (mn_rg (by unfold rg; decide) r_v11)) H
/-- TippedCrates$Drays.holdsNow(I)Z -/
def P_6 (d : Nat) (m : Mm) (x1 : Int) (Q : Mm → Int → Prop) : Prop :=
  CK d 18 [.ref 11, iv x1] m (fun m8 v8 =>
    (∃ R_19 : Int → Prop,
    ((v8 ≤ 0 → R_19 0) ∧
    (¬ v8 ≤ 0 → R_19 1)) ∧
    (∀ (s0_19 : Int) , rg s0_19 → R_19 s0_19 →
    ((s0_19 = 0 ∨ s0_19 = 1) ∧ Q m8 s0_19))))
set_option maxRecDepth 20000 in
theorem br_6 {d : Nat} {m : Mm} {x1 : Int} {Q : Mm → Int → Prop} (r_x1 : rg x1) (H : P_6 d m x1 Q) : CK (d + 1) 6 [.ref 30, iv x1] m Q := by
  unfold P_6 at H
  refine CK_of rfl ?_
  show mm_W d mc_6 0 [some (.ref 30), some (iv x1)] [] (fm m) (XK Q)
  refine w_st (fun _ => rfl) ?_
  refine g_30_0 rfl ?_
  refine g_7_8 rfl ?_
  refine w_st (fun _ => rfl) ?_
  refine k_VK (as := [iv x1]) rfl mg_6 rfl rfl (lw_l0 lw_11) (lw_ck lw_11 _ _).1 rfl H (fun m8 v8 r_v8 H => ?_)
  obtain ⟨R_19, H, HJ_19⟩ := H
  have tl_19 : ∀ (s0_19 : Int) , rg s0_19 → R_19 s0_19 → mm_W d mc_6 19 [some (.ref 30), some (iv x1)] [iv s0_19] (fm m8) (XK Q) := by
    intro s0_19 r_s0_19 hR
    have H := HJ_19 s0_19 r_s0_19 hR
    exact f_zret rfl r_s0_19 H.1 H.2
  refine z_le rfl r_v8 (fun hq => ?_) (fun hq => ?_)
  · replace H := H.1 hq
    refine f_int 0 rfl rfl ?_
    exact tl_19 0 (by unfold rg; decide) H
  · replace H := H.2 hq
    refine f_int 1 rfl rfl ?_
    refine w_st (fun _ => rfl) ?_
    exact tl_19 1 (by unfold rg; decide) H
/-- TippedCrates$Drays.tipOver(LTippedCrates$State;II)V -/
def P_7 (d : Nat) (m : Mm) (a : Nat) (x2 : Int) (x3 : Int) (Q : Mm → Prop) : Prop :=
  (((0 : Int) ≤ x2 ∧ x2 < 3) ∧ CK d 30 [.ref 7, iv (rd m (a + 2) (Int.toNat x2)), iv x3] m (fun m11 v11 =>
    ((¬ v11 = (-1) → CV d 2 [.ref 30, .ref a, iv x2, iv x3] m11 (fun m27 =>
      CK d 6 [.ref 30, iv 0] m27 (fun m32 v32 =>
      (∃ R_55 : Int → Mm → Prop,
      (∃ R_54 : Mm → Prop,
      ((¬ v32 = 0 → R_54 m32) ∧
      (v32 = 0 → CK d 6 [.ref 30, iv 1] m32 (fun m44 v44 =>
        ((v44 = 0 → R_54 m44) ∧
        (¬ v44 = 0 → R_55 1 m44))))) ∧
      (∀ (m_54 : Mm), R_54 m_54 →
      R_55 0 m_54)) ∧
      (∀ (s0_55 : Int) (m_55 : Mm), rg s0_55 → R_55 s0_55 m_55 →
      CK d 4 [.ref 30] m_55 (fun m63 v63 =>
        (∀ m67 : Mm, m67 = wt m63 a 6 (wr ((rd m_55 a 6) + v63)) → (((0 : Int) ≤ x2 ∧ x2 < 3) ∧ (∀ m77 : Mm, m77 = wt m67 (a + 2) (Int.toNat x2) v11 → (((0 : Int) ≤ x2 ∧ x2 < 3) ∧ (((0 : Int) ≤ x2 ∧ x2 < 3) ∧ (∀ m87 : Mm, m87 = wt m77 (a + 4) (Int.toNat x2) (wr ((rd m77 (a + 4) (Int.toNat x2)) + 1)) → CV d 167 [.ref (a + 3), iv (wr (x2 * 6)), iv x3] m87 (fun m97 =>
        (∀ z7_106 : Int, z7_106 = (wr ((wr (x2 * 6)) + 1)) → (∃ R_149 : Mm → Prop,
        ((v32 = 0 → ((s0_55 = 0 → R_149 m97) ∧
          (¬ s0_55 = 0 → (((0 : Int) ≤ v11 ∧ v11 < 25) ∧ (((0 : Int) ≤ z7_106 ∧ z7_106 < 18) ∧ (∀ m148 : Mm, m148 = wt m97 (a + 3) (Int.toNat z7_106) (rd m97 (a + 1) (Int.toNat v11)) → R_149 m148)))))) ∧
        (¬ v32 = 0 → (((0 : Int) ≤ z7_106 ∧ z7_106 < 18) ∧ (((0 : Int) ≤ v11 ∧ v11 < 25) ∧ (∀ m126 : Mm, m126 = wt m97 (a + 1) (Int.toNat v11) (rd m97 (a + 3) (Int.toNat z7_106)) → R_149 m126))))) ∧
        (∀ (m_149 : Mm), R_149 m_149 →
        Q m_149)))))))))))))))) ∧
    (v11 = (-1) → Q m11))))
set_option maxRecDepth 20000 in
theorem br_7 {d : Nat} {m : Mm} {a : Nat} {x2 : Int} {x3 : Int} {Q : Mm → Prop} (h_a : isSt a) (r_x2 : rg x2) (r_x3 : rg x3) (H : P_7 d m a x2 x3 Q) : CV (d + 1) 7 [.ref 30, .ref a, iv x2, iv x3] m Q := by
  unfold P_7 at H
  refine CV_of rfl ?_
  show mm_W d mc_7 0 [some (.ref 30), some (.ref a), some (iv x2), some (iv x3), none, none, none, none] [] (fm m) (XV Q)
  refine w_st (fun _ => rfl) ?_
  refine g_30_0 rfl ?_
  refine w_st (fun _ => rfl) ?_
  refine f_getr rfl (st_l0 h_a) (st_ck h_a _ _).1 rfl ?_
  refine w_st (fun _ => rfl) ?_
  refine f_ld (st_2 h_a) rfl H.1 ?_
  replace H := H.2
  refine w_st (fun _ => rfl) ?_
  refine k_VK (as := [iv (rd m (a + 2) (Int.toNat x2)), iv x3]) rfl mg_7 rfl rfl (by decide) rfl rfl H (fun m11 v11 r_v11 H => ?_)
  refine w_st (ls2 := [some (.ref 30), some (.ref a), some (iv x2), some (iv x3), some (iv v11), none, none, none]) (fun _ => rfl) ?_
  refine w_st (fun _ => rfl) ?_
  refine f_int (-1) rfl rfl ?_
  refine b_ne rfl r_v11 (by unfold rg; decide) (fun hq => ?_) (fun hq => ?_)
  · replace H := H.1 hq
    refine w_st (fun _ => rfl) ?_
    refine w_st (fun _ => rfl) ?_
    refine w_st (fun _ => rfl) ?_
    refine w_st (fun _ => rfl) ?_
    refine k_VV (as := [.ref a, iv x2, iv x3]) rfl mg_7 rfl rfl (by decide) rfl rfl H (fun m27 H => ?_)
    refine w_st (fun _ => rfl) ?_
    refine f_int 0 rfl rfl ?_
    refine k_VK (as := [iv 0]) rfl mg_7 rfl rfl (by decide) rfl rfl H (fun m32 v32 r_v32 H => ?_)
    refine w_st (ls2 := [some (.ref 30), some (.ref a), some (iv x2), some (iv x3), some (iv v11), some (iv v32), none, none]) (fun _ => rfl) ?_
    refine w_st (fun _ => rfl) ?_
    obtain ⟨R_55, H, HJ_55⟩ := H
    have tl_55 : ∀ (s0_55 : Int) (m_55 : Mm), rg s0_55 → R_55 s0_55 m_55 → mm_W d mc_7 55 [some (.ref 30), some (.ref a), some (iv x2), some (iv x3), some (iv v11), some (iv v32), none, none] [iv s0_55] (fm m_55) (XV Q) := by
      intro s0_55 m_55 r_s0_55 hR
      have H := HJ_55 s0_55 m_55 r_s0_55 hR
      refine w_st (ls2 := [some (.ref 30), some (.ref a), some (iv x2), some (iv x3), some (iv v11), some (iv v32), some (iv s0_55), none]) (fun _ => rfl) ?_
      refine w_st (fun _ => rfl) ?_
      refine w_st (fun _ => rfl) ?_
      refine f_get rfl (st_l0 h_a) (st_ck h_a _ _).1 rfl ?_
      refine w_st (fun _ => rfl) ?_
      refine k_VK (as := []) rfl mg_7 rfl rfl (by decide) rfl rfl H (fun m63 v63 r_v63 H => ?_)
      refine f_add rfl ?_
      obtain ⟨m67, e_m67⟩ : ∃ q : Mm, q = wt m63 a 6 (wr ((rd m_55 a 6) + v63)) := ⟨_, rfl⟩
      replace H := H m67 e_m67
      refine f_put rfl (st_l0 h_a) (st_ck h_a _ _).1 (Nat.le_of_ble_eq_true rfl) ((st_ck h_a _ _).1.trans rfl) e_m67 ?_
      refine w_st (fun _ => rfl) ?_
      refine f_getr rfl (st_l0 h_a) (st_ck h_a _ _).1 rfl ?_
      refine w_st (fun _ => rfl) ?_
      refine w_st (fun _ => rfl) ?_
      obtain ⟨m77, e_m77⟩ : ∃ q : Mm, q = wt m67 (a + 2) (Int.toNat x2) v11 := ⟨_, rfl⟩
      refine f_st (st_2 h_a) rfl H.1 e_m77 ?_
      replace H := H.2 m77 e_m77
      refine w_st (fun _ => rfl) ?_
      refine f_getr rfl (st_l0 h_a) (st_ck h_a _ _).1 rfl ?_
      refine w_st (fun _ => rfl) ?_
      refine w_st (fun _ => rfl) ?_
      refine f_ld (st_4 h_a) rfl H.1 ?_
      replace H := H.2
      refine f_int 1 rfl rfl ?_
      refine f_add rfl ?_
      obtain ⟨m87, e_m87⟩ : ∃ q : Mm, q = wt m77 (a + 4) (Int.toNat x2) (wr ((rd m77 (a + 4) (Int.toNat x2)) + 1)) := ⟨_, rfl⟩
      refine f_st (st_4 h_a) rfl H.1 e_m87 ?_
      replace H := H.2 m87 e_m87
      refine w_st (fun _ => rfl) ?_
      refine f_getr rfl (st_l0 h_a) (st_ck h_a _ _).1 rfl ?_
      refine w_st (fun _ => rfl) ?_
      refine f_int 6 rfl rfl ?_
      refine f_mul rfl ?_
      refine w_st (fun _ => rfl) ?_
      refine k_SV (as := [.ref (a + 3), iv (wr (x2 * 6)), iv x3]) rfl mg_7 rfl rfl rfl H (fun m97 H => ?_)
      refine w_st (fun _ => rfl) ?_
      refine f_int 6 rfl rfl ?_
      refine f_mul rfl ?_
      refine f_int 1 rfl rfl ?_
      refine f_add rfl ?_
      obtain ⟨z7_106, e_z7_106⟩ : ∃ q : Int, q = (wr ((wr (x2 * 6)) + 1)) := ⟨_, rfl⟩
      have r_z7_106 : rg z7_106 := by rw [e_z7_106]; exact (wr_rg _)
      replace H := H z7_106 e_z7_106
      refine f_nm e_z7_106 ?_
      refine w_st (ls2 := [some (.ref 30), some (.ref a), some (iv x2), some (iv x3), some (iv v11), some (iv v32), some (iv s0_55), some (iv z7_106)]) (fun _ => rfl) ?_
      refine w_st (fun _ => rfl) ?_
      obtain ⟨R_149, H, HJ_149⟩ := H
      have tl_149 : ∀ (m_149 : Mm), R_149 m_149 → mm_W d mc_7 149 [some (.ref 30), some (.ref a), some (iv x2), some (iv x3), some (iv v11), some (iv v32), some (iv s0_55), some (iv z7_106)] [] (fm m_149) (XV Q) := by
        intro m_149  hR
        have H := HJ_149 m_149  hR
        exact f_ret rfl H
      refine z_eq rfl r_v32 (fun hq => ?_) (fun hq => ?_)
      · replace H := H.1 hq
        refine w_st (fun _ => rfl) ?_
        refine z_eq rfl r_s0_55 (fun hq => ?_) (fun hq => ?_)
        · replace H := H.1 hq
          exact tl_149 m97  H
        · replace H := H.2 hq
          refine w_st (fun _ => rfl) ?_
          refine f_getr rfl (st_l0 h_a) (st_ck h_a _ _).1 rfl ?_
          refine w_st (fun _ => rfl) ?_
          refine w_st (fun _ => rfl) ?_
          refine f_getr rfl (st_l0 h_a) (st_ck h_a _ _).1 rfl ?_
          refine w_st (fun _ => rfl) ?_
          refine f_ld (st_1 h_a) rfl H.1 ?_
          replace H := H.2
          obtain ⟨m148, e_m148⟩ : ∃ q : Mm, q = wt m97 (a + 3) (Int.toNat z7_106) (rd m97 (a + 1) (Int.toNat v11)) := ⟨_, rfl⟩
          refine f_st (st_3 h_a) rfl H.1 e_m148 ?_
          replace H := H.2 m148 e_m148
          exact tl_149 m148  H
      · replace H := H.2 hq
        refine w_st (fun _ => rfl) ?_
        refine f_getr rfl (st_l0 h_a) (st_ck h_a _ _).1 rfl ?_
        refine w_st (fun _ => rfl) ?_
        refine w_st (fun _ => rfl) ?_
        refine f_getr rfl (st_l0 h_a) (st_ck h_a _ _).1 rfl ?_
        refine w_st (fun _ => rfl) ?_
        refine f_ld (st_3 h_a) rfl H.1 ?_
        replace H := H.2
        obtain ⟨m126, e_m126⟩ : ∃ q : Mm, q = wt m97 (a + 1) (Int.toNat v11) (rd m97 (a + 3) (Int.toNat z7_106)) := ⟨_, rfl⟩
        refine f_st (st_1 h_a) rfl H.1 e_m126 ?_
        replace H := H.2 m126 e_m126
        refine w_st (fun _ => rfl) ?_
        exact tl_149 m126  H
    obtain ⟨R_54, H, HJ_54⟩ := H
    have tl_54 : ∀ (m_54 : Mm), R_54 m_54 → mm_W d mc_7 54 [some (.ref 30), some (.ref a), some (iv x2), some (iv x3), some (iv v11), some (iv v32), none, none] [] (fm m_54) (XV Q) := by
      intro m_54  hR
      have H := HJ_54 m_54  hR
      refine f_int 0 rfl rfl ?_
      exact tl_55 0 m_54 (by unfold rg; decide) H
    refine z_ne rfl r_v32 (fun hq => ?_) (fun hq => ?_)
    · replace H := H.1 hq
      exact tl_54 m32  H
    · replace H := H.2 hq
      refine w_st (fun _ => rfl) ?_
      refine f_int 1 rfl rfl ?_
      refine k_VK (as := [iv 1]) rfl mg_7 rfl rfl (by decide) rfl rfl H (fun m44 v44 r_v44 H => ?_)
      refine z_eq rfl r_v44 (fun hq => ?_) (fun hq => ?_)
      · replace H := H.1 hq
        exact tl_54 m44  H
      · replace H := H.2 hq
        refine f_int 1 rfl rfl ?_
        refine w_st (fun _ => rfl) ?_
        exact tl_55 1 m44 (by unfold rg; decide) H
  · replace H := H.2 hq
    exact f_ret rfl H
/-- TippedCrates$Drays.passMinutes(LTippedCrates$State;II)V -/
def P_8 (d : Nat) (m : Mm) (a : Nat) (x2 : Int) (x3 : Int) (Q : Mm → Prop) : Prop :=
  (∃ (I_3 : Int → Mm → Prop) (mu_3 : Int → Mm → Nat), I_3 0 m ∧
    ∀ (x4_3 : Int) (m_3 : Mm), rg x4_3 → I_3 x4_3 m_3 →
    ((x2 ≤ x4_3 → Q m_3) ∧
        (¬ x2 ≤ x4_3 → (∃ (I_12 : Int → Mm → Prop) (mu_12 : Int → Mm → Nat), I_12 0 m_3 ∧
          ∀ (x5_12 : Int) (m_12 : Mm), rg x5_12 → I_12 x5_12 m_12 →
          (((rd m_12 a 4) ≤ x5_12 → (∀ m42 : Mm, m42 = wt m_12 a 5 (wr ((rd m_12 a 5) + 1)) → (∀ z4_45 : Int, z4_45 = wr (x4_3 + 1) → (I_3 z4_45 m42 ∧ mu_3 z4_45 m42 < mu_3 x4_3 m_3)))) ∧
              (¬ (rd m_12 a 4) ≤ x5_12 → CV d 9 [.ref 30, .ref a, iv x5_12, iv x3] m_12 (fun m26 =>
                (∀ z5_29 : Int, z5_29 = wr (x5_12 + 1) → (I_12 z5_29 m26 ∧ mu_12 z5_29 m26 < mu_12 x5_12 m_12)))))))))
set_option maxRecDepth 20000 in
theorem br_8 {d : Nat} {m : Mm} {a : Nat} {x2 : Int} {x3 : Int} {Q : Mm → Prop} (h_a : isSt a) (r_x2 : rg x2) (r_x3 : rg x3) (H : P_8 d m a x2 x3 Q) : CV (d + 1) 8 [.ref 30, .ref a, iv x2, iv x3] m Q := by
  unfold P_8 at H
  refine CV_of rfl ?_
  show mm_W d mc_8 0 [some (.ref 30), some (.ref a), some (iv x2), some (iv x3), none, none] [] (fm m) (XV Q)
  refine f_int 0 rfl rfl ?_
  refine w_st (ls2 := [some (.ref 30), some (.ref a), some (iv x2), some (iv x3), some (iv 0), none]) (fun _ => rfl) ?_
  obtain ⟨I_3, mu_3, H0_3, HB_3⟩ := H
  have lp_3 : ∀ (z : Nat) (x4_3 : Int) (m_3 : Mm) (g5_3 : Option Value), mu_3 x4_3 m_3 < z → rg x4_3 → I_3 x4_3 m_3 → mm_W d mc_8 3 [some (.ref 30), some (.ref a), some (iv x2), some (iv x3), some (iv x4_3), g5_3] [] (fm m_3) (XV Q) := by
    intro z
    induction z with
    | zero => intro x4_3 m_3 g5_3 hz; exact absurd hz (Nat.not_lt_zero _)
    | succ z ih_3 =>
      intro x4_3 m_3 g5_3 hz_3 r_x4_3 hI
      have H := HB_3 x4_3 m_3 r_x4_3 hI
      refine w_st (fun _ => rfl) ?_
      refine w_st (fun _ => rfl) ?_
      refine b_ge rfl r_x4_3 r_x2 (fun hq => ?_) (fun hq => ?_)
      · replace H := H.1 hq
        exact f_ret rfl H
      · replace H := H.2 hq
        refine f_int 0 rfl rfl ?_
        refine w_st (ls2 := [some (.ref 30), some (.ref a), some (iv x2), some (iv x3), some (iv x4_3), some (iv 0)]) (fun _ => rfl) ?_
        obtain ⟨I_12, mu_12, H0_12, HB_12⟩ := H
        have lp_12 : ∀ (z : Nat) (x5_12 : Int) (m_12 : Mm), mu_12 x5_12 m_12 < z → rg x5_12 → I_12 x5_12 m_12 → mm_W d mc_8 12 [some (.ref 30), some (.ref a), some (iv x2), some (iv x3), some (iv x4_3), some (iv x5_12)] [] (fm m_12) (XV Q) := by
          intro z
          induction z with
          | zero => intro x5_12 m_12 hz; exact absurd hz (Nat.not_lt_zero _)
          | succ z ih_12 =>
            intro x5_12 m_12 hz_12 r_x5_12 hI
            have H := HB_12 x5_12 m_12 r_x5_12 hI
            refine w_st (fun _ => rfl) ?_
            refine w_st (fun _ => rfl) ?_
            refine f_get rfl (st_l0 h_a) (st_ck h_a _ _).1 rfl ?_
            refine b_ge rfl r_x5_12 (rd_rg _ _ _) (fun hq => ?_) (fun hq => ?_)
            · replace H := H.1 hq
              refine w_st (fun _ => rfl) ?_
              refine w_st (fun _ => rfl) ?_
              refine f_get rfl (st_l0 h_a) (st_ck h_a _ _).1 rfl ?_
              refine f_int 1 rfl rfl ?_
              refine f_add rfl ?_
              obtain ⟨m42, e_m42⟩ : ∃ q : Mm, q = wt m_12 a 5 (wr ((rd m_12 a 5) + 1)) := ⟨_, rfl⟩
              replace H := H m42 e_m42
              refine f_put rfl (st_l0 h_a) (st_ck h_a _ _).1 (Nat.le_of_ble_eq_true rfl) ((st_ck h_a _ _).1.trans rfl) e_m42 ?_
              obtain ⟨z4_45, e_z4_45⟩ : ∃ q : Int, q = wr (x4_3 + 1) := ⟨_, rfl⟩
              have r_z4_45 : rg z4_45 := by rw [e_z4_45]; exact wr_rg _
              replace H := H z4_45 e_z4_45
              refine f_iinc (ls2 := [some (.ref 30), some (.ref a), some (iv x2), some (iv x3), some (iv z4_45), some (iv x5_12)]) 1 rfl rfl rfl e_z4_45 rfl ?_
              refine w_st (fun _ => rfl) ?_
              exact ih_3 z4_45 m42 (some (iv x5_12)) (Nat.lt_of_lt_of_le H.2 (Nat.le_of_lt_succ hz_3)) r_z4_45 H.1
            · replace H := H.2 hq
              refine w_st (fun _ => rfl) ?_
              refine w_st (fun _ => rfl) ?_
              refine w_st (fun _ => rfl) ?_
              refine w_st (fun _ => rfl) ?_
              refine k_VV (as := [.ref a, iv x5_12, iv x3]) rfl mg_8 rfl rfl (by decide) rfl rfl H (fun m26 H => ?_)
              obtain ⟨z5_29, e_z5_29⟩ : ∃ q : Int, q = wr (x5_12 + 1) := ⟨_, rfl⟩
              have r_z5_29 : rg z5_29 := by rw [e_z5_29]; exact wr_rg _
              replace H := H z5_29 e_z5_29
              refine f_iinc (ls2 := [some (.ref 30), some (.ref a), some (iv x2), some (iv x3), some (iv x4_3), some (iv z5_29)]) 1 rfl rfl rfl e_z5_29 rfl ?_
              refine w_st (fun _ => rfl) ?_
              exact ih_12 z5_29 m26 (Nat.lt_of_lt_of_le H.2 (Nat.le_of_lt_succ hz_12)) r_z5_29 H.1
        exact lp_12 _ 0 m_3 (Nat.lt_succ_self _) (by unfold rg; decide) H0_12
  exact lp_3 _ 0 m none (Nat.lt_succ_self _) (by unfold rg; decide) H0_3
/-- TippedCrates$Drays.passFor(LTippedCrates$State;II)V -/
def P_9 (d : Nat) (m : Mm) (a : Nat) (x2 : Int) (x3 : Int) (Q : Mm → Prop) : Prop :=
  (∀ z4_9 : Int, z4_9 = (wr ((wr (8 * (rd m a 5))) + x2)) → CK d 10 [iv 4, iv x3, iv z4_9] m (fun m15 v15 =>
    CK d 1 [.ref 30, .ref a, iv x2, iv v15] m15 (fun m25 v25 =>
    ((¬ v25 = 0 → CV d 7 [.ref 30, .ref a, iv x2, iv v15] m25 (fun m37 =>
      CK d 1 [.ref 30, .ref a, iv x2, iv v15] m37 (fun m45 v45 =>
      ((¬ v45 = 0 → CV d 2 [.ref 30, .ref a, iv x2, iv v15] m45 (fun m57 =>
        CK d 10 [iv 100, iv x3, iv (wr (100000 + z4_9))] m57 (fun m68 v68 =>
        CK d 5 [.ref 30] m68 (fun m72 v72 =>
        (∃ R_86 : Mm → Prop,
        ((v72 ≤ v68 → R_86 m72) ∧
        (¬ v72 ≤ v68 → CV d 7 [.ref 30, .ref a, iv x2, iv v15] m72 (fun m83 =>
          R_86 m83))) ∧
        (∀ (m_86 : Mm), R_86 m_86 →
        Q m_86)))))) ∧
      (v45 = 0 → Q m45))))) ∧
    (v25 = 0 → Q m25)))))
set_option maxRecDepth 20000 in
theorem br_9 {d : Nat} {m : Mm} {a : Nat} {x2 : Int} {x3 : Int} {Q : Mm → Prop} (h_a : isSt a) (r_x2 : rg x2) (r_x3 : rg x3) (H : P_9 d m a x2 x3 Q) : CV (d + 1) 9 [.ref 30, .ref a, iv x2, iv x3] m Q := by
  unfold P_9 at H
  refine CV_of rfl ?_
  show mm_W d mc_9 0 [some (.ref 30), some (.ref a), some (iv x2), some (iv x3), none, none] [] (fm m) (XV Q)
  refine f_int 8 rfl rfl ?_
  refine w_st (fun _ => rfl) ?_
  refine f_get rfl (st_l0 h_a) (st_ck h_a _ _).1 rfl ?_
  refine f_mul rfl ?_
  refine w_st (fun _ => rfl) ?_
  refine f_add rfl ?_
  obtain ⟨z4_9, e_z4_9⟩ : ∃ q : Int, q = (wr ((wr (8 * (rd m a 5))) + x2)) := ⟨_, rfl⟩
  have r_z4_9 : rg z4_9 := by rw [e_z4_9]; exact (wr_rg _)
  replace H := H z4_9 e_z4_9
  refine f_nm e_z4_9 ?_
  refine w_st (ls2 := [some (.ref 30), some (.ref a), some (iv x2), some (iv x3), some (iv z4_9), none]) (fun _ => rfl) ?_
  refine f_int 4 rfl rfl ?_
  refine w_st (fun _ => rfl) ?_
  refine w_st (fun _ => rfl) ?_
  refine k_SK (as := [iv 4, iv x3, iv z4_9]) rfl mg_9 rfl rfl rfl H (fun m15 v15 r_v15 H => ?_)
  refine w_st (ls2 := [some (.ref 30), some (.ref a), some (iv x2), some (iv x3), some (iv z4_9), some (iv v15)]) (fun _ => rfl) ?_
  refine w_st (fun _ => rfl) ?_
  refine w_st (fun _ => rfl) ?_
  refine w_st (fun _ => rfl) ?_
  refine w_st (fun _ => rfl) ?_
  refine k_VK (as := [.ref a, iv x2, iv v15]) rfl mg_9 rfl rfl (by decide) rfl rfl H (fun m25 v25 r_v25 H => ?_)
  refine z_ne rfl r_v25 (fun hq => ?_) (fun hq => ?_)
  · replace H := H.1 hq
    refine w_st (fun _ => rfl) ?_
    refine w_st (fun _ => rfl) ?_
    refine w_st (fun _ => rfl) ?_
    refine w_st (fun _ => rfl) ?_
    refine k_VV (as := [.ref a, iv x2, iv v15]) rfl mg_9 rfl rfl (by decide) rfl rfl H (fun m37 H => ?_)
    refine w_st (fun _ => rfl) ?_
    refine w_st (fun _ => rfl) ?_
    refine w_st (fun _ => rfl) ?_
    refine w_st (fun _ => rfl) ?_
    refine k_VK (as := [.ref a, iv x2, iv v15]) rfl mg_9 rfl rfl (by decide) rfl rfl H (fun m45 v45 r_v45 H => ?_)
    refine z_ne rfl r_v45 (fun hq => ?_) (fun hq => ?_)
    · replace H := H.1 hq
      refine w_st (fun _ => rfl) ?_
      refine w_st (fun _ => rfl) ?_
      refine w_st (fun _ => rfl) ?_
      refine w_st (fun _ => rfl) ?_
      refine k_VV (as := [.ref a, iv x2, iv v15]) rfl mg_9 rfl rfl (by decide) rfl rfl H (fun m57 H => ?_)
      refine f_int 100 rfl rfl ?_
      refine w_st (fun _ => rfl) ?_
      refine f_int 100000 rfl rfl ?_
      refine w_st (fun _ => rfl) ?_
      refine f_add rfl ?_
      refine k_SK (as := [iv 100, iv x3, iv (wr (100000 + z4_9))]) rfl mg_9 rfl rfl rfl H (fun m68 v68 r_v68 H => ?_)
      refine w_st (fun _ => rfl) ?_
      refine k_VK (as := []) rfl mg_9 rfl rfl (by decide) rfl rfl H (fun m72 v72 r_v72 H => ?_)
      obtain ⟨R_86, H, HJ_86⟩ := H
      have tl_86 : ∀ (m_86 : Mm), R_86 m_86 → mm_W d mc_9 86 [some (.ref 30), some (.ref a), some (iv x2), some (iv x3), some (iv z4_9), some (iv v15)] [] (fm m_86) (XV Q) := by
        intro m_86  hR
        have H := HJ_86 m_86  hR
        exact f_ret rfl H
      refine b_ge rfl r_v68 r_v72 (fun hq => ?_) (fun hq => ?_)
      · replace H := H.1 hq
        exact tl_86 m72  H
      · replace H := H.2 hq
        refine w_st (fun _ => rfl) ?_
        refine w_st (fun _ => rfl) ?_
        refine w_st (fun _ => rfl) ?_
        refine w_st (fun _ => rfl) ?_
        refine k_VV (as := [.ref a, iv x2, iv v15]) rfl mg_9 rfl rfl (by decide) rfl rfl H (fun m83 H => ?_)
        exact tl_86 m83  H
    · replace H := H.2 hq
      exact f_ret rfl H
  · replace H := H.2 hq
    exact f_ret rfl H
/-- TippedCrates$Drays.lot(III)I -/
def P_10 (d : Nat) (m : Mm) (x0 : Int) (x1 : Int) (x2 : Int) (Q : Mm → Int → Prop) : Prop :=
  CK d 11 [iv x1, iv 215] m (fun m4 v4 =>
    CK d 11 [iv v4, iv x2] m4 (fun m8 v8 =>
    (∃ R_26 : Int → Prop,
    ((1 ≤ x0 → (¬ x0 = 0 ∧ R_26 (rmI (urI v8 1) x0))) ∧
    (¬ 1 ≤ x0 → R_26 0)) ∧
    (∀ (s0_26 : Int) , rg s0_26 → R_26 s0_26 →
    Q m8 s0_26))))
set_option maxRecDepth 20000 in
theorem br_10 {d : Nat} {m : Mm} {x0 : Int} {x1 : Int} {x2 : Int} {Q : Mm → Int → Prop} (r_x0 : rg x0) (r_x1 : rg x1) (r_x2 : rg x2) (H : P_10 d m x0 x1 x2 Q) : CK (d + 1) 10 [iv x0, iv x1, iv x2] m Q := by
  unfold P_10 at H
  refine CK_of rfl ?_
  show mm_W d mc_10 0 [some (iv x0), some (iv x1), some (iv x2), none] [] (fm m) (XK Q)
  refine w_st (fun _ => rfl) ?_
  refine f_int 215 rfl rfl ?_
  refine k_SK (as := [iv x1, iv 215]) rfl mg_10 rfl rfl rfl H (fun m4 v4 r_v4 H => ?_)
  refine w_st (fun _ => rfl) ?_
  refine k_SK (as := [iv v4, iv x2]) rfl mg_10 rfl rfl rfl H (fun m8 v8 r_v8 H => ?_)
  refine w_st (ls2 := [some (iv x0), some (iv x1), some (iv x2), some (iv v8)]) (fun _ => rfl) ?_
  refine w_st (fun _ => rfl) ?_
  refine f_int 1 rfl rfl ?_
  obtain ⟨R_26, H, HJ_26⟩ := H
  have tl_26 : ∀ (s0_26 : Int) , rg s0_26 → R_26 s0_26 → mm_W d mc_10 26 [some (iv x0), some (iv x1), some (iv x2), some (iv v8)] [iv s0_26] (fm m8) (XK Q) := by
    intro s0_26 r_s0_26 hR
    have H := HJ_26 s0_26 r_s0_26 hR
    exact f_iret rfl r_s0_26 H
  refine b_ge rfl r_x0 (by unfold rg; decide) (fun hq => ?_) (fun hq => ?_)
  · replace H := H.1 hq
    refine w_st (fun _ => rfl) ?_
    refine f_int 1 rfl rfl ?_
    refine f_urI rfl ?_
    refine w_st (fun _ => rfl) ?_
    refine f_rmI rfl r_x0 H.1 ?_
    replace H := H.2
    exact tl_26 (rmI (urI v8 1) x0) (io_rg _ _ _) H
  · replace H := H.2 hq
    refine f_int 0 rfl rfl ?_
    refine w_st (fun _ => rfl) ?_
    exact tl_26 0 (by unfold rg; decide) H
/-- TippedCrates$Drays.mix(II)I -/
def P_11 (d : Nat) (m : Mm) (x0 : Int) (x1 : Int) (Q : Mm → Int → Prop) : Prop :=
  (∀ z2_10 : Int, z2_10 = (wr ((wr ((xoI x0 x1) * 1103515245)) + 12345)) → Q m (xoI z2_10 (urI z2_10 15)))
set_option maxRecDepth 20000 in
theorem br_11 {d : Nat} {m : Mm} {x0 : Int} {x1 : Int} {Q : Mm → Int → Prop} (r_x0 : rg x0) (r_x1 : rg x1) (H : P_11 d m x0 x1 Q) : CK (d + 1) 11 [iv x0, iv x1] m Q := by
  unfold P_11 at H
  refine CK_of rfl ?_
  show mm_W d mc_11 0 [some (iv x0), some (iv x1), none] [] (fm m) (XK Q)
  refine w_st (fun _ => rfl) ?_
  refine w_st (fun _ => rfl) ?_
  refine f_xoI rfl ?_
  refine f_int 1103515245 rfl rfl ?_
  refine f_mul rfl ?_
  refine f_int 12345 rfl rfl ?_
  refine f_add rfl ?_
  obtain ⟨z2_10, e_z2_10⟩ : ∃ q : Int, q = (wr ((wr ((xoI x0 x1) * 1103515245)) + 12345)) := ⟨_, rfl⟩
  have r_z2_10 : rg z2_10 := by rw [e_z2_10]; exact (wr_rg _)
  replace H := H z2_10 e_z2_10
  refine f_nm e_z2_10 ?_
  refine w_st (ls2 := [some (iv x0), some (iv x1), some (iv z2_10)]) (fun _ => rfl) ?_
  refine w_st (fun _ => rfl) ?_
  refine w_st (fun _ => rfl) ?_
  refine f_int 15 rfl rfl ?_
  refine f_urI rfl ?_
  refine f_xoI rfl ?_
  exact f_iret rfl (io_rg _ _ _) H
/-- TippedCrates$Laws.clear()V -/
def P_13 (d : Nat) (m : Mm) (a : Nat) (Q : Mm → Prop) : Prop :=
  (∀ m2 : Mm, m2 = wt m a 4 0 → (∃ (I_7 : Int → Mm → Prop) (mu_7 : Int → Mm → Nat), I_7 0 m2 ∧
    ∀ (x1_7 : Int) (m_7 : Mm), rg x1_7 → I_7 x1_7 m_7 →
    ((4 ≤ x1_7 → Q m_7) ∧
        (¬ 4 ≤ x1_7 → CV d 14 [.ref a, iv x1_7] m_7 (fun m14 =>
          (∃ R_33 : Int → Prop,
          (∃ R_28 : Prop,
          ((x1_7 = 0 → R_28) ∧
          (¬ x1_7 = 0 → ((¬ x1_7 = 2 → R_33 0) ∧
            (x1_7 = 2 → R_28)))) ∧
          (R_28 →
          R_33 1)) ∧
          (∀ (s2_33 : Int) , rg s2_33 → R_33 s2_33 →
          CK d 15 [.ref a, iv 0, iv s2_33] m14 (fun m33 v33 =>
            CK d 15 [.ref a, iv 2, iv 0] m33 (fun m40 v40 =>
            (∀ z1_44 : Int, z1_44 = wr (x1_7 + 1) → (I_7 z1_44 m40 ∧ mu_7 z1_44 m40 < mu_7 x1_7 m_7)))))))))))
set_option maxRecDepth 20000 in
theorem br_13 {d : Nat} {m : Mm} {a : Nat} {Q : Mm → Prop} (h_a : isLw a) (H : P_13 d m a Q) : CV (d + 1) 13 [.ref a] m Q := by
  unfold P_13 at H
  refine CV_of rfl ?_
  show mm_W d mc_13 0 [some (.ref a), none] [] (fm m) (XV Q)
  refine w_st (fun _ => rfl) ?_
  refine f_int 0 rfl rfl ?_
  obtain ⟨m2, e_m2⟩ : ∃ q : Mm, q = wt m a 4 0 := ⟨_, rfl⟩
  replace H := H m2 e_m2
  refine f_put rfl (lw_l0 h_a) (lw_ck h_a _ _).1 (Nat.le_of_ble_eq_true rfl) ((lw_ck h_a _ _).1.trans rfl) e_m2 ?_
  refine f_int 0 rfl rfl ?_
  refine w_st (ls2 := [some (.ref a), some (iv 0)]) (fun _ => rfl) ?_
  obtain ⟨I_7, mu_7, H0_7, HB_7⟩ := H
  have lp_7 : ∀ (z : Nat) (x1_7 : Int) (m_7 : Mm), mu_7 x1_7 m_7 < z → rg x1_7 → I_7 x1_7 m_7 → mm_W d mc_13 7 [some (.ref a), some (iv x1_7)] [] (fm m_7) (XV Q) := by
    intro z
    induction z with
    | zero => intro x1_7 m_7 hz; exact absurd hz (Nat.not_lt_zero _)
    | succ z ih_7 =>
      intro x1_7 m_7 hz_7 r_x1_7 hI
      have H := HB_7 x1_7 m_7 r_x1_7 hI
      refine w_st (fun _ => rfl) ?_
      refine f_int 4 rfl rfl ?_
      refine b_ge rfl r_x1_7 (by unfold rg; decide) (fun hq => ?_) (fun hq => ?_)
      · replace H := H.1 hq
        exact f_ret rfl H
      · replace H := H.2 hq
        refine w_st (fun _ => rfl) ?_
        refine w_st (fun _ => rfl) ?_
        refine k_VV (as := [iv x1_7]) rfl mg_13 rfl rfl (lw_l0 h_a) (lw_ck h_a _ _).1 rfl H (fun m14 H => ?_)
        refine w_st (fun _ => rfl) ?_
        refine f_int 0 rfl rfl ?_
        refine w_st (fun _ => rfl) ?_
        obtain ⟨R_33, H, HJ_33⟩ := H
        have tl_33 : ∀ (s2_33 : Int) , rg s2_33 → R_33 s2_33 → mm_W d mc_13 33 [some (.ref a), some (iv x1_7)] [iv s2_33, iv 0, .ref a] (fm m14) (XV Q) := by
          intro s2_33 r_s2_33 hR
          have H := HJ_33 s2_33 r_s2_33 hR
          refine k_VK (as := [iv 0, iv s2_33]) rfl mg_13 rfl rfl (lw_l0 h_a) (lw_ck h_a _ _).1 rfl H (fun m33 v33 r_v33 H => ?_)
          refine w_st (fun _ => rfl) ?_
          refine w_st (fun _ => rfl) ?_
          refine f_int 2 rfl rfl ?_
          refine f_int 0 rfl rfl ?_
          refine k_VK (as := [iv 2, iv 0]) rfl mg_13 rfl rfl (lw_l0 h_a) (lw_ck h_a _ _).1 rfl H (fun m40 v40 r_v40 H => ?_)
          refine w_st (fun _ => rfl) ?_
          obtain ⟨z1_44, e_z1_44⟩ : ∃ q : Int, q = wr (x1_7 + 1) := ⟨_, rfl⟩
          have r_z1_44 : rg z1_44 := by rw [e_z1_44]; exact wr_rg _
          replace H := H z1_44 e_z1_44
          refine f_iinc (ls2 := [some (.ref a), some (iv z1_44)]) 1 rfl rfl rfl e_z1_44 rfl ?_
          refine w_st (fun _ => rfl) ?_
          exact ih_7 z1_44 m40 (Nat.lt_of_lt_of_le H.2 (Nat.le_of_lt_succ hz_7)) r_z1_44 H.1
        obtain ⟨R_28, H, HJ_28⟩ := H
        have tl_28 : R_28 → mm_W d mc_13 28 [some (.ref a), some (iv x1_7)] [iv 0, .ref a] (fm m14) (XV Q) := by
          intro   hR
          have H := HJ_28   hR
          refine f_int 1 rfl rfl ?_
          refine w_st (fun _ => rfl) ?_
          exact tl_33 1 (by unfold rg; decide) H
        refine z_eq rfl r_x1_7 (fun hq => ?_) (fun hq => ?_)
        · replace H := H.1 hq
          exact tl_28   H
        · replace H := H.2 hq
          refine w_st (fun _ => rfl) ?_
          refine f_int 2 rfl rfl ?_
          refine b_ne rfl r_x1_7 (by unfold rg; decide) (fun hq => ?_) (fun hq => ?_)
          · replace H := H.1 hq
            refine f_int 0 rfl rfl ?_
            exact tl_33 0 (by unfold rg; decide) H
          · replace H := H.2 hq
            exact tl_28   H
  exact lp_7 _ 0 m2 (Nat.lt_succ_self _) (by unfold rg; decide) H0_7
/-- TippedCrates$Laws.begin(I)V -/
def P_14 (d : Nat) (m : Mm) (a : Nat) (x1 : Int) (Q : Mm → Prop) : Prop :=
  (((0 : Int) ≤ x1 ∧ x1 < 4) ∧ (∀ m9 : Mm, m9 = wt m (a + 3) (Int.toNat x1) (rd m a 4) → Q m9))
set_option maxRecDepth 20000 in
theorem br_14 {d : Nat} {m : Mm} {a : Nat} {x1 : Int} {Q : Mm → Prop} (h_a : isLw a) (r_x1 : rg x1) (H : P_14 d m a x1 Q) : CV (d + 1) 14 [.ref a, iv x1] m Q := by
  unfold P_14 at H
  refine CV_of rfl ?_
  show mm_W d mc_14 0 [some (.ref a), some (iv x1)] [] (fm m) (XV Q)
  refine w_st (fun _ => rfl) ?_
  refine f_getr rfl (lw_l0 h_a) (lw_ck h_a _ _).1 rfl ?_
  refine w_st (fun _ => rfl) ?_
  refine w_st (fun _ => rfl) ?_
  refine f_get rfl (lw_l0 h_a) (lw_ck h_a _ _).1 rfl ?_
  obtain ⟨m9, e_m9⟩ : ∃ q : Mm, q = wt m (a + 3) (Int.toNat x1) (rd m a 4) := ⟨_, rfl⟩
  refine f_st (lw_3 h_a) rfl H.1 e_m9 ?_
  replace H := H.2 m9 e_m9
  exact f_ret rfl H
/-- TippedCrates$Laws.write(II)I -/
def P_15 (d : Nat) (m : Mm) (a : Nat) (x1 : Int) (x2 : Int) (Q : Mm → Int → Prop) : Prop :=
  (((rd m a 4) < 420 → (((0 : Int) ≤ (rd m a 4) ∧ (rd m a 4) < 420) ∧ (∀ m26 : Mm, m26 = wt m (a + 2) (Int.toNat (rd m a 4)) (wr ((wr (x2 * 8)) + x1)) → (∀ m34 : Mm, m34 = wt m26 a 4 (wr ((rd m26 a 4) + 1)) → Q m34 (wr ((rd m34 a 4) - 1)))))) ∧
    (¬ (rd m a 4) < 420 → Q m (-1)))
set_option maxRecDepth 20000 in
theorem br_15 {d : Nat} {m : Mm} {a : Nat} {x1 : Int} {x2 : Int} {Q : Mm → Int → Prop} (h_a : isLw a) (r_x1 : rg x1) (r_x2 : rg x2) (H : P_15 d m a x1 x2 Q) : CK (d + 1) 15 [.ref a, iv x1, iv x2] m Q := by
  unfold P_15 at H
  refine CK_of rfl ?_
  show mm_W d mc_15 0 [some (.ref a), some (iv x1), some (iv x2)] [] (fm m) (XK Q)
  refine w_st (fun _ => rfl) ?_
  refine f_get rfl (lw_l0 h_a) (lw_ck h_a _ _).1 rfl ?_
  refine f_int 420 rfl rfl ?_
  refine b_lt rfl (rd_rg _ _ _) (by unfold rg; decide) (fun hq => ?_) (fun hq => ?_)
  · replace H := H.1 hq
    refine w_st (fun _ => rfl) ?_
    refine f_getr rfl (lw_l0 h_a) (lw_ck h_a _ _).1 rfl ?_
    refine w_st (fun _ => rfl) ?_
    refine f_get rfl (lw_l0 h_a) (lw_ck h_a _ _).1 rfl ?_
    refine w_st (fun _ => rfl) ?_
    refine f_int 8 rfl rfl ?_
    refine f_mul rfl ?_
    refine w_st (fun _ => rfl) ?_
    refine f_add rfl ?_
    obtain ⟨m26, e_m26⟩ : ∃ q : Mm, q = wt m (a + 2) (Int.toNat (rd m a 4)) (wr ((wr (x2 * 8)) + x1)) := ⟨_, rfl⟩
    refine f_st (lw_2 h_a) rfl H.1 e_m26 ?_
    replace H := H.2 m26 e_m26
    refine w_st (fun _ => rfl) ?_
    refine w_st (fun _ => rfl) ?_
    refine f_get rfl (lw_l0 h_a) (lw_ck h_a _ _).1 rfl ?_
    refine f_int 1 rfl rfl ?_
    refine f_add rfl ?_
    obtain ⟨m34, e_m34⟩ : ∃ q : Mm, q = wt m26 a 4 (wr ((rd m26 a 4) + 1)) := ⟨_, rfl⟩
    replace H := H m34 e_m34
    refine f_put rfl (lw_l0 h_a) (lw_ck h_a _ _).1 (Nat.le_of_ble_eq_true rfl) ((lw_ck h_a _ _).1.trans rfl) e_m34 ?_
    refine w_st (fun _ => rfl) ?_
    refine f_get rfl (lw_l0 h_a) (lw_ck h_a _ _).1 rfl ?_
    refine f_int 1 rfl rfl ?_
    refine f_sub rfl ?_
    exact f_iret rfl (wr_rg _) H
  · replace H := H.2 hq
    refine f_int (-1) rfl rfl ?_
    exact f_iret rfl (by unfold rg; decide) H
/-- TippedCrates$Laws.leadHere(I)V -/
def P_16 (d : Nat) (m : Mm) (a : Nat) (x1 : Int) (Q : Mm → Prop) : Prop :=
  (∃ R_20 : Mm → Prop,
    ((x1 = (-1) → R_20 m) ∧
    (¬ x1 = (-1) → (((0 : Int) ≤ x1 ∧ x1 < 420) ∧ (∀ m19 : Mm, m19 = wt m (a + 2) (Int.toNat x1) (wr ((wr ((rd m a 4) * 8)) + 3)) → R_20 m19)))) ∧
    (∀ (m_20 : Mm), R_20 m_20 →
    Q m_20))
set_option maxRecDepth 20000 in
theorem br_16 {d : Nat} {m : Mm} {a : Nat} {x1 : Int} {Q : Mm → Prop} (h_a : isLw a) (r_x1 : rg x1) (H : P_16 d m a x1 Q) : CV (d + 1) 16 [.ref a, iv x1] m Q := by
  unfold P_16 at H
  refine CV_of rfl ?_
  show mm_W d mc_16 0 [some (.ref a), some (iv x1)] [] (fm m) (XV Q)
  refine w_st (fun _ => rfl) ?_
  refine f_int (-1) rfl rfl ?_
  obtain ⟨R_20, H, HJ_20⟩ := H
  have tl_20 : ∀ (m_20 : Mm), R_20 m_20 → mm_W d mc_16 20 [some (.ref a), some (iv x1)] [] (fm m_20) (XV Q) := by
    intro m_20  hR
    have H := HJ_20 m_20  hR
    exact f_ret rfl H
  refine b_eq rfl r_x1 (by unfold rg; decide) (fun hq => ?_) (fun hq => ?_)
  · replace H := H.1 hq
    exact tl_20 m  H
  · replace H := H.2 hq
    refine w_st (fun _ => rfl) ?_
    refine f_getr rfl (lw_l0 h_a) (lw_ck h_a _ _).1 rfl ?_
    refine w_st (fun _ => rfl) ?_
    refine w_st (fun _ => rfl) ?_
    refine f_get rfl (lw_l0 h_a) (lw_ck h_a _ _).1 rfl ?_
    refine f_int 8 rfl rfl ?_
    refine f_mul rfl ?_
    refine f_int 3 rfl rfl ?_
    refine f_add rfl ?_
    obtain ⟨m19, e_m19⟩ : ∃ q : Mm, q = wt m (a + 2) (Int.toNat x1) (wr ((wr ((rd m a 4) * 8)) + 3)) := ⟨_, rfl⟩
    refine f_st (lw_2 h_a) rfl H.1 e_m19 ?_
    replace H := H.2 m19 e_m19
    exact tl_20 m19  H
/-- TippedCrates$Laws.copyOf(LTippedCrates$Laws;)V -/
def P_17 (d : Nat) (m : Mm) (a : Nat) (b : Nat) (Q : Mm → Prop) : Prop :=
  (((0 : Int) ≤ 0 ∧ (0 : Int) ≤ 0 ∧ (0 : Int) ≤ (rd m b 4) ∧ 0 + (rd m b 4) ≤ (420 : Int) ∧ 0 + (rd m b 4) ≤ (420 : Int)) ∧ (∀ m14 : Mm, m14 = cpm m (b + 2) 0 (a + 2) 0 (Int.toNat (rd m b 4)) → (∀ m28 : Mm, m28 = cpm m14 (b + 3) 0 (a + 3) 0 4 → (∀ m36 : Mm, m36 = wt m28 a 4 (rd m28 b 4) → Q m36))))
set_option maxRecDepth 20000 in
theorem br_17 {d : Nat} {m : Mm} {a : Nat} {b : Nat} {Q : Mm → Prop} (h_a : isLw a) (h_b : isLw b) (H : P_17 d m a b Q) : CV (d + 1) 17 [.ref a, .ref b] m Q := by
  unfold P_17 at H
  refine CV_of rfl ?_
  show mm_W d mc_17 0 [some (.ref a), some (.ref b)] [] (fm m) (XV Q)
  refine w_st (fun _ => rfl) ?_
  refine f_getr rfl (lw_l0 h_b) (lw_ck h_b _ _).1 rfl ?_
  refine f_int 0 rfl rfl ?_
  refine w_st (fun _ => rfl) ?_
  refine f_getr rfl (lw_l0 h_a) (lw_ck h_a _ _).1 rfl ?_
  refine f_int 0 rfl rfl ?_
  refine w_st (fun _ => rfl) ?_
  refine f_get rfl (lw_l0 h_b) (lw_ck h_b _ _).1 rfl ?_
  obtain ⟨m14, e_m14⟩ : ∃ q : Mm, q = cpm m (b + 2) 0 (a + 2) 0 (Int.toNat (rd m b 4)) := ⟨_, rfl⟩
  refine f_ac (lw_2 h_b) (lw_2 h_a) rfl H.1 rfl e_m14 ?_
  replace H := H.2 m14 e_m14
  refine w_st (fun _ => rfl) ?_
  refine f_getr rfl (lw_l0 h_b) (lw_ck h_b _ _).1 rfl ?_
  refine f_int 0 rfl rfl ?_
  refine w_st (fun _ => rfl) ?_
  refine f_getr rfl (lw_l0 h_a) (lw_ck h_a _ _).1 rfl ?_
  refine f_int 0 rfl rfl ?_
  refine f_int 4 rfl rfl ?_
  obtain ⟨m28, e_m28⟩ : ∃ q : Mm, q = cpm m14 (b + 3) 0 (a + 3) 0 4 := ⟨_, rfl⟩
  refine f_ac (lw_3 h_b) (lw_3 h_a) rfl ⟨by decide, by decide, by decide, by decide, by decide⟩ rfl e_m28 ?_
  replace H := H m28 e_m28
  refine w_st (fun _ => rfl) ?_
  refine w_st (fun _ => rfl) ?_
  refine f_get rfl (lw_l0 h_b) (lw_ck h_b _ _).1 rfl ?_
  obtain ⟨m36, e_m36⟩ : ∃ q : Mm, q = wt m28 a 4 (rd m28 b 4) := ⟨_, rfl⟩
  replace H := H m36 e_m36
  refine f_put rfl (lw_l0 h_a) (lw_ck h_a _ _).1 (Nat.le_of_ble_eq_true rfl) ((lw_ck h_a _ _).1.trans rfl) e_m36 ?_
  exact f_ret rfl H
/-- TippedCrates$Laws.answer(I)I -/
def P_18 (d : Nat) (m : Mm) (a : Nat) (x1 : Int) (Q : Mm → Int → Prop) : Prop :=
  (((0 : Int) ≤ x1 ∧ x1 < 4) ∧ (∀ z2_6 : Int, z2_6 = (rd m (a + 3) (Int.toNat x1)) → (∃ (I_12 : Int → Int → Int → Mm → Prop) (mu_12 : Int → Int → Int → Mm → Nat), I_12 z2_6 0 0 m ∧
    ∀ (x2_12 x3_12 x4_12 : Int) (m_12 : Mm), rg x2_12 → rg x3_12 → rg x4_12 → I_12 x2_12 x3_12 x4_12 m_12 →
    (∃ R_250 : Prop,
        (((rd m_12 a 4) ≤ x4_12 → R_250) ∧
        (¬ (rd m_12 a 4) ≤ x4_12 → (((rd m_12 a 4) ≤ x2_12 → R_250) ∧
          (¬ (rd m_12 a 4) ≤ x2_12 → (((0 : Int) ≤ x2_12 ∧ x2_12 < 420) ∧ (∀ z5_38 : Int, z5_38 = (rmI (rd m_12 (a + 2) (Int.toNat x2_12)) 8) → (((0 : Int) ≤ x2_12 ∧ x2_12 < 420) ∧ (∀ z6_49 : Int, z6_49 = (dvI (rd m_12 (a + 2) (Int.toNat x2_12)) 8) → (∀ z2_51 : Int, z2_51 = wr (x2_12 + 1) → ((¬ z5_38 = 2 → (∃ R_244 : Int → Int → Mm → Prop,
              ((1 < z5_38 → ((2 ≤ x3_12 → (∀ z3_127 : Int, z3_127 = wr (x3_12 + (-1)) → (((0 : Int) ≤ (wr (z3_127 - 1)) ∧ (wr (z3_127 - 1)) < 24) ∧ (∀ z7_138 : Int, z7_138 = (rd m_12 (a + 4) (Int.toNat (wr (z3_127 - 1)))) → (((0 : Int) ≤ z3_127 ∧ z3_127 < 24) ∧ (∀ z8_146 : Int, z8_146 = (rd m_12 (a + 4) (Int.toNat z3_127)) → ((¬ z5_38 = 3 → (∃ R_188 : Prop,
                    ((¬ z5_38 = 7 → R_188) ∧
                    (z5_38 = 7 → ((¬ z8_146 = 0 → R_188) ∧
                      (z8_146 = 0 → Q m_12 0)))) ∧
                    (R_188 →
                    (∃ R_243 : Int → Prop,
                      ((¬ z5_38 = 4 → ((¬ z5_38 = 5 → ((¬ z5_38 = 6 → (¬ z8_146 = 0 ∧ R_243 (dvI z7_138 z8_146))) ∧
                          (z5_38 = 6 → R_243 (wr (z7_138 * z8_146))))) ∧
                        (z5_38 = 5 → R_243 (wr (z7_138 - z8_146))))) ∧
                      (z5_38 = 4 → R_243 (wr (z7_138 + z8_146)))) ∧
                      (∀ (s2_243 : Int) , rg s2_243 → R_243 s2_243 →
                      (((0 : Int) ≤ (wr (z3_127 - 1)) ∧ (wr (z3_127 - 1)) < 24) ∧ (∀ m243 : Mm, m243 = wt m_12 (a + 4) (Int.toNat (wr (z3_127 - 1))) s2_243 → R_244 z2_51 z3_127 m243))))))) ∧
                  (z5_38 = 3 → (∀ z3_154 : Int, z3_154 = wr (z3_127 + (-1)) → (∃ R_170 : Int → Prop,
                    ((z8_146 ≤ z7_138 → R_170 z6_49) ∧
                    (¬ z8_146 ≤ z7_138 → R_170 z2_51)) ∧
                    (∀ (s0_170 : Int) , rg s0_170 → R_170 s0_170 →
                    R_244 s0_170 z3_154 m_12))))))))))) ∧
                (¬ 2 ≤ x3_12 → Q m_12 0))) ∧
              (¬ 1 < z5_38 → ((x3_12 < 24 → (∃ R_113 : Int → Prop,
                  ((¬ z5_38 = 0 → (((0 : Int) ≤ z6_49 ∧ z6_49 < 9) ∧ R_113 (rd m_12 (a + 1) (Int.toNat z6_49)))) ∧
                  (z5_38 = 0 → R_113 z6_49)) ∧
                  (∀ (s2_113 : Int) , rg s2_113 → R_113 s2_113 →
                  (((0 : Int) ≤ x3_12 ∧ x3_12 < 24) ∧ (∀ m113 : Mm, m113 = wt m_12 (a + 4) (Int.toNat x3_12) s2_113 → (∀ z3_114 : Int, z3_114 = wr (x3_12 + 1) → R_244 z2_51 z3_114 m113)))))) ∧
                (¬ x3_12 < 24 → Q m_12 0)))) ∧
              (∀ (y2_244 y3_244 : Int) (m_244 : Mm), rg y2_244 → rg y3_244 → R_244 y2_244 y3_244 m_244 →
              (∀ z4_244 : Int, z4_244 = wr (x4_12 + 1) → (I_12 y2_244 y3_244 z4_244 m_244 ∧ mu_12 y2_244 y3_244 z4_244 m_244 < mu_12 x2_12 x3_12 x4_12 m_12))))) ∧
            (z5_38 = 2 → (∃ R_76 : Int → Prop,
              ((x3_12 ≤ 0 → R_76 0) ∧
              (¬ x3_12 ≤ 0 → (((0 : Int) ≤ (wr (x3_12 - 1)) ∧ (wr (x3_12 - 1)) < 24) ∧ R_76 (rd m_12 (a + 4) (Int.toNat (wr (x3_12 - 1))))))) ∧
              (∀ (s0_76 : Int) , rg s0_76 → R_76 s0_76 →
              Q m_12 s0_76))))))))))))) ∧
        (R_250 →
        Q m_12 0)))))
set_option maxRecDepth 20000 in
theorem br_18 {d : Nat} {m : Mm} {a : Nat} {x1 : Int} {Q : Mm → Int → Prop} (h_a : isLw a) (r_x1 : rg x1) (H : P_18 d m a x1 Q) : CK (d + 1) 18 [.ref a, iv x1] m Q := by
  unfold P_18 at H
  refine CK_of rfl ?_
  show mm_W d mc_18 0 [some (.ref a), some (iv x1), none, none, none, none, none, none, none] [] (fm m) (XK Q)
  refine w_st (fun _ => rfl) ?_
  refine f_getr rfl (lw_l0 h_a) (lw_ck h_a _ _).1 rfl ?_
  refine w_st (fun _ => rfl) ?_
  refine f_ld (lw_3 h_a) rfl H.1 ?_
  replace H := H.2
  obtain ⟨z2_6, e_z2_6⟩ : ∃ q : Int, q = (rd m (a + 3) (Int.toNat x1)) := ⟨_, rfl⟩
  have r_z2_6 : rg z2_6 := by rw [e_z2_6]; exact (rd_rg _ _ _)
  replace H := H z2_6 e_z2_6
  refine f_nm e_z2_6 ?_
  refine w_st (ls2 := [some (.ref a), some (iv x1), some (iv z2_6), none, none, none, none, none, none]) (fun _ => rfl) ?_
  refine f_int 0 rfl rfl ?_
  refine w_st (ls2 := [some (.ref a), some (iv x1), some (iv z2_6), some (iv 0), none, none, none, none, none]) (fun _ => rfl) ?_
  refine f_int 0 rfl rfl ?_
  refine w_st (ls2 := [some (.ref a), some (iv x1), some (iv z2_6), some (iv 0), some (iv 0), none, none, none, none]) (fun _ => rfl) ?_
  obtain ⟨I_12, mu_12, H0_12, HB_12⟩ := H
  have lp_12 : ∀ (z : Nat) (x2_12 x3_12 x4_12 : Int) (m_12 : Mm) (g5_12 g6_12 g7_12 g8_12 : Option Value), mu_12 x2_12 x3_12 x4_12 m_12 < z → rg x2_12 → rg x3_12 → rg x4_12 → I_12 x2_12 x3_12 x4_12 m_12 → mm_W d mc_18 12 [some (.ref a), some (iv x1), some (iv x2_12), some (iv x3_12), some (iv x4_12), g5_12, g6_12, g7_12, g8_12] [] (fm m_12) (XK Q) := by
    intro z
    induction z with
    | zero => intro x2_12 x3_12 x4_12 m_12 g5_12 g6_12 g7_12 g8_12 hz; exact absurd hz (Nat.not_lt_zero _)
    | succ z ih_12 =>
      intro x2_12 x3_12 x4_12 m_12 g5_12 g6_12 g7_12 g8_12 hz_12 r_x2_12 r_x3_12 r_x4_12 hI
      have H := HB_12 x2_12 x3_12 x4_12 m_12 r_x2_12 r_x3_12 r_x4_12 hI
      refine w_st (fun _ => rfl) ?_
      refine w_st (fun _ => rfl) ?_
      refine f_get rfl (lw_l0 h_a) (lw_ck h_a _ _).1 rfl ?_
      obtain ⟨R_250, H, HJ_250⟩ := H
      have tl_250 : R_250 → mm_W d mc_18 250 [some (.ref a), some (iv x1), some (iv x2_12), some (iv x3_12), some (iv x4_12), g5_12, g6_12, g7_12, g8_12] [] (fm m_12) (XK Q) := by
        intro   hR
        have H := HJ_250   hR
        refine f_int 0 rfl rfl ?_
        exact f_iret rfl (by unfold rg; decide) H
      refine b_ge rfl r_x4_12 (rd_rg _ _ _) (fun hq => ?_) (fun hq => ?_)
      · replace H := H.1 hq
        exact tl_250   H
      · replace H := H.2 hq
        refine w_st (fun _ => rfl) ?_
        refine w_st (fun _ => rfl) ?_
        refine f_get rfl (lw_l0 h_a) (lw_ck h_a _ _).1 rfl ?_
        refine b_ge rfl r_x2_12 (rd_rg _ _ _) (fun hq => ?_) (fun hq => ?_)
        · replace H := H.1 hq
          exact tl_250   H
        · replace H := H.2 hq
          refine w_st (fun _ => rfl) ?_
          refine f_getr rfl (lw_l0 h_a) (lw_ck h_a _ _).1 rfl ?_
          refine w_st (fun _ => rfl) ?_
          refine f_ld (lw_2 h_a) rfl H.1 ?_
          replace H := H.2
          refine f_int 8 rfl rfl ?_
          refine f_rmI rfl (by unfold rg; decide) (by decide) ?_
          obtain ⟨z5_38, e_z5_38⟩ : ∃ q : Int, q = (rmI (rd m_12 (a + 2) (Int.toNat x2_12)) 8) := ⟨_, rfl⟩
          have r_z5_38 : rg z5_38 := by rw [e_z5_38]; exact (io_rg _ _ _)
          replace H := H z5_38 e_z5_38
          refine f_nm e_z5_38 ?_
          refine w_st (ls2 := [some (.ref a), some (iv x1), some (iv x2_12), some (iv x3_12), some (iv x4_12), some (iv z5_38), g6_12, g7_12, g8_12]) (fun _ => rfl) ?_
          refine w_st (fun _ => rfl) ?_
          refine f_getr rfl (lw_l0 h_a) (lw_ck h_a _ _).1 rfl ?_
          refine w_st (fun _ => rfl) ?_
          refine f_ld (lw_2 h_a) rfl H.1 ?_
          replace H := H.2
          refine f_int 8 rfl rfl ?_
          refine f_dvI rfl (by unfold rg; decide) (by decide) ?_
          obtain ⟨z6_49, e_z6_49⟩ : ∃ q : Int, q = (dvI (rd m_12 (a + 2) (Int.toNat x2_12)) 8) := ⟨_, rfl⟩
          have r_z6_49 : rg z6_49 := by rw [e_z6_49]; exact (io_rg _ _ _)
          replace H := H z6_49 e_z6_49
          refine f_nm e_z6_49 ?_
          refine w_st (ls2 := [some (.ref a), some (iv x1), some (iv x2_12), some (iv x3_12), some (iv x4_12), some (iv z5_38), some (iv z6_49), g7_12, g8_12]) (fun _ => rfl) ?_
          obtain ⟨z2_51, e_z2_51⟩ : ∃ q : Int, q = wr (x2_12 + 1) := ⟨_, rfl⟩
          have r_z2_51 : rg z2_51 := by rw [e_z2_51]; exact wr_rg _
          replace H := H z2_51 e_z2_51
          refine f_iinc (ls2 := [some (.ref a), some (iv x1), some (iv z2_51), some (iv x3_12), some (iv x4_12), some (iv z5_38), some (iv z6_49), g7_12, g8_12]) 1 rfl rfl rfl e_z2_51 rfl ?_
          refine w_st (fun _ => rfl) ?_
          refine f_int 2 rfl rfl ?_
          refine b_ne rfl r_z5_38 (by unfold rg; decide) (fun hq => ?_) (fun hq => ?_)
          · replace H := H.1 hq
            refine w_st (fun _ => rfl) ?_
            refine f_int 1 rfl rfl ?_
            obtain ⟨R_244, H, HJ_244⟩ := H
            have tl_244 : ∀ (y2_244 y3_244 : Int) (m_244 : Mm) (g7_244 g8_244 : Option Value), rg y2_244 → rg y3_244 → R_244 y2_244 y3_244 m_244 → mm_W d mc_18 244 [some (.ref a), some (iv x1), some (iv y2_244), some (iv y3_244), some (iv x4_12), some (iv z5_38), some (iv z6_49), g7_244, g8_244] [] (fm m_244) (XK Q) := by
              intro y2_244 y3_244 m_244 g7_244 g8_244 r_y2_244 r_y3_244 hR
              have H := HJ_244 y2_244 y3_244 m_244 r_y2_244 r_y3_244 hR
              obtain ⟨z4_244, e_z4_244⟩ : ∃ q : Int, q = wr (x4_12 + 1) := ⟨_, rfl⟩
              have r_z4_244 : rg z4_244 := by rw [e_z4_244]; exact wr_rg _
              replace H := H z4_244 e_z4_244
              refine f_iinc (ls2 := [some (.ref a), some (iv x1), some (iv y2_244), some (iv y3_244), some (iv z4_244), some (iv z5_38), some (iv z6_49), g7_244, g8_244]) 1 rfl rfl rfl e_z4_244 rfl ?_
              refine w_st (fun _ => rfl) ?_
              exact ih_12 y2_244 y3_244 z4_244 m_244 (some (iv z5_38)) (some (iv z6_49)) g7_244 g8_244 (Nat.lt_of_lt_of_le H.2 (Nat.le_of_lt_succ hz_12)) r_y2_244 r_y3_244 r_z4_244 H.1
            refine b_gt rfl r_z5_38 (by unfold rg; decide) (fun hq => ?_) (fun hq => ?_)
            · replace H := H.1 hq
              refine w_st (fun _ => rfl) ?_
              refine f_int 2 rfl rfl ?_
              refine b_ge rfl r_x3_12 (by unfold rg; decide) (fun hq => ?_) (fun hq => ?_)
              · replace H := H.1 hq
                obtain ⟨z3_127, e_z3_127⟩ : ∃ q : Int, q = wr (x3_12 + (-1)) := ⟨_, rfl⟩
                have r_z3_127 : rg z3_127 := by rw [e_z3_127]; exact wr_rg _
                replace H := H z3_127 e_z3_127
                refine f_iinc (ls2 := [some (.ref a), some (iv x1), some (iv z2_51), some (iv z3_127), some (iv x4_12), some (iv z5_38), some (iv z6_49), g7_12, g8_12]) (-1) rfl rfl rfl e_z3_127 rfl ?_
                refine w_st (fun _ => rfl) ?_
                refine f_getr rfl (lw_l0 h_a) (lw_ck h_a _ _).1 rfl ?_
                refine w_st (fun _ => rfl) ?_
                refine f_int 1 rfl rfl ?_
                refine f_sub rfl ?_
                refine f_ld (lw_4 h_a) rfl H.1 ?_
                replace H := H.2
                obtain ⟨z7_138, e_z7_138⟩ : ∃ q : Int, q = (rd m_12 (a + 4) (Int.toNat (wr (z3_127 - 1)))) := ⟨_, rfl⟩
                have r_z7_138 : rg z7_138 := by rw [e_z7_138]; exact (rd_rg _ _ _)
                replace H := H z7_138 e_z7_138
                refine f_nm e_z7_138 ?_
                refine w_st (ls2 := [some (.ref a), some (iv x1), some (iv z2_51), some (iv z3_127), some (iv x4_12), some (iv z5_38), some (iv z6_49), some (iv z7_138), g8_12]) (fun _ => rfl) ?_
                refine w_st (fun _ => rfl) ?_
                refine f_getr rfl (lw_l0 h_a) (lw_ck h_a _ _).1 rfl ?_
                refine w_st (fun _ => rfl) ?_
                refine f_ld (lw_4 h_a) rfl H.1 ?_
                replace H := H.2
                obtain ⟨z8_146, e_z8_146⟩ : ∃ q : Int, q = (rd m_12 (a + 4) (Int.toNat z3_127)) := ⟨_, rfl⟩
                have r_z8_146 : rg z8_146 := by rw [e_z8_146]; exact (rd_rg _ _ _)
                replace H := H z8_146 e_z8_146
                refine f_nm e_z8_146 ?_
                refine w_st (ls2 := [some (.ref a), some (iv x1), some (iv z2_51), some (iv z3_127), some (iv x4_12), some (iv z5_38), some (iv z6_49), some (iv z7_138), some (iv z8_146)]) (fun _ => rfl) ?_
                refine w_st (fun _ => rfl) ?_
                refine f_int 3 rfl rfl ?_
                refine b_ne rfl r_z5_38 (by unfold rg; decide) (fun hq => ?_) (fun hq => ?_)
                · replace H := H.1 hq
                  refine w_st (fun _ => rfl) ?_
                  refine f_int 7 rfl rfl ?_
                  obtain ⟨R_188, H, HJ_188⟩ := H
                  have tl_188 : R_188 → mm_W d mc_18 188 [some (.ref a), some (iv x1), some (iv z2_51), some (iv z3_127), some (iv x4_12), some (iv z5_38), some (iv z6_49), some (iv z7_138), some (iv z8_146)] [] (fm m_12) (XK Q) := by
                    intro   hR
                    have H := HJ_188   hR
                    refine w_st (fun _ => rfl) ?_
                    refine f_getr rfl (lw_l0 h_a) (lw_ck h_a _ _).1 rfl ?_
                    refine w_st (fun _ => rfl) ?_
                    refine f_int 1 rfl rfl ?_
                    refine f_sub rfl ?_
                    refine w_st (fun _ => rfl) ?_
                    refine f_int 4 rfl rfl ?_
                    obtain ⟨R_243, H, HJ_243⟩ := H
                    have tl_243 : ∀ (s2_243 : Int) , rg s2_243 → R_243 s2_243 → mm_W d mc_18 243 [some (.ref a), some (iv x1), some (iv z2_51), some (iv z3_127), some (iv x4_12), some (iv z5_38), some (iv z6_49), some (iv z7_138), some (iv z8_146)] [iv s2_243, iv (wr (z3_127 - 1)), .ref (a + 4)] (fm m_12) (XK Q) := by
                      intro s2_243 r_s2_243 hR
                      have H := HJ_243 s2_243 r_s2_243 hR
                      obtain ⟨m243, e_m243⟩ : ∃ q : Mm, q = wt m_12 (a + 4) (Int.toNat (wr (z3_127 - 1))) s2_243 := ⟨_, rfl⟩
                      refine f_st (lw_4 h_a) rfl H.1 e_m243 ?_
                      replace H := H.2 m243 e_m243
                      exact tl_244 z2_51 z3_127 m243 (some (iv z7_138)) (some (iv z8_146)) r_z2_51 r_z3_127 H
                    refine b_ne rfl r_z5_38 (by unfold rg; decide) (fun hq => ?_) (fun hq => ?_)
                    · replace H := H.1 hq
                      refine w_st (fun _ => rfl) ?_
                      refine f_int 5 rfl rfl ?_
                      refine b_ne rfl r_z5_38 (by unfold rg; decide) (fun hq => ?_) (fun hq => ?_)
                      · replace H := H.1 hq
                        refine w_st (fun _ => rfl) ?_
                        refine f_int 6 rfl rfl ?_
                        refine b_ne rfl r_z5_38 (by unfold rg; decide) (fun hq => ?_) (fun hq => ?_)
                        · replace H := H.1 hq
                          refine w_st (fun _ => rfl) ?_
                          refine w_st (fun _ => rfl) ?_
                          refine f_dvI rfl r_z8_146 H.1 ?_
                          replace H := H.2
                          exact tl_243 (dvI z7_138 z8_146) (io_rg _ _ _) H
                        · replace H := H.2 hq
                          refine w_st (fun _ => rfl) ?_
                          refine w_st (fun _ => rfl) ?_
                          refine f_mul rfl ?_
                          refine w_st (fun _ => rfl) ?_
                          exact tl_243 (wr (z7_138 * z8_146)) (wr_rg _) H
                      · replace H := H.2 hq
                        refine w_st (fun _ => rfl) ?_
                        refine w_st (fun _ => rfl) ?_
                        refine f_sub rfl ?_
                        refine w_st (fun _ => rfl) ?_
                        exact tl_243 (wr (z7_138 - z8_146)) (wr_rg _) H
                    · replace H := H.2 hq
                      refine w_st (fun _ => rfl) ?_
                      refine w_st (fun _ => rfl) ?_
                      refine f_add rfl ?_
                      refine w_st (fun _ => rfl) ?_
                      exact tl_243 (wr (z7_138 + z8_146)) (wr_rg _) H
                  refine b_ne rfl r_z5_38 (by unfold rg; decide) (fun hq => ?_) (fun hq => ?_)
                  · replace H := H.1 hq
                    exact tl_188   H
                  · replace H := H.2 hq
                    refine w_st (fun _ => rfl) ?_
                    refine z_ne rfl r_z8_146 (fun hq => ?_) (fun hq => ?_)
                    · replace H := H.1 hq
                      exact tl_188   H
                    · replace H := H.2 hq
                      refine f_int 0 rfl rfl ?_
                      exact f_iret rfl (by unfold rg; decide) H
                · replace H := H.2 hq
                  obtain ⟨z3_154, e_z3_154⟩ : ∃ q : Int, q = wr (z3_127 + (-1)) := ⟨_, rfl⟩
                  have r_z3_154 : rg z3_154 := by rw [e_z3_154]; exact wr_rg _
                  replace H := H z3_154 e_z3_154
                  refine f_iinc (ls2 := [some (.ref a), some (iv x1), some (iv z2_51), some (iv z3_154), some (iv x4_12), some (iv z5_38), some (iv z6_49), some (iv z7_138), some (iv z8_146)]) (-1) rfl rfl rfl e_z3_154 rfl ?_
                  refine w_st (fun _ => rfl) ?_
                  refine w_st (fun _ => rfl) ?_
                  obtain ⟨R_170, H, HJ_170⟩ := H
                  have tl_170 : ∀ (s0_170 : Int) , rg s0_170 → R_170 s0_170 → mm_W d mc_18 170 [some (.ref a), some (iv x1), some (iv z2_51), some (iv z3_154), some (iv x4_12), some (iv z5_38), some (iv z6_49), some (iv z7_138), some (iv z8_146)] [iv s0_170] (fm m_12) (XK Q) := by
                    intro s0_170 r_s0_170 hR
                    have H := HJ_170 s0_170 r_s0_170 hR
                    refine w_st (ls2 := [some (.ref a), some (iv x1), some (iv s0_170), some (iv z3_154), some (iv x4_12), some (iv z5_38), some (iv z6_49), some (iv z7_138), some (iv z8_146)]) (fun _ => rfl) ?_
                    refine w_st (fun _ => rfl) ?_
                    exact tl_244 s0_170 z3_154 m_12 (some (iv z7_138)) (some (iv z8_146)) r_s0_170 r_z3_154 H
                  refine b_ge rfl r_z7_138 r_z8_146 (fun hq => ?_) (fun hq => ?_)
                  · replace H := H.1 hq
                    refine w_st (fun _ => rfl) ?_
                    exact tl_170 z6_49 r_z6_49 H
                  · replace H := H.2 hq
                    refine w_st (fun _ => rfl) ?_
                    refine w_st (fun _ => rfl) ?_
                    exact tl_170 z2_51 r_z2_51 H
              · replace H := H.2 hq
                refine f_int 0 rfl rfl ?_
                exact f_iret rfl (by unfold rg; decide) H
            · replace H := H.2 hq
              refine w_st (fun _ => rfl) ?_
              refine f_int 24 rfl rfl ?_
              refine b_lt rfl r_x3_12 (by unfold rg; decide) (fun hq => ?_) (fun hq => ?_)
              · replace H := H.1 hq
                refine w_st (fun _ => rfl) ?_
                refine f_getr rfl (lw_l0 h_a) (lw_ck h_a _ _).1 rfl ?_
                refine w_st (fun _ => rfl) ?_
                refine w_st (fun _ => rfl) ?_
                obtain ⟨R_113, H, HJ_113⟩ := H
                have tl_113 : ∀ (s2_113 : Int) , rg s2_113 → R_113 s2_113 → mm_W d mc_18 113 [some (.ref a), some (iv x1), some (iv z2_51), some (iv x3_12), some (iv x4_12), some (iv z5_38), some (iv z6_49), g7_12, g8_12] [iv s2_113, iv x3_12, .ref (a + 4)] (fm m_12) (XK Q) := by
                  intro s2_113 r_s2_113 hR
                  have H := HJ_113 s2_113 r_s2_113 hR
                  obtain ⟨m113, e_m113⟩ : ∃ q : Mm, q = wt m_12 (a + 4) (Int.toNat x3_12) s2_113 := ⟨_, rfl⟩
                  refine f_st (lw_4 h_a) rfl H.1 e_m113 ?_
                  replace H := H.2 m113 e_m113
                  obtain ⟨z3_114, e_z3_114⟩ : ∃ q : Int, q = wr (x3_12 + 1) := ⟨_, rfl⟩
                  have r_z3_114 : rg z3_114 := by rw [e_z3_114]; exact wr_rg _
                  replace H := H z3_114 e_z3_114
                  refine f_iinc (ls2 := [some (.ref a), some (iv x1), some (iv z2_51), some (iv z3_114), some (iv x4_12), some (iv z5_38), some (iv z6_49), g7_12, g8_12]) 1 rfl rfl rfl e_z3_114 rfl ?_
                  refine w_st (fun _ => rfl) ?_
                  exact tl_244 z2_51 z3_114 m113 g7_12 g8_12 r_z2_51 r_z3_114 H
                refine z_ne rfl r_z5_38 (fun hq => ?_) (fun hq => ?_)
                · replace H := H.1 hq
                  refine w_st (fun _ => rfl) ?_
                  refine f_getr rfl (lw_l0 h_a) (lw_ck h_a _ _).1 rfl ?_
                  refine w_st (fun _ => rfl) ?_
                  refine f_ld (lw_1 h_a) rfl H.1 ?_
                  replace H := H.2
                  exact tl_113 (rd m_12 (a + 1) (Int.toNat z6_49)) (rd_rg _ _ _) H
                · replace H := H.2 hq
                  refine w_st (fun _ => rfl) ?_
                  refine w_st (fun _ => rfl) ?_
                  exact tl_113 z6_49 r_z6_49 H
              · replace H := H.2 hq
                refine f_int 0 rfl rfl ?_
                exact f_iret rfl (by unfold rg; decide) H
          · replace H := H.2 hq
            refine w_st (fun _ => rfl) ?_
            obtain ⟨R_76, H, HJ_76⟩ := H
            have tl_76 : ∀ (s0_76 : Int) , rg s0_76 → R_76 s0_76 → mm_W d mc_18 76 [some (.ref a), some (iv x1), some (iv z2_51), some (iv x3_12), some (iv x4_12), some (iv z5_38), some (iv z6_49), g7_12, g8_12] [iv s0_76] (fm m_12) (XK Q) := by
              intro s0_76 r_s0_76 hR
              have H := HJ_76 s0_76 r_s0_76 hR
              exact f_iret rfl r_s0_76 H
            refine z_le rfl r_x3_12 (fun hq => ?_) (fun hq => ?_)
            · replace H := H.1 hq
              refine f_int 0 rfl rfl ?_
              exact tl_76 0 (by unfold rg; decide) H
            · replace H := H.2 hq
              refine w_st (fun _ => rfl) ?_
              refine f_getr rfl (lw_l0 h_a) (lw_ck h_a _ _).1 rfl ?_
              refine w_st (fun _ => rfl) ?_
              refine f_int 1 rfl rfl ?_
              refine f_sub rfl ?_
              refine f_ld (lw_4 h_a) rfl H.1 ?_
              replace H := H.2
              refine w_st (fun _ => rfl) ?_
              exact tl_76 (rd m_12 (a + 4) (Int.toNat (wr (x3_12 - 1)))) (rd_rg _ _ _) H
  exact lp_12 _ z2_6 0 0 m none none none none (Nat.lt_succ_self _) r_z2_6 (by unfold rg; decide) (by unfold rg; decide) H0_12
/-- TippedCrates$Past.clear()V -/
def P_20 (d : Nat) (m : Mm)  (Q : Mm → Prop) : Prop :=
  (∀ m2 : Mm, m2 = wt m 55 0 0 → (∃ (I_7 : Int → Mm → Prop) (mu_7 : Int → Mm → Nat), I_7 0 m2 ∧
    ∀ (x1_7 : Int) (m_7 : Mm), rg x1_7 → I_7 x1_7 m_7 →
    ((3 ≤ x1_7 → Q m_7) ∧
        (¬ 3 ≤ x1_7 → (((0 : Int) ≤ x1_7 ∧ x1_7 < 3) ∧ (∀ m18 : Mm, m18 = wt m_7 58 (Int.toNat x1_7) (nz 0) → (∀ z1_19 : Int, z1_19 = wr (x1_7 + 1) → (I_7 z1_19 m18 ∧ mu_7 z1_19 m18 < mu_7 x1_7 m_7))))))))
set_option maxRecDepth 20000 in
theorem br_20 {d : Nat} {m : Mm}  {Q : Mm → Prop}  (H : P_20 d m  Q) : CV (d + 1) 20 [.ref 55] m Q := by
  unfold P_20 at H
  refine CV_of rfl ?_
  show mm_W d mc_20 0 [some (.ref 55), none] [] (fm m) (XV Q)
  refine w_st (fun _ => rfl) ?_
  refine f_int 0 rfl rfl ?_
  obtain ⟨m2, e_m2⟩ : ∃ q : Mm, q = wt m 55 0 0 := ⟨_, rfl⟩
  replace H := H m2 e_m2
  refine p_55_0 rfl e_m2 ?_
  refine f_int 0 rfl rfl ?_
  refine w_st (ls2 := [some (.ref 55), some (iv 0)]) (fun _ => rfl) ?_
  obtain ⟨I_7, mu_7, H0_7, HB_7⟩ := H
  have lp_7 : ∀ (z : Nat) (x1_7 : Int) (m_7 : Mm), mu_7 x1_7 m_7 < z → rg x1_7 → I_7 x1_7 m_7 → mm_W d mc_20 7 [some (.ref 55), some (iv x1_7)] [] (fm m_7) (XV Q) := by
    intro z
    induction z with
    | zero => intro x1_7 m_7 hz; exact absurd hz (Nat.not_lt_zero _)
    | succ z ih_7 =>
      intro x1_7 m_7 hz_7 r_x1_7 hI
      have H := HB_7 x1_7 m_7 r_x1_7 hI
      refine w_st (fun _ => rfl) ?_
      refine f_int 3 rfl rfl ?_
      refine b_ge rfl r_x1_7 (by unfold rg; decide) (fun hq => ?_) (fun hq => ?_)
      · replace H := H.1 hq
        exact f_ret rfl H
      · replace H := H.2 hq
        refine w_st (fun _ => rfl) ?_
        refine g_55_3 rfl ?_
        refine w_st (fun _ => rfl) ?_
        refine f_int 0 rfl rfl ?_
        obtain ⟨m18, e_m18⟩ : ∃ q : Mm, q = wt m_7 58 (Int.toNat x1_7) (nz 0) := ⟨_, rfl⟩
        refine f_stz (n := 3) (by decide) (fun _ => rfl) (by decide) rfl H.1 e_m18 ?_
        replace H := H.2 m18 e_m18
        obtain ⟨z1_19, e_z1_19⟩ : ∃ q : Int, q = wr (x1_7 + 1) := ⟨_, rfl⟩
        have r_z1_19 : rg z1_19 := by rw [e_z1_19]; exact wr_rg _
        replace H := H z1_19 e_z1_19
        refine f_iinc (ls2 := [some (.ref 55), some (iv z1_19)]) 1 rfl rfl rfl e_z1_19 rfl ?_
        refine w_st (fun _ => rfl) ?_
        exact ih_7 z1_19 m18 (Nat.lt_of_lt_of_le H.2 (Nat.le_of_lt_succ hz_7)) r_z1_19 H.1
  exact lp_7 _ 0 m2 (Nat.lt_succ_self _) (by unfold rg; decide) H0_7
/-- TippedCrates$Past.note(LTippedCrates$State;)V -/
def P_21 (d : Nat) (m : Mm) (a : Nat) (Q : Mm → Prop) : Prop :=
  (((0 : Int) ≤ (rd m 55 4) ∧ (rd m 55 4) < 40) ∧ CV d 76 [.ref (59 + 5 * (Int.toNat (rd m 55 4))), .ref a] m (fun m10 =>
    (∃ R_35 : Int → Prop,
    ((40 ≤ (wr ((rd m10 55 4) + 1)) → R_35 0) ∧
    (¬ 40 ≤ (wr ((rd m10 55 4) + 1)) → R_35 (wr ((rd m10 55 4) + 1)))) ∧
    (∀ (s1_35 : Int) , rg s1_35 → R_35 s1_35 →
    (∀ m35 : Mm, m35 = wt m10 55 4 s1_35 → (∀ m50 : Mm, m50 = wt m35 55 0 (min (wr ((rd m35 55 0) + 1)) 40) → Q m50))))))
set_option maxRecDepth 20000 in
theorem br_21 {d : Nat} {m : Mm} {a : Nat} {Q : Mm → Prop} (h_a : isSt a) (H : P_21 d m a Q) : CV (d + 1) 21 [.ref 55, .ref a] m Q := by
  unfold P_21 at H
  refine CV_of rfl ?_
  show mm_W d mc_21 0 [some (.ref 55), some (.ref a)] [] (fm m) (XV Q)
  refine w_st (fun _ => rfl) ?_
  refine g_55_1 rfl ?_
  refine w_st (fun _ => rfl) ?_
  refine g_55_4 rfl ?_
  obtain ⟨hs1, H⟩ := H
  refine f_ring rfl hs1 ?_
  refine w_st (fun _ => rfl) ?_
  refine k_VV (as := [.ref a]) rfl mg_21 rfl rfl (st_l0 (st_ring hs1)) (st_ck (st_ring hs1) _ _).1 rfl H (fun m10 H => ?_)
  refine w_st (fun _ => rfl) ?_
  refine w_st (fun _ => rfl) ?_
  refine g_55_4 rfl ?_
  refine f_int 1 rfl rfl ?_
  refine f_add rfl ?_
  refine f_int 40 rfl rfl ?_
  obtain ⟨R_35, H, HJ_35⟩ := H
  have tl_35 : ∀ (s1_35 : Int) , rg s1_35 → R_35 s1_35 → mm_W d mc_21 35 [some (.ref 55), some (.ref a)] [iv s1_35, .ref 55] (fm m10) (XV Q) := by
    intro s1_35 r_s1_35 hR
    have H := HJ_35 s1_35 r_s1_35 hR
    obtain ⟨m35, e_m35⟩ : ∃ q : Mm, q = wt m10 55 4 s1_35 := ⟨_, rfl⟩
    replace H := H m35 e_m35
    refine p_55_4 rfl e_m35 ?_
    refine w_st (fun _ => rfl) ?_
    refine w_st (fun _ => rfl) ?_
    refine g_55_0 rfl ?_
    refine f_int 1 rfl rfl ?_
    refine f_add rfl ?_
    refine f_int 40 rfl rfl ?_
    refine f_min rfl (wr_rg _) (by unfold rg; decide) rfl ?_
    obtain ⟨m50, e_m50⟩ : ∃ q : Mm, q = wt m35 55 0 (min (wr ((rd m35 55 0) + 1)) 40) := ⟨_, rfl⟩
    replace H := H m50 e_m50
    refine p_55_0 rfl e_m50 ?_
    exact f_ret rfl H
  refine b_ge rfl (wr_rg _) (by unfold rg; decide) (fun hq => ?_) (fun hq => ?_)
  · replace H := H.1 hq
    refine f_int 0 rfl rfl ?_
    exact tl_35 0 (by unfold rg; decide) H
  · replace H := H.2 hq
    refine w_st (fun _ => rfl) ?_
    refine g_55_4 rfl ?_
    refine f_int 1 rfl rfl ?_
    refine f_add rfl ?_
    refine w_st (fun _ => rfl) ?_
    exact tl_35 (wr ((rd m10 55 4) + 1)) (wr_rg _) H
/-- TippedCrates$Past.takeBack(LTippedCrates$State;)Z -/
def P_22 (d : Nat) (m : Mm) (a : Nat) (Q : Mm → Int → Prop) : Prop :=
  ((¬ (rd m 55 0) = 0 → (∀ m16 : Mm, m16 = wt m 55 0 (wr ((rd m 55 0) - 1)) → (∃ R_38 : Int → Prop,
      (((rd m16 55 4) ≤ 0 → R_38 39) ∧
      (¬ (rd m16 55 4) ≤ 0 → R_38 (wr ((rd m16 55 4) - 1)))) ∧
      (∀ (s1_38 : Int) , rg s1_38 → R_38 s1_38 →
      (∀ m38 : Mm, m38 = wt m16 55 4 s1_38 → (((0 : Int) ≤ (rd m38 55 4) ∧ (rd m38 55 4) < 40) ∧ CV d 76 [.ref a, .ref (59 + 5 * (Int.toNat (rd m38 55 4)))] m38 (fun m51 =>
        Q m51 1))))))) ∧
    ((rd m 55 0) = 0 → Q m 0))
set_option maxRecDepth 20000 in
theorem br_22 {d : Nat} {m : Mm} {a : Nat} {Q : Mm → Int → Prop} (h_a : isSt a) (H : P_22 d m a Q) : CK (d + 1) 22 [.ref 55, .ref a] m Q := by
  unfold P_22 at H
  refine CK_of rfl ?_
  show mm_W d mc_22 0 [some (.ref 55), some (.ref a)] [] (fm m) (XK Q)
  refine w_st (fun _ => rfl) ?_
  refine g_55_0 rfl ?_
  refine z_ne rfl (rd_rg _ _ _) (fun hq => ?_) (fun hq => ?_)
  · replace H := H.1 hq
    refine w_st (fun _ => rfl) ?_
    refine w_st (fun _ => rfl) ?_
    refine g_55_0 rfl ?_
    refine f_int 1 rfl rfl ?_
    refine f_sub rfl ?_
    obtain ⟨m16, e_m16⟩ : ∃ q : Mm, q = wt m 55 0 (wr ((rd m 55 0) - 1)) := ⟨_, rfl⟩
    replace H := H m16 e_m16
    refine p_55_0 rfl e_m16 ?_
    refine w_st (fun _ => rfl) ?_
    refine w_st (fun _ => rfl) ?_
    refine g_55_4 rfl ?_
    obtain ⟨R_38, H, HJ_38⟩ := H
    have tl_38 : ∀ (s1_38 : Int) , rg s1_38 → R_38 s1_38 → mm_W d mc_22 38 [some (.ref 55), some (.ref a)] [iv s1_38, .ref 55] (fm m16) (XK Q) := by
      intro s1_38 r_s1_38 hR
      have H := HJ_38 s1_38 r_s1_38 hR
      obtain ⟨m38, e_m38⟩ : ∃ q : Mm, q = wt m16 55 4 s1_38 := ⟨_, rfl⟩
      replace H := H m38 e_m38
      refine p_55_4 rfl e_m38 ?_
      refine w_st (fun _ => rfl) ?_
      refine w_st (fun _ => rfl) ?_
      refine g_55_1 rfl ?_
      refine w_st (fun _ => rfl) ?_
      refine g_55_4 rfl ?_
      obtain ⟨hs1, H⟩ := H
      refine f_ring rfl hs1 ?_
      refine k_VV (as := [.ref (59 + 5 * (Int.toNat (rd m38 55 4)))]) rfl mg_22 rfl rfl (st_l0 h_a) (st_ck h_a _ _).1 rfl H (fun m51 H => ?_)
      refine f_int 1 rfl rfl ?_
      exact f_zret rfl (by unfold rg; decide) (Or.inr rfl) H
    refine z_le rfl (rd_rg _ _ _) (fun hq => ?_) (fun hq => ?_)
    · replace H := H.1 hq
      refine f_int 39 rfl rfl ?_
      exact tl_38 39 (by unfold rg; decide) H
    · replace H := H.2 hq
      refine w_st (fun _ => rfl) ?_
      refine g_55_4 rfl ?_
      refine f_int 1 rfl rfl ?_
      refine f_sub rfl ?_
      refine w_st (fun _ => rfl) ?_
      exact tl_38 (wr ((rd m16 55 4) - 1)) (wr_rg _) H
  · replace H := H.2 hq
    refine f_int 0 rfl rfl ?_
    exact f_zret rfl (by unfold rg; decide) (Or.inl rfl) H
/-- TippedCrates$Past.keep(LTippedCrates$State;I)V -/
def P_23 (d : Nat) (m : Mm) (a : Nat) (x2 : Int) (Q : Mm → Prop) : Prop :=
  (((0 : Int) ≤ x2 ∧ x2 < 3) ∧ CV d 76 [.ref (259 + 5 * (Int.toNat x2)), .ref a] m (fun m7 =>
    (((0 : Int) ≤ x2 ∧ x2 < 3) ∧ (∀ m16 : Mm, m16 = wt m7 58 (Int.toNat x2) (nz 1) → Q m16))))
set_option maxRecDepth 20000 in
theorem br_23 {d : Nat} {m : Mm} {a : Nat} {x2 : Int} {Q : Mm → Prop} (h_a : isSt a) (r_x2 : rg x2) (H : P_23 d m a x2 Q) : CV (d + 1) 23 [.ref 55, .ref a, iv x2] m Q := by
  unfold P_23 at H
  refine CV_of rfl ?_
  show mm_W d mc_23 0 [some (.ref 55), some (.ref a), some (iv x2)] [] (fm m) (XV Q)
  refine w_st (fun _ => rfl) ?_
  refine g_55_2 rfl ?_
  refine w_st (fun _ => rfl) ?_
  obtain ⟨hs1, H⟩ := H
  refine f_slots rfl hs1 ?_
  refine w_st (fun _ => rfl) ?_
  refine k_VV (as := [.ref a]) rfl mg_23 rfl rfl (st_l0 (st_slot hs1)) (st_ck (st_slot hs1) _ _).1 rfl H (fun m7 H => ?_)
  refine w_st (fun _ => rfl) ?_
  refine g_55_3 rfl ?_
  refine w_st (fun _ => rfl) ?_
  refine f_int 1 rfl rfl ?_
  obtain ⟨m16, e_m16⟩ : ∃ q : Mm, q = wt m7 58 (Int.toNat x2) (nz 1) := ⟨_, rfl⟩
  refine f_stz (n := 3) (by decide) (fun _ => rfl) (by decide) rfl H.1 e_m16 ?_
  replace H := H.2 m16 e_m16
  exact f_ret rfl H
/-- TippedCrates$Past.goOnFrom(LTippedCrates$State;I)Z -/
def P_24 (d : Nat) (m : Mm) (a : Nat) (x2 : Int) (Q : Mm → Int → Prop) : Prop :=
  (((0 : Int) ≤ x2 ∧ x2 < 3) ∧ ((¬ (rd m 58 (Int.toNat x2)) = 0 → (((0 : Int) ≤ x2 ∧ x2 < 3) ∧ CV d 76 [.ref a, .ref (259 + 5 * (Int.toNat x2))] m (fun m18 =>
      (∀ m23 : Mm, m23 = wt m18 55 0 0 → Q m23 1)))) ∧
    ((rd m 58 (Int.toNat x2)) = 0 → Q m 0)))
set_option maxRecDepth 20000 in
theorem br_24 {d : Nat} {m : Mm} {a : Nat} {x2 : Int} {Q : Mm → Int → Prop} (h_a : isSt a) (r_x2 : rg x2) (H : P_24 d m a x2 Q) : CK (d + 1) 24 [.ref 55, .ref a, iv x2] m Q := by
  unfold P_24 at H
  refine CK_of rfl ?_
  show mm_W d mc_24 0 [some (.ref 55), some (.ref a), some (iv x2)] [] (fm m) (XK Q)
  refine w_st (fun _ => rfl) ?_
  refine g_55_3 rfl ?_
  refine w_st (fun _ => rfl) ?_
  refine f_ldz (n := 3) (by decide) rfl (by decide) rfl H.1 ?_
  replace H := H.2
  refine z_ne rfl (rd_rg _ _ _) (fun hq => ?_) (fun hq => ?_)
  · replace H := H.1 hq
    refine w_st (fun _ => rfl) ?_
    refine w_st (fun _ => rfl) ?_
    refine g_55_2 rfl ?_
    refine w_st (fun _ => rfl) ?_
    obtain ⟨hs1, H⟩ := H
    refine f_slots rfl hs1 ?_
    refine k_VV (as := [.ref (259 + 5 * (Int.toNat x2))]) rfl mg_24 rfl rfl (st_l0 h_a) (st_ck h_a _ _).1 rfl H (fun m18 H => ?_)
    refine w_st (fun _ => rfl) ?_
    refine f_int 0 rfl rfl ?_
    obtain ⟨m23, e_m23⟩ : ∃ q : Mm, q = wt m18 55 0 0 := ⟨_, rfl⟩
    replace H := H m23 e_m23
    refine p_55_0 rfl e_m23 ?_
    refine f_int 1 rfl rfl ?_
    exact f_zret rfl (by unfold rg; decide) (Or.inr rfl) H
  · replace H := H.2 hq
    refine f_int 0 rfl rfl ?_
    exact f_zret rfl (by unfold rg; decide) (Or.inl rfl) H
/-- TippedCrates$Past.slotsHeld()I -/
def P_25 (d : Nat) (m : Mm)  (Q : Mm → Int → Prop) : Prop :=
  (∃ (I_13 : Int → Int → Prop) (mu_13 : Int → Int → Nat), I_13 0 0 ∧
    ∀ (x1_13 x4_13 : Int) , rg x1_13 → rg x4_13 → I_13 x1_13 x4_13 →
    ((3 ≤ x4_13 → Q m x1_13) ∧
        (¬ 3 ≤ x4_13 → (((0 : Int) ≤ x4_13 ∧ x4_13 < 3) ∧ (∀ z5_23 : Int, z5_23 = (rd m 58 (Int.toNat x4_13)) → (∃ R_36 : Int → Prop,
          ((z5_23 = 0 → R_36 0) ∧
          (¬ z5_23 = 0 → R_36 1)) ∧
          (∀ (s1_36 : Int) , rg s1_36 → R_36 s1_36 →
          (∀ z1_37 : Int, z1_37 = (wr (x1_13 + s1_36)) → (∀ z4_38 : Int, z4_38 = wr (x4_13 + 1) → (I_13 z1_37 z4_38 ∧ mu_13 z1_37 z4_38 < mu_13 x1_13 x4_13))))))))))
set_option maxRecDepth 20000 in
theorem br_25 {d : Nat} {m : Mm}  {Q : Mm → Int → Prop}  (H : P_25 d m  Q) : CK (d + 1) 25 [.ref 55] m Q := by
  unfold P_25 at H
  refine CK_of rfl ?_
  show mm_W d mc_25 0 [some (.ref 55), none, none, none, none, none] [] (fm m) (XK Q)
  refine f_int 0 rfl rfl ?_
  refine w_st (ls2 := [some (.ref 55), some (iv 0), none, none, none, none]) (fun _ => rfl) ?_
  refine w_st (fun _ => rfl) ?_
  refine g_55_3 rfl ?_
  refine w_st (ls2 := [some (.ref 55), some (iv 0), some (.ref 58), none, none, none]) (fun _ => rfl) ?_
  refine w_st (fun _ => rfl) ?_
  refine f_len58 rfl ?_
  refine w_st (ls2 := [some (.ref 55), some (iv 0), some (.ref 58), some (iv 3), none, none]) (fun _ => rfl) ?_
  refine f_int 0 rfl rfl ?_
  refine w_st (ls2 := [some (.ref 55), some (iv 0), some (.ref 58), some (iv 3), some (iv 0), none]) (fun _ => rfl) ?_
  obtain ⟨I_13, mu_13, H0_13, HB_13⟩ := H
  have lp_13 : ∀ (z : Nat) (x1_13 x4_13 : Int)  (g5_13 : Option Value), mu_13 x1_13 x4_13 < z → rg x1_13 → rg x4_13 → I_13 x1_13 x4_13 → mm_W d mc_25 13 [some (.ref 55), some (iv x1_13), some (.ref 58), some (iv 3), some (iv x4_13), g5_13] [] (fm m) (XK Q) := by
    intro z
    induction z with
    | zero => intro x1_13 x4_13 g5_13 hz; exact absurd hz (Nat.not_lt_zero _)
    | succ z ih_13 =>
      intro x1_13 x4_13 g5_13 hz_13 r_x1_13 r_x4_13 hI
      have H := HB_13 x1_13 x4_13 r_x1_13 r_x4_13 hI
      refine w_st (fun _ => rfl) ?_
      refine w_st (fun _ => rfl) ?_
      refine b_ge rfl r_x4_13 (by unfold rg; decide) (fun hq => ?_) (fun hq => ?_)
      · replace H := H.1 hq
        refine w_st (fun _ => rfl) ?_
        exact f_iret rfl r_x1_13 H
      · replace H := H.2 hq
        refine w_st (fun _ => rfl) ?_
        refine w_st (fun _ => rfl) ?_
        refine f_ldz (n := 3) (by decide) rfl (by decide) rfl H.1 ?_
        replace H := H.2
        obtain ⟨z5_23, e_z5_23⟩ : ∃ q : Int, q = (rd m 58 (Int.toNat x4_13)) := ⟨_, rfl⟩
        have r_z5_23 : rg z5_23 := by rw [e_z5_23]; exact (rd_rg _ _ _)
        replace H := H z5_23 e_z5_23
        refine f_nm e_z5_23 ?_
        refine w_st (ls2 := [some (.ref 55), some (iv x1_13), some (.ref 58), some (iv 3), some (iv x4_13), some (iv z5_23)]) (fun _ => rfl) ?_
        refine w_st (fun _ => rfl) ?_
        refine w_st (fun _ => rfl) ?_
        obtain ⟨R_36, H, HJ_36⟩ := H
        have tl_36 : ∀ (s1_36 : Int) , rg s1_36 → R_36 s1_36 → mm_W d mc_25 36 [some (.ref 55), some (iv x1_13), some (.ref 58), some (iv 3), some (iv x4_13), some (iv z5_23)] [iv s1_36, iv x1_13] (fm m) (XK Q) := by
          intro s1_36 r_s1_36 hR
          have H := HJ_36 s1_36 r_s1_36 hR
          refine f_add rfl ?_
          obtain ⟨z1_37, e_z1_37⟩ : ∃ q : Int, q = (wr (x1_13 + s1_36)) := ⟨_, rfl⟩
          have r_z1_37 : rg z1_37 := by rw [e_z1_37]; exact (wr_rg _)
          replace H := H z1_37 e_z1_37
          refine f_nm e_z1_37 ?_
          refine w_st (ls2 := [some (.ref 55), some (iv z1_37), some (.ref 58), some (iv 3), some (iv x4_13), some (iv z5_23)]) (fun _ => rfl) ?_
          obtain ⟨z4_38, e_z4_38⟩ : ∃ q : Int, q = wr (x4_13 + 1) := ⟨_, rfl⟩
          have r_z4_38 : rg z4_38 := by rw [e_z4_38]; exact wr_rg _
          replace H := H z4_38 e_z4_38
          refine f_iinc (ls2 := [some (.ref 55), some (iv z1_37), some (.ref 58), some (iv 3), some (iv z4_38), some (iv z5_23)]) 1 rfl rfl rfl e_z4_38 rfl ?_
          refine w_st (fun _ => rfl) ?_
          exact ih_13 z1_37 z4_38 (some (iv z5_23)) (Nat.lt_of_lt_of_le H.2 (Nat.le_of_lt_succ hz_13)) r_z1_37 r_z4_38 H.1
        refine z_eq rfl r_z5_23 (fun hq => ?_) (fun hq => ?_)
        · replace H := H.1 hq
          refine f_int 0 rfl rfl ?_
          exact tl_36 0 (by unfold rg; decide) H
        · replace H := H.2 hq
          refine f_int 1 rfl rfl ?_
          refine w_st (fun _ => rfl) ?_
          exact tl_36 1 (by unfold rg; decide) H
  exact lp_13 _ 0 0 none (Nat.lt_succ_self _) (by unfold rg; decide) (by unfold rg; decide) H0_13
/-- TippedCrates$Plan.layOut(II)V -/
def P_27 (d : Nat) (m : Mm) (x1 : Int) (x2 : Int) (Q : Mm → Prop) : Prop :=
  (∀ m2 : Mm, m2 = wt m 7 0 x1 → (∀ m7 : Mm, m7 = wt m2 7 1 x2 → (∀ m12 : Mm, m12 = wt m7 7 3 0 → (∀ m17 : Mm, m17 = wt m12 7 4 0 → CV d 299 [.ref 8, iv 0] m17 (fun m25 =>
    CV d 299 [.ref 9, iv (-1)] m25 (fun m33 =>
    (∃ (I_38 : Int → Mm → Prop) (mu_38 : Int → Mm → Nat), I_38 0 m33 ∧
    ∀ (x3_38 : Int) (m_38 : Mm), rg x3_38 → I_38 x3_38 m_38 →
    (((rd m_38 7 1) ≤ x3_38 → Q m_38) ∧
        (¬ (rd m_38 7 1) ≤ x3_38 → (∃ (I_49 : Int → Mm → Prop) (mu_49 : Int → Mm → Nat), I_49 0 m_38 ∧
          ∀ (x4_49 : Int) (m_49 : Mm), rg x4_49 → I_49 x4_49 m_49 →
          (((rd m_49 7 0) ≤ x4_49 → (∀ z3_71 : Int, z3_71 = wr (x3_38 + 1) → (I_38 z3_71 m_49 ∧ mu_38 z3_71 m_49 < mu_38 x3_38 m_38))) ∧
              (¬ (rd m_49 7 0) ≤ x4_49 → CV d 28 [.ref 7, iv x4_49, iv x3_38] m_49 (fun m62 =>
                (∀ z4_65 : Int, z4_65 = wr (x4_49 + 1) → (I_49 z4_65 m62 ∧ mu_49 z4_65 m62 < mu_49 x4_49 m_49)))))))))))))))
set_option maxRecDepth 20000 in
theorem br_27 {d : Nat} {m : Mm} {x1 : Int} {x2 : Int} {Q : Mm → Prop} (r_x1 : rg x1) (r_x2 : rg x2) (H : P_27 d m x1 x2 Q) : CV (d + 1) 27 [.ref 7, iv x1, iv x2] m Q := by
  unfold P_27 at H
  refine CV_of rfl ?_
  show mm_W d mc_27 0 [some (.ref 7), some (iv x1), some (iv x2), none, none] [] (fm m) (XV Q)
  refine w_st (fun _ => rfl) ?_
  refine w_st (fun _ => rfl) ?_
  obtain ⟨m2, e_m2⟩ : ∃ q : Mm, q = wt m 7 0 x1 := ⟨_, rfl⟩
  replace H := H m2 e_m2
  refine p_7_0 rfl e_m2 ?_
  refine w_st (fun _ => rfl) ?_
  refine w_st (fun _ => rfl) ?_
  obtain ⟨m7, e_m7⟩ : ∃ q : Mm, q = wt m2 7 1 x2 := ⟨_, rfl⟩
  replace H := H m7 e_m7
  refine p_7_1 rfl e_m7 ?_
  refine w_st (fun _ => rfl) ?_
  refine f_int 0 rfl rfl ?_
  obtain ⟨m12, e_m12⟩ : ∃ q : Mm, q = wt m7 7 3 0 := ⟨_, rfl⟩
  replace H := H m12 e_m12
  refine p_7_3 rfl e_m12 ?_
  refine w_st (fun _ => rfl) ?_
  refine f_int 0 rfl rfl ?_
  obtain ⟨m17, e_m17⟩ : ∃ q : Mm, q = wt m12 7 4 0 := ⟨_, rfl⟩
  replace H := H m17 e_m17
  refine p_7_4 rfl e_m17 ?_
  refine w_st (fun _ => rfl) ?_
  refine g_7_5 rfl ?_
  refine f_int 0 rfl rfl ?_
  refine k_SV (as := [.ref 8, iv 0]) rfl mg_27 rfl rfl rfl H (fun m25 H => ?_)
  refine w_st (fun _ => rfl) ?_
  refine g_7_6 rfl ?_
  refine f_int (-1) rfl rfl ?_
  refine k_SV (as := [.ref 9, iv (-1)]) rfl mg_27 rfl rfl rfl H (fun m33 H => ?_)
  refine f_int 0 rfl rfl ?_
  refine w_st (ls2 := [some (.ref 7), some (iv x1), some (iv x2), some (iv 0), none]) (fun _ => rfl) ?_
  obtain ⟨I_38, mu_38, H0_38, HB_38⟩ := H
  have lp_38 : ∀ (z : Nat) (x3_38 : Int) (m_38 : Mm) (g4_38 : Option Value), mu_38 x3_38 m_38 < z → rg x3_38 → I_38 x3_38 m_38 → mm_W d mc_27 38 [some (.ref 7), some (iv x1), some (iv x2), some (iv x3_38), g4_38] [] (fm m_38) (XV Q) := by
    intro z
    induction z with
    | zero => intro x3_38 m_38 g4_38 hz; exact absurd hz (Nat.not_lt_zero _)
    | succ z ih_38 =>
      intro x3_38 m_38 g4_38 hz_38 r_x3_38 hI
      have H := HB_38 x3_38 m_38 r_x3_38 hI
      refine w_st (fun _ => rfl) ?_
      refine w_st (fun _ => rfl) ?_
      refine g_7_1 rfl ?_
      refine b_ge rfl r_x3_38 (rd_rg _ _ _) (fun hq => ?_) (fun hq => ?_)
      · replace H := H.1 hq
        exact f_ret rfl H
      · replace H := H.2 hq
        refine f_int 0 rfl rfl ?_
        refine w_st (ls2 := [some (.ref 7), some (iv x1), some (iv x2), some (iv x3_38), some (iv 0)]) (fun _ => rfl) ?_
        obtain ⟨I_49, mu_49, H0_49, HB_49⟩ := H
        have lp_49 : ∀ (z : Nat) (x4_49 : Int) (m_49 : Mm), mu_49 x4_49 m_49 < z → rg x4_49 → I_49 x4_49 m_49 → mm_W d mc_27 49 [some (.ref 7), some (iv x1), some (iv x2), some (iv x3_38), some (iv x4_49)] [] (fm m_49) (XV Q) := by
          intro z
          induction z with
          | zero => intro x4_49 m_49 hz; exact absurd hz (Nat.not_lt_zero _)
          | succ z ih_49 =>
            intro x4_49 m_49 hz_49 r_x4_49 hI
            have H := HB_49 x4_49 m_49 r_x4_49 hI
            refine w_st (fun _ => rfl) ?_
            refine w_st (fun _ => rfl) ?_
            refine g_7_0 rfl ?_
            refine b_ge rfl r_x4_49 (rd_rg _ _ _) (fun hq => ?_) (fun hq => ?_)
            · replace H := H.1 hq
              obtain ⟨z3_71, e_z3_71⟩ : ∃ q : Int, q = wr (x3_38 + 1) := ⟨_, rfl⟩
              have r_z3_71 : rg z3_71 := by rw [e_z3_71]; exact wr_rg _
              replace H := H z3_71 e_z3_71
              refine f_iinc (ls2 := [some (.ref 7), some (iv x1), some (iv x2), some (iv z3_71), some (iv x4_49)]) 1 rfl rfl rfl e_z3_71 rfl ?_
              refine w_st (fun _ => rfl) ?_
              exact ih_38 z3_71 m_49 (some (iv x4_49)) (Nat.lt_of_lt_of_le H.2 (Nat.le_of_lt_succ hz_38)) r_z3_71 H.1
            · replace H := H.2 hq
              refine w_st (fun _ => rfl) ?_
              refine w_st (fun _ => rfl) ?_
              refine w_st (fun _ => rfl) ?_
              refine k_VV (as := [iv x4_49, iv x3_38]) rfl mg_27 rfl rfl (by decide) rfl rfl H (fun m62 H => ?_)
              obtain ⟨z4_65, e_z4_65⟩ : ∃ q : Int, q = wr (x4_49 + 1) := ⟨_, rfl⟩
              have r_z4_65 : rg z4_65 := by rw [e_z4_65]; exact wr_rg _
              replace H := H z4_65 e_z4_65
              refine f_iinc (ls2 := [some (.ref 7), some (iv x1), some (iv x2), some (iv x3_38), some (iv z4_65)]) 1 rfl rfl rfl e_z4_65 rfl ?_
              refine w_st (fun _ => rfl) ?_
              exact ih_49 z4_65 m62 (Nat.lt_of_lt_of_le H.2 (Nat.le_of_lt_succ hz_49)) r_z4_65 H.1
        exact lp_49 _ 0 m_38 (Nat.lt_succ_self _) (by unfold rg; decide) H0_49
  exact lp_38 _ 0 m33 none (Nat.lt_succ_self _) (by unfold rg; decide) H0_38
/-- TippedCrates$Plan.layFlag(II)V -/
def P_28 (d : Nat) (m : Mm) (x1 : Int) (x2 : Int) (Q : Mm → Prop) : Prop :=
  CK d 29 [.ref 7, iv x1, iv x2] m (fun m3 v3 =>
    (((0 : Int) ≤ v3 ∧ v3 < 25) ∧ (∀ m13 : Mm, m13 = wt m3 16 (Int.toNat v3) x1 → (((0 : Int) ≤ v3 ∧ v3 < 25) ∧ (∀ m20 : Mm, m20 = wt m13 17 (Int.toNat v3) x2 → (∃ (I_24 : Int → Mm → Prop) (mu_24 : Int → Mm → Nat), I_24 0 m20 ∧
    ∀ (x4_24 : Int) (m_24 : Mm), rg x4_24 → I_24 x4_24 m_24 →
    ((4 ≤ x4_24 → Q m_24) ∧
        (¬ 4 ≤ x4_24 → (((0 : Int) ≤ x4_24 ∧ x4_24 < 4) ∧ (∀ z5_38 : Int, z5_38 = (wr (x1 + (sx 2 x4_24))) → (((0 : Int) ≤ x4_24 ∧ x4_24 < 4) ∧ (∀ z6_48 : Int, z6_48 = (wr (x2 + (sx 3 x4_24))) → CK d 166 [iv z5_38, iv 0, iv (wr ((rd m_24 7 0) - 1))] m_24 (fun m59 v59 =>
          (∃ R_85 : Int → Mm → Prop,
          (∃ R_84 : Mm → Prop,
          ((v59 = 0 → R_84 m59) ∧
          (¬ v59 = 0 → CK d 166 [iv z6_48, iv 0, iv (wr ((rd m59 7 1) - 1))] m59 (fun m74 v74 =>
            ((v74 = 0 → R_84 m74) ∧
            (¬ v74 = 0 → R_85 1 m74))))) ∧
          (∀ (m_84 : Mm), R_84 m_84 →
          R_85 0 m_84)) ∧
          (∀ (s0_85 : Int) (m_85 : Mm), rg s0_85 → R_85 s0_85 m_85 →
          (∃ R_114 : Int → Mm → Prop,
            ((s0_85 = 0 → R_114 (-1) m_85) ∧
            (¬ s0_85 = 0 → CK d 29 [.ref 7, iv z5_38, iv z6_48] m_85 (fun m107 v107 =>
              R_114 v107 m107))) ∧
            (∀ (s2_114 : Int) (m_114 : Mm), rg s2_114 → R_114 s2_114 m_114 →
            (((0 : Int) ≤ (wr ((wr (v3 * 4)) + x4_24)) ∧ (wr ((wr (v3 * 4)) + x4_24)) < 100) ∧ (∀ m114 : Mm, m114 = wt m_114 18 (Int.toNat (wr ((wr (v3 * 4)) + x4_24))) s2_114 → (∀ z4_115 : Int, z4_115 = wr (x4_24 + 1) → (I_24 z4_115 m114 ∧ mu_24 z4_115 m114 < mu_24 x4_24 m_24)))))))))))))))))))))
set_option maxRecDepth 20000 in
theorem br_28 {d : Nat} {m : Mm} {x1 : Int} {x2 : Int} {Q : Mm → Prop} (r_x1 : rg x1) (r_x2 : rg x2) (H : P_28 d m x1 x2 Q) : CV (d + 1) 28 [.ref 7, iv x1, iv x2] m Q := by
  unfold P_28 at H
  refine CV_of rfl ?_
  show mm_W d mc_28 0 [some (.ref 7), some (iv x1), some (iv x2), none, none, none, none, none] [] (fm m) (XV Q)
  refine w_st (fun _ => rfl) ?_
  refine w_st (fun _ => rfl) ?_
  refine w_st (fun _ => rfl) ?_
  refine k_VK (as := [iv x1, iv x2]) rfl mg_28 rfl rfl (by decide) rfl rfl H (fun m3 v3 r_v3 H => ?_)
  refine w_st (ls2 := [some (.ref 7), some (iv x1), some (iv x2), some (iv v3), none, none, none, none]) (fun _ => rfl) ?_
  refine w_st (fun _ => rfl) ?_
  refine g_7_9 rfl ?_
  refine w_st (fun _ => rfl) ?_
  refine w_st (fun _ => rfl) ?_
  obtain ⟨m13, e_m13⟩ : ∃ q : Mm, q = wt m3 16 (Int.toNat v3) x1 := ⟨_, rfl⟩
  refine f_st ir_16 rfl H.1 e_m13 ?_
  replace H := H.2 m13 e_m13
  refine w_st (fun _ => rfl) ?_
  refine g_7_10 rfl ?_
  refine w_st (fun _ => rfl) ?_
  refine w_st (fun _ => rfl) ?_
  obtain ⟨m20, e_m20⟩ : ∃ q : Mm, q = wt m13 17 (Int.toNat v3) x2 := ⟨_, rfl⟩
  refine f_st ir_17 rfl H.1 e_m20 ?_
  replace H := H.2 m20 e_m20
  refine f_int 0 rfl rfl ?_
  refine w_st (ls2 := [some (.ref 7), some (iv x1), some (iv x2), some (iv v3), some (iv 0), none, none, none]) (fun _ => rfl) ?_
  obtain ⟨I_24, mu_24, H0_24, HB_24⟩ := H
  have lp_24 : ∀ (z : Nat) (x4_24 : Int) (m_24 : Mm) (g5_24 g6_24 g7_24 : Option Value), mu_24 x4_24 m_24 < z → rg x4_24 → I_24 x4_24 m_24 → mm_W d mc_28 24 [some (.ref 7), some (iv x1), some (iv x2), some (iv v3), some (iv x4_24), g5_24, g6_24, g7_24] [] (fm m_24) (XV Q) := by
    intro z
    induction z with
    | zero => intro x4_24 m_24 g5_24 g6_24 g7_24 hz; exact absurd hz (Nat.not_lt_zero _)
    | succ z ih_24 =>
      intro x4_24 m_24 g5_24 g6_24 g7_24 hz_24 r_x4_24 hI
      have H := HB_24 x4_24 m_24 r_x4_24 hI
      refine w_st (fun _ => rfl) ?_
      refine f_int 4 rfl rfl ?_
      refine b_ge rfl r_x4_24 (by unfold rg; decide) (fun hq => ?_) (fun hq => ?_)
      · replace H := H.1 hq
        exact f_ret rfl H
      · replace H := H.2 hq
        refine w_st (fun _ => rfl) ?_
        refine w_st (fun _ => rfl) ?_
        refine w_st (fun _ => rfl) ?_
        refine f_sx (n := 4) 2 (by decide) rfl rfl H.1 ?_
        replace H := H.2
        refine f_add rfl ?_
        obtain ⟨z5_38, e_z5_38⟩ : ∃ q : Int, q = (wr (x1 + (sx 2 x4_24))) := ⟨_, rfl⟩
        have r_z5_38 : rg z5_38 := by rw [e_z5_38]; exact (wr_rg _)
        replace H := H z5_38 e_z5_38
        refine f_nm e_z5_38 ?_
        refine w_st (ls2 := [some (.ref 7), some (iv x1), some (iv x2), some (iv v3), some (iv x4_24), some (iv z5_38), g6_24, g7_24]) (fun _ => rfl) ?_
        refine w_st (fun _ => rfl) ?_
        refine w_st (fun _ => rfl) ?_
        refine w_st (fun _ => rfl) ?_
        refine f_sx (n := 4) 3 (by decide) rfl rfl H.1 ?_
        replace H := H.2
        refine f_add rfl ?_
        obtain ⟨z6_48, e_z6_48⟩ : ∃ q : Int, q = (wr (x2 + (sx 3 x4_24))) := ⟨_, rfl⟩
        have r_z6_48 : rg z6_48 := by rw [e_z6_48]; exact (wr_rg _)
        replace H := H z6_48 e_z6_48
        refine f_nm e_z6_48 ?_
        refine w_st (ls2 := [some (.ref 7), some (iv x1), some (iv x2), some (iv v3), some (iv x4_24), some (iv z5_38), some (iv z6_48), g7_24]) (fun _ => rfl) ?_
        refine w_st (fun _ => rfl) ?_
        refine f_int 0 rfl rfl ?_
        refine w_st (fun _ => rfl) ?_
        refine g_7_0 rfl ?_
        refine f_int 1 rfl rfl ?_
        refine f_sub rfl ?_
        refine k_SK (as := [iv z5_38, iv 0, iv (wr ((rd m_24 7 0) - 1))]) rfl mg_28 rfl rfl rfl H (fun m59 v59 r_v59 H => ?_)
        obtain ⟨R_85, H, HJ_85⟩ := H
        have tl_85 : ∀ (s0_85 : Int) (m_85 : Mm), rg s0_85 → R_85 s0_85 m_85 → mm_W d mc_28 85 [some (.ref 7), some (iv x1), some (iv x2), some (iv v3), some (iv x4_24), some (iv z5_38), some (iv z6_48), g7_24] [iv s0_85] (fm m_85) (XV Q) := by
          intro s0_85 m_85 r_s0_85 hR
          have H := HJ_85 s0_85 m_85 r_s0_85 hR
          refine w_st (ls2 := [some (.ref 7), some (iv x1), some (iv x2), some (iv v3), some (iv x4_24), some (iv z5_38), some (iv z6_48), some (iv s0_85)]) (fun _ => rfl) ?_
          refine w_st (fun _ => rfl) ?_
          refine g_7_11 rfl ?_
          refine w_st (fun _ => rfl) ?_
          refine f_int 4 rfl rfl ?_
          refine f_mul rfl ?_
          refine w_st (fun _ => rfl) ?_
          refine f_add rfl ?_
          refine w_st (fun _ => rfl) ?_
          obtain ⟨R_114, H, HJ_114⟩ := H
          have tl_114 : ∀ (s2_114 : Int) (m_114 : Mm), rg s2_114 → R_114 s2_114 m_114 → mm_W d mc_28 114 [some (.ref 7), some (iv x1), some (iv x2), some (iv v3), some (iv x4_24), some (iv z5_38), some (iv z6_48), some (iv s0_85)] [iv s2_114, iv (wr ((wr (v3 * 4)) + x4_24)), .ref 18] (fm m_114) (XV Q) := by
            intro s2_114 m_114 r_s2_114 hR
            have H := HJ_114 s2_114 m_114 r_s2_114 hR
            obtain ⟨m114, e_m114⟩ : ∃ q : Mm, q = wt m_114 18 (Int.toNat (wr ((wr (v3 * 4)) + x4_24))) s2_114 := ⟨_, rfl⟩
            refine f_st ir_18 rfl H.1 e_m114 ?_
            replace H := H.2 m114 e_m114
            obtain ⟨z4_115, e_z4_115⟩ : ∃ q : Int, q = wr (x4_24 + 1) := ⟨_, rfl⟩
            have r_z4_115 : rg z4_115 := by rw [e_z4_115]; exact wr_rg _
            replace H := H z4_115 e_z4_115
            refine f_iinc (ls2 := [some (.ref 7), some (iv x1), some (iv x2), some (iv v3), some (iv z4_115), some (iv z5_38), some (iv z6_48), some (iv s0_85)]) 1 rfl rfl rfl e_z4_115 rfl ?_
            refine w_st (fun _ => rfl) ?_
            exact ih_24 z4_115 m114 (some (iv z5_38)) (some (iv z6_48)) (some (iv s0_85)) (Nat.lt_of_lt_of_le H.2 (Nat.le_of_lt_succ hz_24)) r_z4_115 H.1
          refine z_eq rfl r_s0_85 (fun hq => ?_) (fun hq => ?_)
          · replace H := H.1 hq
            refine f_int (-1) rfl rfl ?_
            exact tl_114 (-1) m_85 (by unfold rg; decide) H
          · replace H := H.2 hq
            refine w_st (fun _ => rfl) ?_
            refine w_st (fun _ => rfl) ?_
            refine w_st (fun _ => rfl) ?_
            refine k_VK (as := [iv z5_38, iv z6_48]) rfl mg_28 rfl rfl (by decide) rfl rfl H (fun m107 v107 r_v107 H => ?_)
            refine w_st (fun _ => rfl) ?_
            exact tl_114 v107 m107 r_v107 H
        obtain ⟨R_84, H, HJ_84⟩ := H
        have tl_84 : ∀ (m_84 : Mm), R_84 m_84 → mm_W d mc_28 84 [some (.ref 7), some (iv x1), some (iv x2), some (iv v3), some (iv x4_24), some (iv z5_38), some (iv z6_48), g7_24] [] (fm m_84) (XV Q) := by
          intro m_84  hR
          have H := HJ_84 m_84  hR
          refine f_int 0 rfl rfl ?_
          exact tl_85 0 m_84 (by unfold rg; decide) H
        refine z_eq rfl r_v59 (fun hq => ?_) (fun hq => ?_)
        · replace H := H.1 hq
          exact tl_84 m59  H
        · replace H := H.2 hq
          refine w_st (fun _ => rfl) ?_
          refine f_int 0 rfl rfl ?_
          refine w_st (fun _ => rfl) ?_
          refine g_7_1 rfl ?_
          refine f_int 1 rfl rfl ?_
          refine f_sub rfl ?_
          refine k_SK (as := [iv z6_48, iv 0, iv (wr ((rd m59 7 1) - 1))]) rfl mg_28 rfl rfl rfl H (fun m74 v74 r_v74 H => ?_)
          refine z_eq rfl r_v74 (fun hq => ?_) (fun hq => ?_)
          · replace H := H.1 hq
            exact tl_84 m74  H
          · replace H := H.2 hq
            refine f_int 1 rfl rfl ?_
            refine w_st (fun _ => rfl) ?_
            exact tl_85 1 m74 (by unfold rg; decide) H
  exact lp_24 _ 0 m20 none none none (Nat.lt_succ_self _) (by unfold rg; decide) H0_24
/-- TippedCrates$Plan.flagAt(II)I -/
def P_29 (d : Nat) (m : Mm) (x1 : Int) (x2 : Int) (Q : Mm → Int → Prop) : Prop :=
  Q m (wr ((wr ((rd m 7 0) * x2)) + x1))
set_option maxRecDepth 20000 in
theorem br_29 {d : Nat} {m : Mm} {x1 : Int} {x2 : Int} {Q : Mm → Int → Prop} (r_x1 : rg x1) (r_x2 : rg x2) (H : P_29 d m x1 x2 Q) : CK (d + 1) 29 [.ref 7, iv x1, iv x2] m Q := by
  unfold P_29 at H
  refine CK_of rfl ?_
  show mm_W d mc_29 0 [some (.ref 7), some (iv x1), some (iv x2)] [] (fm m) (XK Q)
  refine w_st (fun _ => rfl) ?_
  refine g_7_0 rfl ?_
  refine w_st (fun _ => rfl) ?_
  refine f_mul rfl ?_
  refine w_st (fun _ => rfl) ?_
  refine f_add rfl ?_
  exact f_iret rfl (wr_rg _) H
/-- TippedCrates$Plan.nextFlag(II)I -/
def P_30 (d : Nat) (m : Mm) (x1 : Int) (x2 : Int) (Q : Mm → Int → Prop) : Prop :=
  (((0 : Int) ≤ (wr ((wr (x1 * 4)) + x2)) ∧ (wr ((wr (x1 * 4)) + x2)) < 100) ∧ Q m (rd m 18 (Int.toNat (wr ((wr (x1 * 4)) + x2)))))
set_option maxRecDepth 20000 in
theorem br_30 {d : Nat} {m : Mm} {x1 : Int} {x2 : Int} {Q : Mm → Int → Prop} (r_x1 : rg x1) (r_x2 : rg x2) (H : P_30 d m x1 x2 Q) : CK (d + 1) 30 [.ref 7, iv x1, iv x2] m Q := by
  unfold P_30 at H
  refine CK_of rfl ?_
  show mm_W d mc_30 0 [some (.ref 7), some (iv x1), some (iv x2)] [] (fm m) (XK Q)
  refine w_st (fun _ => rfl) ?_
  refine g_7_11 rfl ?_
  refine w_st (fun _ => rfl) ?_
  refine f_int 4 rfl rfl ?_
  refine f_mul rfl ?_
  refine w_st (fun _ => rfl) ?_
  refine f_add rfl ?_
  refine f_ld ir_18 rfl H.1 ?_
  replace H := H.2
  exact f_iret rfl (rd_rg _ _ _) H
/-- TippedCrates$Plan.isShut(I)Z -/
def P_31 (d : Nat) (m : Mm) (x1 : Int) (Q : Mm → Int → Prop) : Prop :=
  (∃ R_17 : Int → Prop,
    ((¬ (anI (srI (rd m 7 4) x1) 1) = 1 → R_17 0) ∧
    ((anI (srI (rd m 7 4) x1) 1) = 1 → R_17 1)) ∧
    (∀ (s0_17 : Int) , rg s0_17 → R_17 s0_17 →
    ((s0_17 = 0 ∨ s0_17 = 1) ∧ Q m s0_17)))
set_option maxRecDepth 20000 in
theorem br_31 {d : Nat} {m : Mm} {x1 : Int} {Q : Mm → Int → Prop} (r_x1 : rg x1) (H : P_31 d m x1 Q) : CK (d + 1) 31 [.ref 7, iv x1] m Q := by
  unfold P_31 at H
  refine CK_of rfl ?_
  show mm_W d mc_31 0 [some (.ref 7), some (iv x1)] [] (fm m) (XK Q)
  refine w_st (fun _ => rfl) ?_
  refine g_7_4 rfl ?_
  refine w_st (fun _ => rfl) ?_
  refine f_srI rfl ?_
  refine f_int 1 rfl rfl ?_
  refine f_anI rfl ?_
  refine f_int 1 rfl rfl ?_
  obtain ⟨R_17, H, HJ_17⟩ := H
  have tl_17 : ∀ (s0_17 : Int) , rg s0_17 → R_17 s0_17 → mm_W d mc_31 17 [some (.ref 7), some (iv x1)] [iv s0_17] (fm m) (XK Q) := by
    intro s0_17 r_s0_17 hR
    have H := HJ_17 s0_17 r_s0_17 hR
    exact f_zret rfl r_s0_17 H.1 H.2
  refine b_ne rfl (io_rg _ _ _) (by unfold rg; decide) (fun hq => ?_) (fun hq => ?_)
  · replace H := H.1 hq
    refine f_int 0 rfl rfl ?_
    exact tl_17 0 (by unfold rg; decide) H
  · replace H := H.2 hq
    refine f_int 1 rfl rfl ?_
    refine w_st (fun _ => rfl) ?_
    exact tl_17 1 (by unfold rg; decide) H
/-- TippedCrates$Plan.allFlags()I -/
def P_32 (d : Nat) (m : Mm)  (Q : Mm → Int → Prop) : Prop :=
  Q m (wr ((slI 1 (wr ((rd m 7 0) * (rd m 7 1)))) - 1))
set_option maxRecDepth 20000 in
theorem br_32 {d : Nat} {m : Mm}  {Q : Mm → Int → Prop}  (H : P_32 d m  Q) : CK (d + 1) 32 [.ref 7] m Q := by
  unfold P_32 at H
  refine CK_of rfl ?_
  show mm_W d mc_32 0 [some (.ref 7)] [] (fm m) (XK Q)
  refine f_int 1 rfl rfl ?_
  refine w_st (fun _ => rfl) ?_
  refine g_7_0 rfl ?_
  refine w_st (fun _ => rfl) ?_
  refine g_7_1 rfl ?_
  refine f_mul rfl ?_
  refine f_slI rfl ?_
  refine f_int 1 rfl rfl ?_
  refine f_sub rfl ?_
  exact f_iret rfl (wr_rg _) H
/-- TippedCrates$Reader.readTape()I -/
def P_34 (d : Nat) (m : Mm)  (Q : Mm → Int → Prop) : Prop :=
  CV d 35 [.ref 19] m (fun m1 =>
    (∃ (I_6 : Int → Mm → Prop) (mu_6 : Int → Mm → Nat), I_6 0 m1 ∧
    ∀ (x1_6 : Int) (m_6 : Mm), rg x1_6 → I_6 x1_6 m_6 →
    (∃ R_39 : Mm → Prop,
        ((400 < x1_6 → R_39 m_6) ∧
        (¬ 400 < x1_6 → ((¬ (rd m_6 19 5) = 0 → R_39 m_6) ∧
          ((rd m_6 19 5) = 0 → CK d 36 [.ref 19] m_6 (fun m21 v21 =>
            ((v21 = 23 → R_39 m21) ∧
            (¬ v21 = 23 → CV d 41 [.ref 19] m21 (fun m30 =>
              (∀ z1_33 : Int, z1_33 = wr (x1_6 + 1) → (I_6 z1_33 m30 ∧ mu_6 z1_33 m30 < mu_6 x1_6 m_6)))))))))) ∧
        (∀ (m_39 : Mm), R_39 m_39 →
        (∃ R_69 : Mm → Prop,
          ((¬ (rd m_39 19 5) = 0 → R_69 m_39) ∧
          ((rd m_39 19 5) = 0 → (((rd m_39 19 6) = 0 → R_69 m_39) ∧
            (¬ (rd m_39 19 6) = 0 → (∀ m58 : Mm, m58 = wt m_39 19 5 (rd m_39 19 6) → (∀ m66 : Mm, m66 = wt m58 19 0 (rd m58 19 7) → R_69 m66)))))) ∧
          (∀ (m_69 : Mm), R_69 m_69 →
          (∃ R_100 : Mm → Prop,
            ((¬ (rd m_69 19 5) = 0 → R_100 m_69) ∧
            ((rd m_69 19 5) = 0 → CK d 51 [.ref 19] m_69 (fun m77 v77 =>
              ((¬ v77 = 0 → R_100 m77) ∧
              (v77 = 0 → (∀ m86 : Mm, m86 = wt m77 19 5 6 → (∀ m97 : Mm, m97 = wt m86 19 0 (rd m86 1 0) → R_100 m97))))))) ∧
            (∀ (m_100 : Mm), R_100 m_100 →
            (∃ R_111 : Mm → Prop,
              ((¬ (rd m_100 19 5) = 0 → R_111 m_100) ∧
              ((rd m_100 19 5) = 0 → CV d 54 [.ref 19] m_100 (fun m108 =>
                R_111 m108))) ∧
              (∀ (m_111 : Mm), R_111 m_111 →
              Q m_111 (rd m_111 19 5)))))))))))
set_option maxRecDepth 20000 in
theorem br_34 {d : Nat} {m : Mm}  {Q : Mm → Int → Prop}  (H : P_34 d m  Q) : CK (d + 1) 34 [.ref 19] m Q := by
  unfold P_34 at H
  refine CK_of rfl ?_
  show mm_W d mc_34 0 [some (.ref 19), none] [] (fm m) (XK Q)
  refine w_st (fun _ => rfl) ?_
  refine k_VV (as := []) rfl mg_34 rfl rfl (by decide) rfl rfl H (fun m1 H => ?_)
  refine f_int 0 rfl rfl ?_
  refine w_st (ls2 := [some (.ref 19), some (iv 0)]) (fun _ => rfl) ?_
  obtain ⟨I_6, mu_6, H0_6, HB_6⟩ := H
  have lp_6 : ∀ (z : Nat) (x1_6 : Int) (m_6 : Mm), mu_6 x1_6 m_6 < z → rg x1_6 → I_6 x1_6 m_6 → mm_W d mc_34 6 [some (.ref 19), some (iv x1_6)] [] (fm m_6) (XK Q) := by
    intro z
    induction z with
    | zero => intro x1_6 m_6 hz; exact absurd hz (Nat.not_lt_zero _)
    | succ z ih_6 =>
      intro x1_6 m_6 hz_6 r_x1_6 hI
      have H := HB_6 x1_6 m_6 r_x1_6 hI
      refine w_st (fun _ => rfl) ?_
      refine f_int 400 rfl rfl ?_
      obtain ⟨R_39, H, HJ_39⟩ := H
      have tl_39 : ∀ (m_39 : Mm), R_39 m_39 → mm_W d mc_34 39 [some (.ref 19), some (iv x1_6)] [] (fm m_39) (XK Q) := by
        intro m_39  hR
        have H := HJ_39 m_39  hR
        refine w_st (fun _ => rfl) ?_
        refine g_19_5 rfl ?_
        obtain ⟨R_69, H, HJ_69⟩ := H
        have tl_69 : ∀ (m_69 : Mm), R_69 m_69 → mm_W d mc_34 69 [some (.ref 19), some (iv x1_6)] [] (fm m_69) (XK Q) := by
          intro m_69  hR
          have H := HJ_69 m_69  hR
          refine w_st (fun _ => rfl) ?_
          refine g_19_5 rfl ?_
          obtain ⟨R_100, H, HJ_100⟩ := H
          have tl_100 : ∀ (m_100 : Mm), R_100 m_100 → mm_W d mc_34 100 [some (.ref 19), some (iv x1_6)] [] (fm m_100) (XK Q) := by
            intro m_100  hR
            have H := HJ_100 m_100  hR
            refine w_st (fun _ => rfl) ?_
            refine g_19_5 rfl ?_
            obtain ⟨R_111, H, HJ_111⟩ := H
            have tl_111 : ∀ (m_111 : Mm), R_111 m_111 → mm_W d mc_34 111 [some (.ref 19), some (iv x1_6)] [] (fm m_111) (XK Q) := by
              intro m_111  hR
              have H := HJ_111 m_111  hR
              refine w_st (fun _ => rfl) ?_
              refine g_19_5 rfl ?_
              exact f_iret rfl (rd_rg _ _ _) H
            refine z_ne rfl (rd_rg _ _ _) (fun hq => ?_) (fun hq => ?_)
            · replace H := H.1 hq
              exact tl_111 m_100  H
            · replace H := H.2 hq
              refine w_st (fun _ => rfl) ?_
              refine k_VV (as := []) rfl mg_34 rfl rfl (by decide) rfl rfl H (fun m108 H => ?_)
              exact tl_111 m108  H
          refine z_ne rfl (rd_rg _ _ _) (fun hq => ?_) (fun hq => ?_)
          · replace H := H.1 hq
            exact tl_100 m_69  H
          · replace H := H.2 hq
            refine w_st (fun _ => rfl) ?_
            refine k_VK (as := []) rfl mg_34 rfl rfl (by decide) rfl rfl H (fun m77 v77 r_v77 H => ?_)
            refine z_ne rfl r_v77 (fun hq => ?_) (fun hq => ?_)
            · replace H := H.1 hq
              exact tl_100 m77  H
            · replace H := H.2 hq
              refine w_st (fun _ => rfl) ?_
              refine f_int 6 rfl rfl ?_
              obtain ⟨m86, e_m86⟩ : ∃ q : Mm, q = wt m77 19 5 6 := ⟨_, rfl⟩
              replace H := H m86 e_m86
              refine p_19_5 rfl e_m86 ?_
              refine w_st (fun _ => rfl) ?_
              refine w_st (fun _ => rfl) ?_
              refine g_19_1 rfl ?_
              refine g_1_0 rfl ?_
              obtain ⟨m97, e_m97⟩ : ∃ q : Mm, q = wt m86 19 0 (rd m86 1 0) := ⟨_, rfl⟩
              replace H := H m97 e_m97
              refine p_19_0 rfl e_m97 ?_
              exact tl_100 m97  H
        refine z_ne rfl (rd_rg _ _ _) (fun hq => ?_) (fun hq => ?_)
        · replace H := H.1 hq
          exact tl_69 m_39  H
        · replace H := H.2 hq
          refine w_st (fun _ => rfl) ?_
          refine g_19_6 rfl ?_
          refine z_eq rfl (rd_rg _ _ _) (fun hq => ?_) (fun hq => ?_)
          · replace H := H.1 hq
            exact tl_69 m_39  H
          · replace H := H.2 hq
            refine w_st (fun _ => rfl) ?_
            refine w_st (fun _ => rfl) ?_
            refine g_19_6 rfl ?_
            obtain ⟨m58, e_m58⟩ : ∃ q : Mm, q = wt m_39 19 5 (rd m_39 19 6) := ⟨_, rfl⟩
            replace H := H m58 e_m58
            refine p_19_5 rfl e_m58 ?_
            refine w_st (fun _ => rfl) ?_
            refine w_st (fun _ => rfl) ?_
            refine g_19_7 rfl ?_
            obtain ⟨m66, e_m66⟩ : ∃ q : Mm, q = wt m58 19 0 (rd m58 19 7) := ⟨_, rfl⟩
            replace H := H m66 e_m66
            refine p_19_0 rfl e_m66 ?_
            exact tl_69 m66  H
      refine b_gt rfl r_x1_6 (by unfold rg; decide) (fun hq => ?_) (fun hq => ?_)
      · replace H := H.1 hq
        exact tl_39 m_6  H
      · replace H := H.2 hq
        refine w_st (fun _ => rfl) ?_
        refine g_19_5 rfl ?_
        refine z_ne rfl (rd_rg _ _ _) (fun hq => ?_) (fun hq => ?_)
        · replace H := H.1 hq
          exact tl_39 m_6  H
        · replace H := H.2 hq
          refine w_st (fun _ => rfl) ?_
          refine k_VK (as := []) rfl mg_34 rfl rfl (by decide) rfl rfl H (fun m21 v21 r_v21 H => ?_)
          refine f_int 23 rfl rfl ?_
          refine b_eq rfl r_v21 (by unfold rg; decide) (fun hq => ?_) (fun hq => ?_)
          · replace H := H.1 hq
            exact tl_39 m21  H
          · replace H := H.2 hq
            refine w_st (fun _ => rfl) ?_
            refine k_VV (as := []) rfl mg_34 rfl rfl (by decide) rfl rfl H (fun m30 H => ?_)
            obtain ⟨z1_33, e_z1_33⟩ : ∃ q : Int, q = wr (x1_6 + 1) := ⟨_, rfl⟩
            have r_z1_33 : rg z1_33 := by rw [e_z1_33]; exact wr_rg _
            replace H := H z1_33 e_z1_33
            refine f_iinc (ls2 := [some (.ref 19), some (iv z1_33)]) 1 rfl rfl rfl e_z1_33 rfl ?_
            refine w_st (fun _ => rfl) ?_
            exact ih_6 z1_33 m30 (Nat.lt_of_lt_of_le H.2 (Nat.le_of_lt_succ hz_6)) r_z1_33 H.1
  exact lp_6 _ 0 m1 (Nat.lt_succ_self _) (by unfold rg; decide) H0_6
/-- TippedCrates$Reader.begin()V -/
def P_35 (d : Nat) (m : Mm)  (Q : Mm → Prop) : Prop :=
  (∀ m2 : Mm, m2 = wt m 19 5 0 → (∀ m7 : Mm, m7 = wt m2 19 0 (-1) → (∀ m12 : Mm, m12 = wt m7 19 6 0 → (∀ m17 : Mm, m17 = wt m12 19 7 (-1) → (∀ m22 : Mm, m22 = wt m17 19 8 4 → (∀ m27 : Mm, m27 = wt m22 19 9 4 → (∀ m32 : Mm, m32 = wt m27 19 10 0 → (∀ m37 : Mm, m37 = wt m32 19 11 0 → (∀ m42 : Mm, m42 = wt m37 19 12 0 → (∀ m47 : Mm, m47 = wt m42 19 13 0 → CV d 13 [.ref 20] m47 (fun m54 =>
    CV d 87 [.ref 1] m54 (fun m61 =>
    (∀ m66 : Mm, m66 = wt m61 19 4 0 → Q m66)))))))))))))
set_option maxRecDepth 20000 in
theorem br_35 {d : Nat} {m : Mm}  {Q : Mm → Prop}  (H : P_35 d m  Q) : CV (d + 1) 35 [.ref 19] m Q := by
  unfold P_35 at H
  refine CV_of rfl ?_
  show mm_W d mc_35 0 [some (.ref 19)] [] (fm m) (XV Q)
  refine w_st (fun _ => rfl) ?_
  refine f_int 0 rfl rfl ?_
  obtain ⟨m2, e_m2⟩ : ∃ q : Mm, q = wt m 19 5 0 := ⟨_, rfl⟩
  replace H := H m2 e_m2
  refine p_19_5 rfl e_m2 ?_
  refine w_st (fun _ => rfl) ?_
  refine f_int (-1) rfl rfl ?_
  obtain ⟨m7, e_m7⟩ : ∃ q : Mm, q = wt m2 19 0 (-1) := ⟨_, rfl⟩
  replace H := H m7 e_m7
  refine p_19_0 rfl e_m7 ?_
  refine w_st (fun _ => rfl) ?_
  refine f_int 0 rfl rfl ?_
  obtain ⟨m12, e_m12⟩ : ∃ q : Mm, q = wt m7 19 6 0 := ⟨_, rfl⟩
  replace H := H m12 e_m12
  refine p_19_6 rfl e_m12 ?_
  refine w_st (fun _ => rfl) ?_
  refine f_int (-1) rfl rfl ?_
  obtain ⟨m17, e_m17⟩ : ∃ q : Mm, q = wt m12 19 7 (-1) := ⟨_, rfl⟩
  replace H := H m17 e_m17
  refine p_19_7 rfl e_m17 ?_
  refine w_st (fun _ => rfl) ?_
  refine f_int 4 rfl rfl ?_
  obtain ⟨m22, e_m22⟩ : ∃ q : Mm, q = wt m17 19 8 4 := ⟨_, rfl⟩
  replace H := H m22 e_m22
  refine p_19_8 rfl e_m22 ?_
  refine w_st (fun _ => rfl) ?_
  refine f_int 4 rfl rfl ?_
  obtain ⟨m27, e_m27⟩ : ∃ q : Mm, q = wt m22 19 9 4 := ⟨_, rfl⟩
  replace H := H m27 e_m27
  refine p_19_9 rfl e_m27 ?_
  refine w_st (fun _ => rfl) ?_
  refine f_int 0 rfl rfl ?_
  obtain ⟨m32, e_m32⟩ : ∃ q : Mm, q = wt m27 19 10 0 := ⟨_, rfl⟩
  replace H := H m32 e_m32
  refine p_19_10 rfl e_m32 ?_
  refine w_st (fun _ => rfl) ?_
  refine f_int 0 rfl rfl ?_
  obtain ⟨m37, e_m37⟩ : ∃ q : Mm, q = wt m32 19 11 0 := ⟨_, rfl⟩
  replace H := H m37 e_m37
  refine p_19_11 rfl e_m37 ?_
  refine w_st (fun _ => rfl) ?_
  refine f_int 0 rfl rfl ?_
  obtain ⟨m42, e_m42⟩ : ∃ q : Mm, q = wt m37 19 12 0 := ⟨_, rfl⟩
  replace H := H m42 e_m42
  refine p_19_12 rfl e_m42 ?_
  refine w_st (fun _ => rfl) ?_
  refine f_int 0 rfl rfl ?_
  obtain ⟨m47, e_m47⟩ : ∃ q : Mm, q = wt m42 19 13 0 := ⟨_, rfl⟩
  replace H := H m47 e_m47
  refine p_19_13 rfl e_m47 ?_
  refine w_st (fun _ => rfl) ?_
  refine g_19_3 rfl ?_
  refine k_VV (as := []) rfl mg_35 rfl rfl (lw_l0 lw_20) (lw_ck lw_20 _ _).1 rfl H (fun m54 H => ?_)
  refine w_st (fun _ => rfl) ?_
  refine g_19_1 rfl ?_
  refine k_VV (as := []) rfl mg_35 rfl rfl (by decide) rfl rfl H (fun m61 H => ?_)
  refine w_st (fun _ => rfl) ?_
  refine f_int 0 rfl rfl ?_
  obtain ⟨m66, e_m66⟩ : ∃ q : Mm, q = wt m61 19 4 0 := ⟨_, rfl⟩
  replace H := H m66 e_m66
  refine p_19_4 rfl e_m66 ?_
  exact f_ret rfl H
/-- TippedCrates$Reader.kind()I -/
def P_36 (d : Nat) (m : Mm)  (Q : Mm → Int → Prop) : Prop :=
  (((0 : Int) ≤ (rd m 19 4) ∧ (rd m 19 4) < 401) ∧ Q m (rd m 2 (Int.toNat (rd m 19 4))))
set_option maxRecDepth 20000 in
theorem br_36 {d : Nat} {m : Mm}  {Q : Mm → Int → Prop}  (H : P_36 d m  Q) : CK (d + 1) 36 [.ref 19] m Q := by
  unfold P_36 at H
  refine CK_of rfl ?_
  show mm_W d mc_36 0 [some (.ref 19)] [] (fm m) (XK Q)
  refine w_st (fun _ => rfl) ?_
  refine g_19_1 rfl ?_
  refine g_1_1 rfl ?_
  refine w_st (fun _ => rfl) ?_
  refine g_19_4 rfl ?_
  refine f_ld ir_2 rfl H.1 ?_
  replace H := H.2
  exact f_iret rfl (rd_rg _ _ _) H
/-- TippedCrates$Reader.fail(I)V -/
def P_37 (d : Nat) (m : Mm) (x1 : Int) (Q : Mm → Prop) : Prop :=
  (∃ R_28 : Mm → Prop,
    ((¬ (rd m 19 5) = 0 → R_28 m) ∧
    ((rd m 19 5) = 0 → (∀ m9 : Mm, m9 = wt m 19 5 x1 → (((0 : Int) ≤ (rd m9 19 4) ∧ (rd m9 19 4) < 401) ∧ (∀ m25 : Mm, m25 = wt m9 19 0 (rd m9 3 (Int.toNat (rd m9 19 4))) → R_28 m25))))) ∧
    (∀ (m_28 : Mm), R_28 m_28 →
    Q m_28))
set_option maxRecDepth 20000 in
theorem br_37 {d : Nat} {m : Mm} {x1 : Int} {Q : Mm → Prop} (r_x1 : rg x1) (H : P_37 d m x1 Q) : CV (d + 1) 37 [.ref 19, iv x1] m Q := by
  unfold P_37 at H
  refine CV_of rfl ?_
  show mm_W d mc_37 0 [some (.ref 19), some (iv x1)] [] (fm m) (XV Q)
  refine w_st (fun _ => rfl) ?_
  refine g_19_5 rfl ?_
  obtain ⟨R_28, H, HJ_28⟩ := H
  have tl_28 : ∀ (m_28 : Mm), R_28 m_28 → mm_W d mc_37 28 [some (.ref 19), some (iv x1)] [] (fm m_28) (XV Q) := by
    intro m_28  hR
    have H := HJ_28 m_28  hR
    exact f_ret rfl H
  refine z_ne rfl (rd_rg _ _ _) (fun hq => ?_) (fun hq => ?_)
  · replace H := H.1 hq
    exact tl_28 m  H
  · replace H := H.2 hq
    refine w_st (fun _ => rfl) ?_
    refine w_st (fun _ => rfl) ?_
    obtain ⟨m9, e_m9⟩ : ∃ q : Mm, q = wt m 19 5 x1 := ⟨_, rfl⟩
    replace H := H m9 e_m9
    refine p_19_5 rfl e_m9 ?_
    refine w_st (fun _ => rfl) ?_
    refine w_st (fun _ => rfl) ?_
    refine g_19_1 rfl ?_
    refine g_1_2 rfl ?_
    refine w_st (fun _ => rfl) ?_
    refine g_19_4 rfl ?_
    refine f_ld ir_3 rfl H.1 ?_
    replace H := H.2
    obtain ⟨m25, e_m25⟩ : ∃ q : Mm, q = wt m9 19 0 (rd m9 3 (Int.toNat (rd m9 19 4))) := ⟨_, rfl⟩
    replace H := H m25 e_m25
    refine p_19_0 rfl e_m25 ?_
    exact tl_28 m25  H
/-- TippedCrates$Reader.failLater(II)V -/
def P_38 (d : Nat) (m : Mm) (x1 : Int) (x2 : Int) (Q : Mm → Prop) : Prop :=
  (∃ R_17 : Mm → Prop,
    ((¬ (rd m 19 6) = 0 → R_17 m) ∧
    ((rd m 19 6) = 0 → (∀ m9 : Mm, m9 = wt m 19 6 x1 → (∀ m14 : Mm, m14 = wt m9 19 7 x2 → R_17 m14)))) ∧
    (∀ (m_17 : Mm), R_17 m_17 →
    Q m_17))
set_option maxRecDepth 20000 in
theorem br_38 {d : Nat} {m : Mm} {x1 : Int} {x2 : Int} {Q : Mm → Prop} (r_x1 : rg x1) (r_x2 : rg x2) (H : P_38 d m x1 x2 Q) : CV (d + 1) 38 [.ref 19, iv x1, iv x2] m Q := by
  unfold P_38 at H
  refine CV_of rfl ?_
  show mm_W d mc_38 0 [some (.ref 19), some (iv x1), some (iv x2)] [] (fm m) (XV Q)
  refine w_st (fun _ => rfl) ?_
  refine g_19_6 rfl ?_
  obtain ⟨R_17, H, HJ_17⟩ := H
  have tl_17 : ∀ (m_17 : Mm), R_17 m_17 → mm_W d mc_38 17 [some (.ref 19), some (iv x1), some (iv x2)] [] (fm m_17) (XV Q) := by
    intro m_17  hR
    have H := HJ_17 m_17  hR
    exact f_ret rfl H
  refine z_ne rfl (rd_rg _ _ _) (fun hq => ?_) (fun hq => ?_)
  · replace H := H.1 hq
    exact tl_17 m  H
  · replace H := H.2 hq
    refine w_st (fun _ => rfl) ?_
    refine w_st (fun _ => rfl) ?_
    obtain ⟨m9, e_m9⟩ : ∃ q : Mm, q = wt m 19 6 x1 := ⟨_, rfl⟩
    replace H := H m9 e_m9
    refine p_19_6 rfl e_m9 ?_
    refine w_st (fun _ => rfl) ?_
    refine w_st (fun _ => rfl) ?_
    obtain ⟨m14, e_m14⟩ : ∃ q : Mm, q = wt m9 19 7 x2 := ⟨_, rfl⟩
    replace H := H m14 e_m14
    refine p_19_7 rfl e_m14 ?_
    exact tl_17 m14  H
/-- TippedCrates$Reader.take(I)Z -/
def P_39 (d : Nat) (m : Mm) (x1 : Int) (Q : Mm → Int → Prop) : Prop :=
  (((rd m 19 5) = 0 → (((0 : Int) ≤ (rd m 19 4) ∧ (rd m 19 4) < 401) ∧ (∃ R_30 : Int → Prop,
      ((¬ (rd m 2 (Int.toNat (rd m 19 4))) = x1 → R_30 0) ∧
      ((rd m 2 (Int.toNat (rd m 19 4))) = x1 → R_30 1)) ∧
      (∀ (s0_30 : Int) , rg s0_30 → R_30 s0_30 →
      (∃ R_57 : Prop,
        ((s0_30 = 0 → R_57) ∧
        (¬ s0_30 = 0 → ((400 ≤ (rd m 19 4) → R_57) ∧
          (¬ 400 ≤ (rd m 19 4) → (∀ m52 : Mm, m52 = wt m 19 4 (wr ((rd m 19 4) + 1)) → Q m52 1))))) ∧
        (R_57 →
        (∃ R_67 : Int → Prop,
          ((s0_30 = 0 → R_67 1) ∧
          (¬ s0_30 = 0 → R_67 2)) ∧
          (∀ (s1_67 : Int) , rg s1_67 → R_67 s1_67 →
          (∀ m67 : Mm, m67 = wt m 19 5 s1_67 → (((0 : Int) ≤ (rd m67 19 4) ∧ (rd m67 19 4) < 401) ∧ (∀ m83 : Mm, m83 = wt m67 19 0 (rd m67 3 (Int.toNat (rd m67 19 4))) → Q m83 0))))))))))) ∧
    (¬ (rd m 19 5) = 0 → Q m 0))
set_option maxRecDepth 20000 in
theorem br_39 {d : Nat} {m : Mm} {x1 : Int} {Q : Mm → Int → Prop} (r_x1 : rg x1) (H : P_39 d m x1 Q) : CK (d + 1) 39 [.ref 19, iv x1] m Q := by
  unfold P_39 at H
  refine CK_of rfl ?_
  show mm_W d mc_39 0 [some (.ref 19), some (iv x1), none] [] (fm m) (XK Q)
  refine w_st (fun _ => rfl) ?_
  refine g_19_5 rfl ?_
  refine z_eq rfl (rd_rg _ _ _) (fun hq => ?_) (fun hq => ?_)
  · replace H := H.1 hq
    refine w_st (fun _ => rfl) ?_
    refine g_19_1 rfl ?_
    refine g_1_1 rfl ?_
    refine w_st (fun _ => rfl) ?_
    refine g_19_4 rfl ?_
    refine f_ld ir_2 rfl H.1 ?_
    replace H := H.2
    refine w_st (fun _ => rfl) ?_
    obtain ⟨R_30, H, HJ_30⟩ := H
    have tl_30 : ∀ (s0_30 : Int) , rg s0_30 → R_30 s0_30 → mm_W d mc_39 30 [some (.ref 19), some (iv x1), none] [iv s0_30] (fm m) (XK Q) := by
      intro s0_30 r_s0_30 hR
      have H := HJ_30 s0_30 r_s0_30 hR
      refine w_st (ls2 := [some (.ref 19), some (iv x1), some (iv s0_30)]) (fun _ => rfl) ?_
      refine w_st (fun _ => rfl) ?_
      obtain ⟨R_57, H, HJ_57⟩ := H
      have tl_57 : R_57 → mm_W d mc_39 57 [some (.ref 19), some (iv x1), some (iv s0_30)] [] (fm m) (XK Q) := by
        intro   hR
        have H := HJ_57   hR
        refine w_st (fun _ => rfl) ?_
        refine w_st (fun _ => rfl) ?_
        obtain ⟨R_67, H, HJ_67⟩ := H
        have tl_67 : ∀ (s1_67 : Int) , rg s1_67 → R_67 s1_67 → mm_W d mc_39 67 [some (.ref 19), some (iv x1), some (iv s0_30)] [iv s1_67, .ref 19] (fm m) (XK Q) := by
          intro s1_67 r_s1_67 hR
          have H := HJ_67 s1_67 r_s1_67 hR
          obtain ⟨m67, e_m67⟩ : ∃ q : Mm, q = wt m 19 5 s1_67 := ⟨_, rfl⟩
          replace H := H m67 e_m67
          refine p_19_5 rfl e_m67 ?_
          refine w_st (fun _ => rfl) ?_
          refine w_st (fun _ => rfl) ?_
          refine g_19_1 rfl ?_
          refine g_1_2 rfl ?_
          refine w_st (fun _ => rfl) ?_
          refine g_19_4 rfl ?_
          refine f_ld ir_3 rfl H.1 ?_
          replace H := H.2
          obtain ⟨m83, e_m83⟩ : ∃ q : Mm, q = wt m67 19 0 (rd m67 3 (Int.toNat (rd m67 19 4))) := ⟨_, rfl⟩
          replace H := H m83 e_m83
          refine p_19_0 rfl e_m83 ?_
          refine f_int 0 rfl rfl ?_
          exact f_zret rfl (by unfold rg; decide) (Or.inl rfl) H
        refine z_eq rfl r_s0_30 (fun hq => ?_) (fun hq => ?_)
        · replace H := H.1 hq
          refine f_int 1 rfl rfl ?_
          exact tl_67 1 (by unfold rg; decide) H
        · replace H := H.2 hq
          refine f_int 2 rfl rfl ?_
          refine w_st (fun _ => rfl) ?_
          exact tl_67 2 (by unfold rg; decide) H
      refine z_eq rfl r_s0_30 (fun hq => ?_) (fun hq => ?_)
      · replace H := H.1 hq
        exact tl_57   H
      · replace H := H.2 hq
        refine w_st (fun _ => rfl) ?_
        refine g_19_4 rfl ?_
        refine f_int 400 rfl rfl ?_
        refine b_ge rfl (rd_rg _ _ _) (by unfold rg; decide) (fun hq => ?_) (fun hq => ?_)
        · replace H := H.1 hq
          exact tl_57   H
        · replace H := H.2 hq
          refine w_st (fun _ => rfl) ?_
          refine w_st (fun _ => rfl) ?_
          refine g_19_4 rfl ?_
          refine f_int 1 rfl rfl ?_
          refine f_add rfl ?_
          obtain ⟨m52, e_m52⟩ : ∃ q : Mm, q = wt m 19 4 (wr ((rd m 19 4) + 1)) := ⟨_, rfl⟩
          replace H := H m52 e_m52
          refine p_19_4 rfl e_m52 ?_
          refine f_int 1 rfl rfl ?_
          exact f_zret rfl (by unfold rg; decide) (Or.inr rfl) H
    refine b_ne rfl (rd_rg _ _ _) r_x1 (fun hq => ?_) (fun hq => ?_)
    · replace H := H.1 hq
      refine f_int 0 rfl rfl ?_
      exact tl_30 0 (by unfold rg; decide) H
    · replace H := H.2 hq
      refine f_int 1 rfl rfl ?_
      refine w_st (fun _ => rfl) ?_
      exact tl_30 1 (by unfold rg; decide) H
  · replace H := H.2 hq
    refine f_int 0 rfl rfl ?_
    exact f_zret rfl (by unfold rg; decide) (Or.inl rfl) H
/-- TippedCrates$Reader.takeInt(II)I -/
def P_40 (d : Nat) (m : Mm) (x1 : Int) (x2 : Int) (Q : Mm → Int → Prop) : Prop :=
  (((0 : Int) ≤ (rd m 19 4) ∧ (rd m 19 4) < 401) ∧ (∀ z3_13 : Int, z3_13 = (wr (ld m 4 (Int.toNat (rd m 19 4)))) → (((0 : Int) ≤ (rd m 19 4) ∧ (rd m 19 4) < 401) ∧ (∀ z4_26 : Int, z4_26 = (rd m 3 (Int.toNat (rd m 19 4))) → CK d 39 [.ref 19, iv 22] m (fun m31 v31 =>
    ((¬ v31 = 0 → CK d 166 [iv z3_13, iv x1, iv x2] m31 (fun m42 v42 =>
      (∃ R_55 : Mm → Prop,
      ((¬ v42 = 0 → R_55 m42) ∧
      (v42 = 0 → CV d 38 [.ref 19, iv 5, iv z4_26] m42 (fun m52 =>
        R_55 m52))) ∧
      (∀ (m_55 : Mm), R_55 m_55 →
      Q m_55 z3_13)))) ∧
    (v31 = 0 → Q m31 x1)))))))
set_option maxRecDepth 20000 in
theorem br_40 {d : Nat} {m : Mm} {x1 : Int} {x2 : Int} {Q : Mm → Int → Prop} (r_x1 : rg x1) (r_x2 : rg x2) (H : P_40 d m x1 x2 Q) : CK (d + 1) 40 [.ref 19, iv x1, iv x2] m Q := by
  unfold P_40 at H
  refine CK_of rfl ?_
  show mm_W d mc_40 0 [some (.ref 19), some (iv x1), some (iv x2), none, none] [] (fm m) (XK Q)
  refine w_st (fun _ => rfl) ?_
  refine g_19_1 rfl ?_
  refine g_1_3 rfl ?_
  refine w_st (fun _ => rfl) ?_
  refine g_19_4 rfl ?_
  refine f_ldl (n := 401) (by decide) rfl (by decide) rfl H.1 ?_
  replace H := H.2
  refine f_l2i rfl ?_
  obtain ⟨z3_13, e_z3_13⟩ : ∃ q : Int, q = (wr (ld m 4 (Int.toNat (rd m 19 4)))) := ⟨_, rfl⟩
  have r_z3_13 : rg z3_13 := by rw [e_z3_13]; exact (wr_rg _)
  replace H := H z3_13 e_z3_13
  refine f_nm e_z3_13 ?_
  refine w_st (ls2 := [some (.ref 19), some (iv x1), some (iv x2), some (iv z3_13), none]) (fun _ => rfl) ?_
  refine w_st (fun _ => rfl) ?_
  refine g_19_1 rfl ?_
  refine g_1_2 rfl ?_
  refine w_st (fun _ => rfl) ?_
  refine g_19_4 rfl ?_
  refine f_ld ir_3 rfl H.1 ?_
  replace H := H.2
  obtain ⟨z4_26, e_z4_26⟩ : ∃ q : Int, q = (rd m 3 (Int.toNat (rd m 19 4))) := ⟨_, rfl⟩
  have r_z4_26 : rg z4_26 := by rw [e_z4_26]; exact (rd_rg _ _ _)
  replace H := H z4_26 e_z4_26
  refine f_nm e_z4_26 ?_
  refine w_st (ls2 := [some (.ref 19), some (iv x1), some (iv x2), some (iv z3_13), some (iv z4_26)]) (fun _ => rfl) ?_
  refine w_st (fun _ => rfl) ?_
  refine f_int 22 rfl rfl ?_
  refine k_VK (as := [iv 22]) rfl mg_40 rfl rfl (by decide) rfl rfl H (fun m31 v31 r_v31 H => ?_)
  refine z_ne rfl r_v31 (fun hq => ?_) (fun hq => ?_)
  · replace H := H.1 hq
    refine w_st (fun _ => rfl) ?_
    refine w_st (fun _ => rfl) ?_
    refine w_st (fun _ => rfl) ?_
    refine k_SK (as := [iv z3_13, iv x1, iv x2]) rfl mg_40 rfl rfl rfl H (fun m42 v42 r_v42 H => ?_)
    obtain ⟨R_55, H, HJ_55⟩ := H
    have tl_55 : ∀ (m_55 : Mm), R_55 m_55 → mm_W d mc_40 55 [some (.ref 19), some (iv x1), some (iv x2), some (iv z3_13), some (iv z4_26)] [] (fm m_55) (XK Q) := by
      intro m_55  hR
      have H := HJ_55 m_55  hR
      refine w_st (fun _ => rfl) ?_
      exact f_iret rfl r_z3_13 H
    refine z_ne rfl r_v42 (fun hq => ?_) (fun hq => ?_)
    · replace H := H.1 hq
      exact tl_55 m42  H
    · replace H := H.2 hq
      refine w_st (fun _ => rfl) ?_
      refine f_int 5 rfl rfl ?_
      refine w_st (fun _ => rfl) ?_
      refine k_VV (as := [iv 5, iv z4_26]) rfl mg_40 rfl rfl (by decide) rfl rfl H (fun m52 H => ?_)
      exact tl_55 m52  H
  · replace H := H.2 hq
    refine w_st (fun _ => rfl) ?_
    exact f_iret rfl r_x1 H
/-- TippedCrates$Reader.readTell()V -/
def P_41 (d : Nat) (m : Mm)  (Q : Mm → Prop) : Prop :=
  CK d 36 [.ref 19] m (fun m1 v1 =>
    (∃ R_132 : Mm → Prop,
    ((v1 = 0 → CK d 39 [.ref 19, iv v1] m1 (fun m58 v58 =>
      CK d 40 [.ref 19, iv 2, iv 5] m58 (fun m66 v66 =>
      (∀ m69 : Mm, m69 = wt m66 19 8 v66 → CK d 40 [.ref 19, iv 2, iv 5] m69 (fun m76 v76 =>
      (∀ m79 : Mm, m79 = wt m76 19 9 v76 → R_132 m79)))))) ∧
    (v1 = 1 → CV d 42 [.ref 19] m1 (fun m86 =>
        R_132 m86)) ∧
    (v1 = 2 → CV d 43 [.ref 19] m1 (fun m93 =>
          R_132 m93)) ∧
    (v1 = 3 → CV d 44 [.ref 19] m1 (fun m100 =>
            R_132 m100)) ∧
    (v1 = 4 → CV d 46 [.ref 19, iv v1] m1 (fun m129 =>
              R_132 m129)) ∧
    (v1 = 5 → CV d 46 [.ref 19, iv v1] m1 (fun m129 =>
                R_132 m129)) ∧
    (v1 = 6 → CV d 46 [.ref 19, iv v1] m1 (fun m129 =>
                  R_132 m129)) ∧
    (v1 = 7 → CV d 46 [.ref 19, iv v1] m1 (fun m129 =>
                    R_132 m129)) ∧
    (v1 = 8 → CK d 39 [.ref 19, iv v1] m1 (fun m108 v108 =>
                      CK d 40 [.ref 19, iv 0, iv 9999] m108 (fun m118 v118 =>
                      (∀ m121 : Mm, m121 = wt m118 19 10 v118 → R_132 m121)))) ∧
    (v1 < 0 ∨ 8 < v1 → CV d 46 [.ref 19, iv v1] m1 (fun m129 =>
                      R_132 m129))) ∧
    (∀ (m_132 : Mm), R_132 m_132 →
    CK d 39 [.ref 19, iv 59] m_132 (fun m135 v135 =>
      Q m135))))
set_option maxRecDepth 20000 in
theorem br_41 {d : Nat} {m : Mm}  {Q : Mm → Prop}  (H : P_41 d m  Q) : CV (d + 1) 41 [.ref 19] m Q := by
  unfold P_41 at H
  refine CV_of rfl ?_
  show mm_W d mc_41 0 [some (.ref 19), none] [] (fm m) (XV Q)
  refine w_st (fun _ => rfl) ?_
  refine k_VK (as := []) rfl mg_41 rfl rfl (by decide) rfl rfl H (fun m1 v1 r_v1 H => ?_)
  refine w_st (ls2 := [some (.ref 19), some (iv v1)]) (fun _ => rfl) ?_
  refine w_st (fun _ => rfl) ?_
  obtain ⟨R_132, H, HJ_132⟩ := H
  have tl_132 : ∀ (m_132 : Mm), R_132 m_132 → mm_W d mc_41 132 [some (.ref 19), some (iv v1)] [] (fm m_132) (XV Q) := by
    intro m_132  hR
    have H := HJ_132 m_132  hR
    refine w_st (fun _ => rfl) ?_
    refine f_int 59 rfl rfl ?_
    refine k_VK (as := [iv 59]) rfl mg_41 rfl rfl (by decide) rfl rfl H (fun m135 v135 r_v135 H => ?_)
    refine w_st (fun _ => rfl) ?_
    exact f_ret rfl H
  by_cases e0_6 : v1 = 0
  · refine f_tsw 0 rfl r_v1 e0_6 rfl rfl ?_
    replace H := H.1 e0_6
    refine w_st (fun _ => rfl) ?_
    refine w_st (fun _ => rfl) ?_
    refine k_VK (as := [iv v1]) rfl mg_41 rfl rfl (by decide) rfl rfl H (fun m58 v58 r_v58 H => ?_)
    refine w_st (fun _ => rfl) ?_
    refine w_st (fun _ => rfl) ?_
    refine w_st (fun _ => rfl) ?_
    refine f_int 2 rfl rfl ?_
    refine f_int 5 rfl rfl ?_
    refine k_VK (as := [iv 2, iv 5]) rfl mg_41 rfl rfl (by decide) rfl rfl H (fun m66 v66 r_v66 H => ?_)
    obtain ⟨m69, e_m69⟩ : ∃ q : Mm, q = wt m66 19 8 v66 := ⟨_, rfl⟩
    replace H := H m69 e_m69
    refine p_19_8 rfl e_m69 ?_
    refine w_st (fun _ => rfl) ?_
    refine w_st (fun _ => rfl) ?_
    refine f_int 2 rfl rfl ?_
    refine f_int 5 rfl rfl ?_
    refine k_VK (as := [iv 2, iv 5]) rfl mg_41 rfl rfl (by decide) rfl rfl H (fun m76 v76 r_v76 H => ?_)
    obtain ⟨m79, e_m79⟩ : ∃ q : Mm, q = wt m76 19 9 v76 := ⟨_, rfl⟩
    replace H := H m79 e_m79
    refine p_19_9 rfl e_m79 ?_
    refine w_st (fun _ => rfl) ?_
    exact tl_132 m79  H
  · replace H := H.2
    by_cases e1_6 : v1 = 1
    · refine f_tsw 1 rfl r_v1 e1_6 rfl rfl ?_
      replace H := H.1 e1_6
      refine w_st (fun _ => rfl) ?_
      refine k_VV (as := []) rfl mg_41 rfl rfl (by decide) rfl rfl H (fun m86 H => ?_)
      refine w_st (fun _ => rfl) ?_
      exact tl_132 m86  H
    · replace H := H.2
      by_cases e2_6 : v1 = 2
      · refine f_tsw 2 rfl r_v1 e2_6 rfl rfl ?_
        replace H := H.1 e2_6
        refine w_st (fun _ => rfl) ?_
        refine k_VV (as := []) rfl mg_41 rfl rfl (by decide) rfl rfl H (fun m93 H => ?_)
        refine w_st (fun _ => rfl) ?_
        exact tl_132 m93  H
      · replace H := H.2
        by_cases e3_6 : v1 = 3
        · refine f_tsw 3 rfl r_v1 e3_6 rfl rfl ?_
          replace H := H.1 e3_6
          refine w_st (fun _ => rfl) ?_
          refine k_VV (as := []) rfl mg_41 rfl rfl (by decide) rfl rfl H (fun m100 H => ?_)
          refine w_st (fun _ => rfl) ?_
          exact tl_132 m100  H
        · replace H := H.2
          by_cases e4_6 : v1 = 4
          · refine f_tsw 4 rfl r_v1 e4_6 rfl rfl ?_
            replace H := H.1 e4_6
            refine w_st (fun _ => rfl) ?_
            refine w_st (fun _ => rfl) ?_
            refine k_VV (as := [iv v1]) rfl mg_41 rfl rfl (by decide) rfl rfl H (fun m129 H => ?_)
            exact tl_132 m129  H
          · replace H := H.2
            by_cases e5_6 : v1 = 5
            · refine f_tsw 5 rfl r_v1 e5_6 rfl rfl ?_
              replace H := H.1 e5_6
              refine w_st (fun _ => rfl) ?_
              refine w_st (fun _ => rfl) ?_
              refine k_VV (as := [iv v1]) rfl mg_41 rfl rfl (by decide) rfl rfl H (fun m129 H => ?_)
              exact tl_132 m129  H
            · replace H := H.2
              by_cases e6_6 : v1 = 6
              · refine f_tsw 6 rfl r_v1 e6_6 rfl rfl ?_
                replace H := H.1 e6_6
                refine w_st (fun _ => rfl) ?_
                refine w_st (fun _ => rfl) ?_
                refine k_VV (as := [iv v1]) rfl mg_41 rfl rfl (by decide) rfl rfl H (fun m129 H => ?_)
                exact tl_132 m129  H
              · replace H := H.2
                by_cases e7_6 : v1 = 7
                · refine f_tsw 7 rfl r_v1 e7_6 rfl rfl ?_
                  replace H := H.1 e7_6
                  refine w_st (fun _ => rfl) ?_
                  refine w_st (fun _ => rfl) ?_
                  refine k_VV (as := [iv v1]) rfl mg_41 rfl rfl (by decide) rfl rfl H (fun m129 H => ?_)
                  exact tl_132 m129  H
                · replace H := H.2
                  by_cases e8_6 : v1 = 8
                  · refine f_tsw 8 rfl r_v1 e8_6 rfl rfl ?_
                    replace H := H.1 e8_6
                    refine w_st (fun _ => rfl) ?_
                    refine w_st (fun _ => rfl) ?_
                    refine k_VK (as := [iv v1]) rfl mg_41 rfl rfl (by decide) rfl rfl H (fun m108 v108 r_v108 H => ?_)
                    refine w_st (fun _ => rfl) ?_
                    refine w_st (fun _ => rfl) ?_
                    refine w_st (fun _ => rfl) ?_
                    refine f_int 0 rfl rfl ?_
                    refine f_int 9999 rfl rfl ?_
                    refine k_VK (as := [iv 0, iv 9999]) rfl mg_41 rfl rfl (by decide) rfl rfl H (fun m118 v118 r_v118 H => ?_)
                    obtain ⟨m121, e_m121⟩ : ∃ q : Mm, q = wt m118 19 10 v118 := ⟨_, rfl⟩
                    replace H := H m121 e_m121
                    refine p_19_10 rfl e_m121 ?_
                    refine w_st (fun _ => rfl) ?_
                    exact tl_132 m121  H
                  · replace H := H.2
                    refine f_tswd rfl r_v1 (by omega) ?_
                    replace H := H (by omega)
                    refine w_st (fun _ => rfl) ?_
                    refine w_st (fun _ => rfl) ?_
                    refine k_VV (as := [iv v1]) rfl mg_41 rfl rfl (by decide) rfl rfl H (fun m129 H => ?_)
                    exact tl_132 m129  H
/-- TippedCrates$Reader.readShut()V -/
def P_42 (d : Nat) (m : Mm)  (Q : Mm → Prop) : Prop :=
  (((rd m 19 11) < 8 → CK d 39 [.ref 19, iv 1] m (fun m17 v17 =>
      CK d 40 [.ref 19, iv 0, iv 4] m17 (fun m34 v34 =>
      (((0 : Int) ≤ (wr ((rd m17 19 11) * 2)) ∧ (wr ((rd m17 19 11) * 2)) < 16) ∧ (∀ m37 : Mm, m37 = wt m34 25 (Int.toNat (wr ((rd m17 19 11) * 2))) v34 → CK d 40 [.ref 19, iv 0, iv 4] m37 (fun m53 v53 =>
      (((0 : Int) ≤ (wr ((wr ((rd m37 19 11) * 2)) + 1)) ∧ (wr ((wr ((rd m37 19 11) * 2)) + 1)) < 16) ∧ (∀ m56 : Mm, m56 = wt m53 25 (Int.toNat (wr ((wr ((rd m37 19 11) * 2)) + 1))) v53 → (∀ m64 : Mm, m64 = wt m56 19 11 (wr ((rd m56 19 11) + 1)) → Q m64))))))))) ∧
    (¬ (rd m 19 11) < 8 → CV d 37 [.ref 19, iv 2] m (fun m11 =>
      Q m11)))
set_option maxRecDepth 20000 in
theorem br_42 {d : Nat} {m : Mm}  {Q : Mm → Prop}  (H : P_42 d m  Q) : CV (d + 1) 42 [.ref 19] m Q := by
  unfold P_42 at H
  refine CV_of rfl ?_
  show mm_W d mc_42 0 [some (.ref 19)] [] (fm m) (XV Q)
  refine w_st (fun _ => rfl) ?_
  refine g_19_11 rfl ?_
  refine f_int 8 rfl rfl ?_
  refine b_lt rfl (rd_rg _ _ _) (by unfold rg; decide) (fun hq => ?_) (fun hq => ?_)
  · replace H := H.1 hq
    refine w_st (fun _ => rfl) ?_
    refine f_int 1 rfl rfl ?_
    refine k_VK (as := [iv 1]) rfl mg_42 rfl rfl (by decide) rfl rfl H (fun m17 v17 r_v17 H => ?_)
    refine w_st (fun _ => rfl) ?_
    refine w_st (fun _ => rfl) ?_
    refine g_19_14 rfl ?_
    refine w_st (fun _ => rfl) ?_
    refine g_19_11 rfl ?_
    refine f_int 2 rfl rfl ?_
    refine f_mul rfl ?_
    refine w_st (fun _ => rfl) ?_
    refine f_int 0 rfl rfl ?_
    refine f_int 4 rfl rfl ?_
    refine k_VK (as := [iv 0, iv 4]) rfl mg_42 rfl rfl (by decide) rfl rfl H (fun m34 v34 r_v34 H => ?_)
    obtain ⟨m37, e_m37⟩ : ∃ q : Mm, q = wt m34 25 (Int.toNat (wr ((rd m17 19 11) * 2))) v34 := ⟨_, rfl⟩
    refine f_st ir_25 rfl H.1 e_m37 ?_
    replace H := H.2 m37 e_m37
    refine w_st (fun _ => rfl) ?_
    refine g_19_14 rfl ?_
    refine w_st (fun _ => rfl) ?_
    refine g_19_11 rfl ?_
    refine f_int 2 rfl rfl ?_
    refine f_mul rfl ?_
    refine f_int 1 rfl rfl ?_
    refine f_add rfl ?_
    refine w_st (fun _ => rfl) ?_
    refine f_int 0 rfl rfl ?_
    refine f_int 4 rfl rfl ?_
    refine k_VK (as := [iv 0, iv 4]) rfl mg_42 rfl rfl (by decide) rfl rfl H (fun m53 v53 r_v53 H => ?_)
    obtain ⟨m56, e_m56⟩ : ∃ q : Mm, q = wt m53 25 (Int.toNat (wr ((wr ((rd m37 19 11) * 2)) + 1))) v53 := ⟨_, rfl⟩
    refine f_st ir_25 rfl H.1 e_m56 ?_
    replace H := H.2 m56 e_m56
    refine w_st (fun _ => rfl) ?_
    refine w_st (fun _ => rfl) ?_
    refine g_19_11 rfl ?_
    refine f_int 1 rfl rfl ?_
    refine f_add rfl ?_
    obtain ⟨m64, e_m64⟩ : ∃ q : Mm, q = wt m56 19 11 (wr ((rd m56 19 11) + 1)) := ⟨_, rfl⟩
    replace H := H m64 e_m64
    refine p_19_11 rfl e_m64 ?_
    exact f_ret rfl H
  · replace H := H.2 hq
    refine w_st (fun _ => rfl) ?_
    refine f_int 2 rfl rfl ?_
    refine k_VV (as := [iv 2]) rfl mg_42 rfl rfl (by decide) rfl rfl H (fun m11 H => ?_)
    exact f_ret rfl H
/-- TippedCrates$Reader.readPaint()V -/
def P_43 (d : Nat) (m : Mm)  (Q : Mm → Prop) : Prop :=
  (((rd m 19 12) < 10 → CK d 39 [.ref 19, iv 2] m (fun m17 v17 =>
      CK d 40 [.ref 19, iv 0, iv 4] m17 (fun m34 v34 =>
      (((0 : Int) ≤ (wr ((rd m17 19 12) * 3)) ∧ (wr ((rd m17 19 12) * 3)) < 30) ∧ (∀ m37 : Mm, m37 = wt m34 26 (Int.toNat (wr ((rd m17 19 12) * 3))) v34 → CK d 40 [.ref 19, iv 0, iv 4] m37 (fun m53 v53 =>
      (((0 : Int) ≤ (wr ((wr ((rd m37 19 12) * 3)) + 1)) ∧ (wr ((wr ((rd m37 19 12) * 3)) + 1)) < 30) ∧ (∀ m56 : Mm, m56 = wt m53 26 (Int.toNat (wr ((wr ((rd m37 19 12) * 3)) + 1))) v53 → CK d 40 [.ref 19, iv 0, iv 9] m56 (fun m73 v73 =>
      (((0 : Int) ≤ (wr ((wr ((rd m56 19 12) * 3)) + 2)) ∧ (wr ((wr ((rd m56 19 12) * 3)) + 2)) < 30) ∧ (∀ m76 : Mm, m76 = wt m73 26 (Int.toNat (wr ((wr ((rd m56 19 12) * 3)) + 2))) v73 → (∀ m84 : Mm, m84 = wt m76 19 12 (wr ((rd m76 19 12) + 1)) → Q m84)))))))))))) ∧
    (¬ (rd m 19 12) < 10 → CV d 37 [.ref 19, iv 2] m (fun m11 =>
      Q m11)))
set_option maxRecDepth 20000 in
theorem br_43 {d : Nat} {m : Mm}  {Q : Mm → Prop}  (H : P_43 d m  Q) : CV (d + 1) 43 [.ref 19] m Q := by
  unfold P_43 at H
  refine CV_of rfl ?_
  show mm_W d mc_43 0 [some (.ref 19)] [] (fm m) (XV Q)
  refine w_st (fun _ => rfl) ?_
  refine g_19_12 rfl ?_
  refine f_int 10 rfl rfl ?_
  refine b_lt rfl (rd_rg _ _ _) (by unfold rg; decide) (fun hq => ?_) (fun hq => ?_)
  · replace H := H.1 hq
    refine w_st (fun _ => rfl) ?_
    refine f_int 2 rfl rfl ?_
    refine k_VK (as := [iv 2]) rfl mg_43 rfl rfl (by decide) rfl rfl H (fun m17 v17 r_v17 H => ?_)
    refine w_st (fun _ => rfl) ?_
    refine w_st (fun _ => rfl) ?_
    refine g_19_15 rfl ?_
    refine w_st (fun _ => rfl) ?_
    refine g_19_12 rfl ?_
    refine f_int 3 rfl rfl ?_
    refine f_mul rfl ?_
    refine w_st (fun _ => rfl) ?_
    refine f_int 0 rfl rfl ?_
    refine f_int 4 rfl rfl ?_
    refine k_VK (as := [iv 0, iv 4]) rfl mg_43 rfl rfl (by decide) rfl rfl H (fun m34 v34 r_v34 H => ?_)
    obtain ⟨m37, e_m37⟩ : ∃ q : Mm, q = wt m34 26 (Int.toNat (wr ((rd m17 19 12) * 3))) v34 := ⟨_, rfl⟩
    refine f_st ir_26 rfl H.1 e_m37 ?_
    replace H := H.2 m37 e_m37
    refine w_st (fun _ => rfl) ?_
    refine g_19_15 rfl ?_
    refine w_st (fun _ => rfl) ?_
    refine g_19_12 rfl ?_
    refine f_int 3 rfl rfl ?_
    refine f_mul rfl ?_
    refine f_int 1 rfl rfl ?_
    refine f_add rfl ?_
    refine w_st (fun _ => rfl) ?_
    refine f_int 0 rfl rfl ?_
    refine f_int 4 rfl rfl ?_
    refine k_VK (as := [iv 0, iv 4]) rfl mg_43 rfl rfl (by decide) rfl rfl H (fun m53 v53 r_v53 H => ?_)
    obtain ⟨m56, e_m56⟩ : ∃ q : Mm, q = wt m53 26 (Int.toNat (wr ((wr ((rd m37 19 12) * 3)) + 1))) v53 := ⟨_, rfl⟩
    refine f_st ir_26 rfl H.1 e_m56 ?_
    replace H := H.2 m56 e_m56
    refine w_st (fun _ => rfl) ?_
    refine g_19_15 rfl ?_
    refine w_st (fun _ => rfl) ?_
    refine g_19_12 rfl ?_
    refine f_int 3 rfl rfl ?_
    refine f_mul rfl ?_
    refine f_int 2 rfl rfl ?_
    refine f_add rfl ?_
    refine w_st (fun _ => rfl) ?_
    refine f_int 0 rfl rfl ?_
    refine f_int 9 rfl rfl ?_
    refine k_VK (as := [iv 0, iv 9]) rfl mg_43 rfl rfl (by decide) rfl rfl H (fun m73 v73 r_v73 H => ?_)
    obtain ⟨m76, e_m76⟩ : ∃ q : Mm, q = wt m73 26 (Int.toNat (wr ((wr ((rd m56 19 12) * 3)) + 2))) v73 := ⟨_, rfl⟩
    refine f_st ir_26 rfl H.1 e_m76 ?_
    replace H := H.2 m76 e_m76
    refine w_st (fun _ => rfl) ?_
    refine w_st (fun _ => rfl) ?_
    refine g_19_12 rfl ?_
    refine f_int 1 rfl rfl ?_
    refine f_add rfl ?_
    obtain ⟨m84, e_m84⟩ : ∃ q : Mm, q = wt m76 19 12 (wr ((rd m76 19 12) + 1)) := ⟨_, rfl⟩
    replace H := H m84 e_m84
    refine p_19_12 rfl e_m84 ?_
    exact f_ret rfl H
  · replace H := H.2 hq
    refine w_st (fun _ => rfl) ?_
    refine f_int 2 rfl rfl ?_
    refine k_VV (as := [iv 2]) rfl mg_43 rfl rfl (by decide) rfl rfl H (fun m11 H => ?_)
    exact f_ret rfl H
/-- TippedCrates$Reader.readCrate()V -/
def P_44 (d : Nat) (m : Mm)  (Q : Mm → Prop) : Prop :=
  (((rd m 19 13) < 3 → CK d 39 [.ref 19, iv 3] m (fun m16 v16 =>
      CV d 45 [.ref 19] m16 (fun m21 =>
      CK d 40 [.ref 19, iv 0, iv 4] m21 (fun m37 v37 =>
      (((0 : Int) ≤ (wr ((rd m21 19 13) * 2)) ∧ (wr ((rd m21 19 13) * 2)) < 6) ∧ (∀ m40 : Mm, m40 = wt m37 27 (Int.toNat (wr ((rd m21 19 13) * 2))) v37 → CK d 40 [.ref 19, iv 0, iv 4] m40 (fun m56 v56 =>
      (((0 : Int) ≤ (wr ((wr ((rd m40 19 13) * 2)) + 1)) ∧ (wr ((wr ((rd m40 19 13) * 2)) + 1)) < 6) ∧ (∀ m59 : Mm, m59 = wt m56 27 (Int.toNat (wr ((wr ((rd m40 19 13) * 2)) + 1))) v56 → (∃ (I_62 : Int → Mm → Prop) (mu_62 : Int → Mm → Nat), I_62 0 m59 ∧
      ∀ (x1_62 : Int) (m_62 : Mm), rg x1_62 → I_62 x1_62 m_62 →
      ((6 ≤ x1_62 → (∀ m102 : Mm, m102 = wt m_62 19 13 (wr ((rd m_62 19 13) + 1)) → Q m102)) ∧
          (¬ 6 ≤ x1_62 → CK d 40 [.ref 19, iv 0, iv 9] m_62 (fun m85 v85 =>
            (((0 : Int) ≤ (wr ((wr ((rd m_62 19 13) * 6)) + x1_62)) ∧ (wr ((wr ((rd m_62 19 13) * 6)) + x1_62)) < 18) ∧ (∀ m88 : Mm, m88 = wt m85 28 (Int.toNat (wr ((wr ((rd m_62 19 13) * 6)) + x1_62))) v85 → (∀ z1_89 : Int, z1_89 = wr (x1_62 + 1) → (I_62 z1_89 m88 ∧ mu_62 z1_89 m88 < mu_62 x1_62 m_62))))))))))))))))) ∧
    (¬ (rd m 19 13) < 3 → CV d 37 [.ref 19, iv 2] m (fun m10 =>
      Q m10)))
set_option maxRecDepth 20000 in
theorem br_44 {d : Nat} {m : Mm}  {Q : Mm → Prop}  (H : P_44 d m  Q) : CV (d + 1) 44 [.ref 19] m Q := by
  unfold P_44 at H
  refine CV_of rfl ?_
  show mm_W d mc_44 0 [some (.ref 19), none] [] (fm m) (XV Q)
  refine w_st (fun _ => rfl) ?_
  refine g_19_13 rfl ?_
  refine f_int 3 rfl rfl ?_
  refine b_lt rfl (rd_rg _ _ _) (by unfold rg; decide) (fun hq => ?_) (fun hq => ?_)
  · replace H := H.1 hq
    refine w_st (fun _ => rfl) ?_
    refine f_int 3 rfl rfl ?_
    refine k_VK (as := [iv 3]) rfl mg_44 rfl rfl (by decide) rfl rfl H (fun m16 v16 r_v16 H => ?_)
    refine w_st (fun _ => rfl) ?_
    refine w_st (fun _ => rfl) ?_
    refine k_VV (as := []) rfl mg_44 rfl rfl (by decide) rfl rfl H (fun m21 H => ?_)
    refine w_st (fun _ => rfl) ?_
    refine g_19_16 rfl ?_
    refine w_st (fun _ => rfl) ?_
    refine g_19_13 rfl ?_
    refine f_int 2 rfl rfl ?_
    refine f_mul rfl ?_
    refine w_st (fun _ => rfl) ?_
    refine f_int 0 rfl rfl ?_
    refine f_int 4 rfl rfl ?_
    refine k_VK (as := [iv 0, iv 4]) rfl mg_44 rfl rfl (by decide) rfl rfl H (fun m37 v37 r_v37 H => ?_)
    obtain ⟨m40, e_m40⟩ : ∃ q : Mm, q = wt m37 27 (Int.toNat (wr ((rd m21 19 13) * 2))) v37 := ⟨_, rfl⟩
    refine f_st ir_27 rfl H.1 e_m40 ?_
    replace H := H.2 m40 e_m40
    refine w_st (fun _ => rfl) ?_
    refine g_19_16 rfl ?_
    refine w_st (fun _ => rfl) ?_
    refine g_19_13 rfl ?_
    refine f_int 2 rfl rfl ?_
    refine f_mul rfl ?_
    refine f_int 1 rfl rfl ?_
    refine f_add rfl ?_
    refine w_st (fun _ => rfl) ?_
    refine f_int 0 rfl rfl ?_
    refine f_int 4 rfl rfl ?_
    refine k_VK (as := [iv 0, iv 4]) rfl mg_44 rfl rfl (by decide) rfl rfl H (fun m56 v56 r_v56 H => ?_)
    obtain ⟨m59, e_m59⟩ : ∃ q : Mm, q = wt m56 27 (Int.toNat (wr ((wr ((rd m40 19 13) * 2)) + 1))) v56 := ⟨_, rfl⟩
    refine f_st ir_27 rfl H.1 e_m59 ?_
    replace H := H.2 m59 e_m59
    refine f_int 0 rfl rfl ?_
    refine w_st (ls2 := [some (.ref 19), some (iv 0)]) (fun _ => rfl) ?_
    obtain ⟨I_62, mu_62, H0_62, HB_62⟩ := H
    have lp_62 : ∀ (z : Nat) (x1_62 : Int) (m_62 : Mm), mu_62 x1_62 m_62 < z → rg x1_62 → I_62 x1_62 m_62 → mm_W d mc_44 62 [some (.ref 19), some (iv x1_62)] [] (fm m_62) (XV Q) := by
      intro z
      induction z with
      | zero => intro x1_62 m_62 hz; exact absurd hz (Nat.not_lt_zero _)
      | succ z ih_62 =>
        intro x1_62 m_62 hz_62 r_x1_62 hI
        have H := HB_62 x1_62 m_62 r_x1_62 hI
        refine w_st (fun _ => rfl) ?_
        refine f_int 6 rfl rfl ?_
        refine b_ge rfl r_x1_62 (by unfold rg; decide) (fun hq => ?_) (fun hq => ?_)
        · replace H := H.1 hq
          refine w_st (fun _ => rfl) ?_
          refine w_st (fun _ => rfl) ?_
          refine g_19_13 rfl ?_
          refine f_int 1 rfl rfl ?_
          refine f_add rfl ?_
          obtain ⟨m102, e_m102⟩ : ∃ q : Mm, q = wt m_62 19 13 (wr ((rd m_62 19 13) + 1)) := ⟨_, rfl⟩
          replace H := H m102 e_m102
          refine p_19_13 rfl e_m102 ?_
          exact f_ret rfl H
        · replace H := H.2 hq
          refine w_st (fun _ => rfl) ?_
          refine g_19_17 rfl ?_
          refine w_st (fun _ => rfl) ?_
          refine g_19_13 rfl ?_
          refine f_int 6 rfl rfl ?_
          refine f_mul rfl ?_
          refine w_st (fun _ => rfl) ?_
          refine f_add rfl ?_
          refine w_st (fun _ => rfl) ?_
          refine f_int 0 rfl rfl ?_
          refine f_int 9 rfl rfl ?_
          refine k_VK (as := [iv 0, iv 9]) rfl mg_44 rfl rfl (by decide) rfl rfl H (fun m85 v85 r_v85 H => ?_)
          obtain ⟨m88, e_m88⟩ : ∃ q : Mm, q = wt m85 28 (Int.toNat (wr ((wr ((rd m_62 19 13) * 6)) + x1_62))) v85 := ⟨_, rfl⟩
          refine f_st ir_28 rfl H.1 e_m88 ?_
          replace H := H.2 m88 e_m88
          obtain ⟨z1_89, e_z1_89⟩ : ∃ q : Int, q = wr (x1_62 + 1) := ⟨_, rfl⟩
          have r_z1_89 : rg z1_89 := by rw [e_z1_89]; exact wr_rg _
          replace H := H z1_89 e_z1_89
          refine f_iinc (ls2 := [some (.ref 19), some (iv z1_89)]) 1 rfl rfl rfl e_z1_89 rfl ?_
          refine w_st (fun _ => rfl) ?_
          exact ih_62 z1_89 m88 (Nat.lt_of_lt_of_le H.2 (Nat.le_of_lt_succ hz_62)) r_z1_89 H.1
    exact lp_62 _ 0 m59 (Nat.lt_succ_self _) (by unfold rg; decide) H0_62
  · replace H := H.2 hq
    refine w_st (fun _ => rfl) ?_
    refine f_int 2 rfl rfl ?_
    refine k_VV (as := [iv 2]) rfl mg_44 rfl rfl (by decide) rfl rfl H (fun m10 H => ?_)
    exact f_ret rfl H
/-- TippedCrates$Reader.takeName()V -/
def P_45 (d : Nat) (m : Mm)  (Q : Mm → Prop) : Prop :=
  (((0 : Int) ≤ (rd m 19 4) ∧ (rd m 19 4) < 401) ∧ (∀ z1_12 : Int, z1_12 = (ld m 4 (Int.toNat (rd m 19 4))) → (((0 : Int) ≤ (rd m 19 4) ∧ (rd m 19 4) < 401) ∧ (∀ z3_25 : Int, z3_25 = (rd m 3 (Int.toNat (rd m 19 4))) → CK d 39 [.ref 19, iv 21] m (fun m29 v29 =>
    ((¬ v29 = 0 → (∃ (I_39 : Int → Mm → Prop) (mu_39 : Int → Mm → Nat), I_39 0 m29 ∧
      ∀ (x4_39 : Int) (m_39 : Mm), rg x4_39 → I_39 x4_39 m_39 →
      (((rd m_39 19 13) ≤ x4_39 → (((0 : Int) ≤ (rd m_39 19 13) ∧ (rd m_39 19 13) < 3) ∧ (∀ m81 : Mm, m81 = wl m_39 29 (Int.toNat (rd m_39 19 13)) z1_12 → Q m81))) ∧
          (¬ (rd m_39 19 13) ≤ x4_39 → (((0 : Int) ≤ x4_39 ∧ x4_39 < 3) ∧ (∃ R_66 : Mm → Prop,
            ((¬ (lcm2 (ld m_39 29 (Int.toNat x4_39)) z1_12) = 0 → R_66 m_39) ∧
            ((lcm2 (ld m_39 29 (Int.toNat x4_39)) z1_12) = 0 → CV d 38 [.ref 19, iv 3, iv z3_25] m_39 (fun m63 =>
              R_66 m63))) ∧
            (∀ (m_66 : Mm), R_66 m_66 →
            (∀ z4_66 : Int, z4_66 = wr (x4_39 + 1) → (I_39 z4_66 m_66 ∧ mu_39 z4_66 m_66 < mu_39 x4_39 m_39))))))))) ∧
    (v29 = 0 → Q m29)))))))
set_option maxRecDepth 20000 in
theorem br_45 {d : Nat} {m : Mm}  {Q : Mm → Prop}  (H : P_45 d m  Q) : CV (d + 1) 45 [.ref 19] m Q := by
  unfold P_45 at H
  refine CV_of rfl ?_
  show mm_W d mc_45 0 [some (.ref 19), none, none, none, none] [] (fm m) (XV Q)
  refine w_st (fun _ => rfl) ?_
  refine g_19_1 rfl ?_
  refine g_1_3 rfl ?_
  refine w_st (fun _ => rfl) ?_
  refine g_19_4 rfl ?_
  refine f_ldl (n := 401) (by decide) rfl (by decide) rfl H.1 ?_
  replace H := H.2
  obtain ⟨z1_12, e_z1_12⟩ : ∃ q : Int, q = (ld m 4 (Int.toNat (rd m 19 4))) := ⟨_, rfl⟩
  have r_z1_12 : rgl z1_12 := by rw [e_z1_12]; exact (ld_rg _ _ _)
  replace H := H z1_12 e_z1_12
  refine f_nml e_z1_12 ?_
  refine w_st (ls2 := [some (.ref 19), some (lv z1_12), none, none, none]) (fun _ => rfl) ?_
  refine w_st (fun _ => rfl) ?_
  refine g_19_1 rfl ?_
  refine g_1_2 rfl ?_
  refine w_st (fun _ => rfl) ?_
  refine g_19_4 rfl ?_
  refine f_ld ir_3 rfl H.1 ?_
  replace H := H.2
  obtain ⟨z3_25, e_z3_25⟩ : ∃ q : Int, q = (rd m 3 (Int.toNat (rd m 19 4))) := ⟨_, rfl⟩
  have r_z3_25 : rg z3_25 := by rw [e_z3_25]; exact (rd_rg _ _ _)
  replace H := H z3_25 e_z3_25
  refine f_nm e_z3_25 ?_
  refine w_st (ls2 := [some (.ref 19), some (lv z1_12), none, some (iv z3_25), none]) (fun _ => rfl) ?_
  refine w_st (fun _ => rfl) ?_
  refine f_int 21 rfl rfl ?_
  refine k_VK (as := [iv 21]) rfl mg_45 rfl rfl (by decide) rfl rfl H (fun m29 v29 r_v29 H => ?_)
  refine z_ne rfl r_v29 (fun hq => ?_) (fun hq => ?_)
  · replace H := H.1 hq
    refine f_int 0 rfl rfl ?_
    refine w_st (ls2 := [some (.ref 19), some (lv z1_12), none, some (iv z3_25), some (iv 0)]) (fun _ => rfl) ?_
    obtain ⟨I_39, mu_39, H0_39, HB_39⟩ := H
    have lp_39 : ∀ (z : Nat) (x4_39 : Int) (m_39 : Mm), mu_39 x4_39 m_39 < z → rg x4_39 → I_39 x4_39 m_39 → mm_W d mc_45 39 [some (.ref 19), some (lv z1_12), none, some (iv z3_25), some (iv x4_39)] [] (fm m_39) (XV Q) := by
      intro z
      induction z with
      | zero => intro x4_39 m_39 hz; exact absurd hz (Nat.not_lt_zero _)
      | succ z ih_39 =>
        intro x4_39 m_39 hz_39 r_x4_39 hI
        have H := HB_39 x4_39 m_39 r_x4_39 hI
        refine w_st (fun _ => rfl) ?_
        refine w_st (fun _ => rfl) ?_
        refine g_19_13 rfl ?_
        refine b_ge rfl r_x4_39 (rd_rg _ _ _) (fun hq => ?_) (fun hq => ?_)
        · replace H := H.1 hq
          refine w_st (fun _ => rfl) ?_
          refine g_19_18 rfl ?_
          refine w_st (fun _ => rfl) ?_
          refine g_19_13 rfl ?_
          refine w_st (fun _ => rfl) ?_
          obtain ⟨m81, e_m81⟩ : ∃ q : Mm, q = wl m_39 29 (Int.toNat (rd m_39 19 13)) z1_12 := ⟨_, rfl⟩
          refine f_stl (n := 3) (by decide) (fun _ => rfl) (by decide) rfl H.1 e_m81 ?_
          replace H := H.2 m81 e_m81
          exact f_ret rfl H
        · replace H := H.2 hq
          refine w_st (fun _ => rfl) ?_
          refine g_19_18 rfl ?_
          refine w_st (fun _ => rfl) ?_
          refine f_ldl (n := 3) (by decide) rfl (by decide) rfl H.1 ?_
          replace H := H.2
          refine w_st (fun _ => rfl) ?_
          refine f_lcmp rfl (ld_rg _ _ _) r_z1_12 ?_
          obtain ⟨R_66, H, HJ_66⟩ := H
          have tl_66 : ∀ (m_66 : Mm), R_66 m_66 → mm_W d mc_45 66 [some (.ref 19), some (lv z1_12), none, some (iv z3_25), some (iv x4_39)] [] (fm m_66) (XV Q) := by
            intro m_66  hR
            have H := HJ_66 m_66  hR
            obtain ⟨z4_66, e_z4_66⟩ : ∃ q : Int, q = wr (x4_39 + 1) := ⟨_, rfl⟩
            have r_z4_66 : rg z4_66 := by rw [e_z4_66]; exact wr_rg _
            replace H := H z4_66 e_z4_66
            refine f_iinc (ls2 := [some (.ref 19), some (lv z1_12), none, some (iv z3_25), some (iv z4_66)]) 1 rfl rfl rfl e_z4_66 rfl ?_
            refine w_st (fun _ => rfl) ?_
            exact ih_39 z4_66 m_66 (Nat.lt_of_lt_of_le H.2 (Nat.le_of_lt_succ hz_39)) r_z4_66 H.1
          refine z_ne rfl (lcm2_rg _ _) (fun hq => ?_) (fun hq => ?_)
          · replace H := H.1 hq
            exact tl_66 m_39  H
          · replace H := H.2 hq
            refine w_st (fun _ => rfl) ?_
            refine f_int 3 rfl rfl ?_
            refine w_st (fun _ => rfl) ?_
            refine k_VV (as := [iv 3, iv z3_25]) rfl mg_45 rfl rfl (by decide) rfl rfl H (fun m63 H => ?_)
            exact tl_66 m63  H
    exact lp_39 _ 0 m29 (Nat.lt_succ_self _) (by unfold rg; decide) H0_39
  · replace H := H.2 hq
    exact f_ret rfl H
