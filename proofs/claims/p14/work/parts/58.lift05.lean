/-- TippedCratesModel.bounded(II)I -/
def P_193 (d : Nat) (m : Mm) (x1 : Int) (x2 : Int) (Q : Mm → Int → Prop) : Prop :=
  (∃ R_15 : Mm → Prop,
    ((0 < (rd m 284 13) → R_15 m) ∧
    (¬ 0 < (rd m 284 13) → CK d 180 [.ref 284, iv 2] m (fun m9 v9 =>
      ((¬ v9 = 0 → (((0 : Int) ≤ (rd m9 284 11) ∧ (rd m9 284 11) < 403) ∧ (∀ z3_31 : Int, z3_31 = (rd m9 289 (Int.toNat (rd m9 284 11))) → (∃ R_51 : Mm → Prop,
        (∃ R_42 : Prop,
        ((z3_31 < x1 → R_42) ∧
        (¬ z3_31 < x1 → ((z3_31 ≤ x2 → R_51 m9) ∧
          (¬ z3_31 ≤ x2 → R_42)))) ∧
        (R_42 →
        CV d 182 [.ref 284, iv 5, iv (rd m9 284 11)] m9 (fun m48 =>
          R_51 m48))) ∧
        (∀ (m_51 : Mm), R_51 m_51 →
        CV d 183 [.ref 284] m_51 (fun m52 =>
          Q m52 z3_31)))))) ∧
      (v9 = 0 → R_15 m9))))) ∧
    (∀ (m_15 : Mm), R_15 m_15 →
    CV d 181 [.ref 284, iv 1] m_15 (fun m17 =>
      Q m17 x1)))
set_option maxRecDepth 20000 in
theorem br_193 {d : Nat} {m : Mm} {x1 : Int} {x2 : Int} {Q : Mm → Int → Prop} (r_x1 : rg x1) (r_x2 : rg x2) (H : P_193 d m x1 x2 Q) : CK (d + 1) 193 [.ref 284, iv x1, iv x2] m Q := by
  unfold P_193 at H
  refine CK_of rfl ?_
  show mm_W d mc_193 0 [some (.ref 284), some (iv x1), some (iv x2), none] [] (fm m) (XK Q)
  refine w_st (fun _ => rfl) ?_
  refine g_284_13 rfl ?_
  obtain ⟨R_15, H, HJ_15⟩ := H
  have tl_15 : ∀ (m_15 : Mm), R_15 m_15 → mm_W d mc_193 15 [some (.ref 284), some (iv x1), some (iv x2), none] [] (fm m_15) (XK Q) := by
    intro m_15  hR
    have H := HJ_15 m_15  hR
    refine w_st (fun _ => rfl) ?_
    refine f_int 1 rfl rfl ?_
    refine k_VV (as := [iv 1]) rfl mg_193 rfl rfl (by decide) rfl rfl H (fun m17 H => ?_)
    refine w_st (fun _ => rfl) ?_
    exact f_iret rfl r_x1 H
  refine z_gt rfl (rd_rg _ _ _) (fun hq => ?_) (fun hq => ?_)
  · replace H := H.1 hq
    exact tl_15 m  H
  · replace H := H.2 hq
    refine w_st (fun _ => rfl) ?_
    refine f_int 2 rfl rfl ?_
    refine k_VK (as := [iv 2]) rfl mg_193 rfl rfl (by decide) rfl rfl H (fun m9 v9 r_v9 H => ?_)
    refine z_ne rfl r_v9 (fun hq => ?_) (fun hq => ?_)
    · replace H := H.1 hq
      refine w_st (fun _ => rfl) ?_
      refine g_284_7 rfl ?_
      refine w_st (fun _ => rfl) ?_
      refine g_284_11 rfl ?_
      refine f_ld ir_289 rfl H.1 ?_
      replace H := H.2
      obtain ⟨z3_31, e_z3_31⟩ : ∃ q : Int, q = (rd m9 289 (Int.toNat (rd m9 284 11))) := ⟨_, rfl⟩
      have r_z3_31 : rg z3_31 := by rw [e_z3_31]; exact (rd_rg _ _ _)
      replace H := H z3_31 e_z3_31
      refine f_nm e_z3_31 ?_
      refine w_st (ls2 := [some (.ref 284), some (iv x1), some (iv x2), some (iv z3_31)]) (fun _ => rfl) ?_
      refine w_st (fun _ => rfl) ?_
      refine w_st (fun _ => rfl) ?_
      obtain ⟨R_51, H, HJ_51⟩ := H
      have tl_51 : ∀ (m_51 : Mm), R_51 m_51 → mm_W d mc_193 51 [some (.ref 284), some (iv x1), some (iv x2), some (iv z3_31)] [] (fm m_51) (XK Q) := by
        intro m_51  hR
        have H := HJ_51 m_51  hR
        refine w_st (fun _ => rfl) ?_
        refine k_VV (as := []) rfl mg_193 rfl rfl (by decide) rfl rfl H (fun m52 H => ?_)
        refine w_st (fun _ => rfl) ?_
        exact f_iret rfl r_z3_31 H
      obtain ⟨R_42, H, HJ_42⟩ := H
      have tl_42 : R_42 → mm_W d mc_193 42 [some (.ref 284), some (iv x1), some (iv x2), some (iv z3_31)] [] (fm m9) (XK Q) := by
        intro   hR
        have H := HJ_42   hR
        refine w_st (fun _ => rfl) ?_
        refine f_int 5 rfl rfl ?_
        refine w_st (fun _ => rfl) ?_
        refine g_284_11 rfl ?_
        refine k_VV (as := [iv 5, iv (rd m9 284 11)]) rfl mg_193 rfl rfl (by decide) rfl rfl H (fun m48 H => ?_)
        exact tl_51 m48  H
      refine b_lt rfl r_z3_31 r_x1 (fun hq => ?_) (fun hq => ?_)
      · replace H := H.1 hq
        exact tl_42   H
      · replace H := H.2 hq
        refine w_st (fun _ => rfl) ?_
        refine w_st (fun _ => rfl) ?_
        refine b_le rfl r_z3_31 r_x2 (fun hq => ?_) (fun hq => ?_)
        · replace H := H.1 hq
          exact tl_51 m9  H
        · replace H := H.2 hq
          exact tl_42   H
    · replace H := H.2 hq
      exact tl_15 m9  H
/-- TippedCratesModel.tellCrate()V -/
def P_194 (d : Nat) (m : Mm)  (Q : Mm → Prop) : Prop :=
  (((0 : Int) ≤ (rd m 284 19) ∧ (rd m 284 19) < 2) ∧ (∀ z1_16 : Int, z1_16 = (wr ((wr (3 * (rd m 284 19))) + (rd m 302 (Int.toNat (rd m 284 19))))) → (∀ z2_21 : Int, z2_21 = (rd m 284 11) → CV d 184 [.ref 284, iv 1] m (fun m24 =>
    (∃ (I_29 : Int → Mm → Prop) (mu_29 : Int → Mm → Nat), I_29 0 m24 ∧
    ∀ (x3_29 : Int) (m_29 : Mm), rg x3_29 → I_29 x3_29 m_29 →
    (∃ R_72 : Prop,
        (((rd m_29 284 20) ≤ x3_29 → R_72) ∧
        (¬ (rd m_29 284 20) ≤ x3_29 → ((¬ (rd m_29 284 13) = 0 → R_72) ∧
          ((rd m_29 284 13) = 0 → (((0 : Int) ≤ x3_29 ∧ x3_29 < 3) ∧ (((0 : Int) ≤ z2_21 ∧ z2_21 < 403) ∧ (∃ R_66 : Mm → Prop,
            ((¬ (lcm2 (ld m_29 292 (Int.toNat x3_29)) (ld m_29 290 (Int.toNat z2_21))) = 0 → R_66 m_29) ∧
            ((lcm2 (ld m_29 292 (Int.toNat x3_29)) (ld m_29 290 (Int.toNat z2_21))) = 0 → CV d 182 [.ref 284, iv 3, iv z2_21] m_29 (fun m63 =>
              R_66 m63))) ∧
            (∀ (m_66 : Mm), R_66 m_66 →
            (∀ z3_66 : Int, z3_66 = wr (x3_29 + 1) → (I_29 z3_66 m_66 ∧ mu_29 z3_66 m_66 < mu_29 x3_29 m_29)))))))))) ∧
        (R_72 →
        CK d 193 [.ref 284, iv 0, iv 4] m_29 (fun m80 v80 =>
          (((0 : Int) ≤ z1_16 ∧ z1_16 < 6) ∧ (∀ m83 : Mm, m83 = wt m80 303 (Int.toNat z1_16) v80 → CK d 193 [.ref 284, iv 0, iv 4] m83 (fun m92 v92 =>
          (((0 : Int) ≤ z1_16 ∧ z1_16 < 6) ∧ (∀ m95 : Mm, m95 = wt m92 304 (Int.toNat z1_16) v92 → (∃ (I_98 : Int → Mm → Prop) (mu_98 : Int → Mm → Nat), I_98 0 m95 ∧
          ∀ (x3_98 : Int) (m_98 : Mm), rg x3_98 → I_98 x3_98 m_98 →
          ((6 ≤ x3_98 → CV d 184 [.ref 284, iv 4] m_98 (fun m130 =>
                (((rd m130 284 13) ≤ 0 → (((0 : Int) ≤ z2_21 ∧ z2_21 < 403) ∧ (((0 : Int) ≤ (rd m130 284 20) ∧ (rd m130 284 20) < 3) ∧ (∀ m155 : Mm, m155 = wl m130 292 (Int.toNat (rd m130 284 20)) (ld m130 290 (Int.toNat z2_21)) → (∀ m163 : Mm, m163 = wt m155 284 20 (wr ((rd m155 284 20) + 1)) → (((0 : Int) ≤ (rd m163 284 19) ∧ (rd m163 284 19) < 2) ∧ (((0 : Int) ≤ (rd m163 284 19) ∧ (rd m163 284 19) < 2) ∧ (∀ m178 : Mm, m178 = wt m163 302 (Int.toNat (rd m163 284 19)) (wr ((rd m163 302 (Int.toNat (rd m163 284 19))) + 1)) → Q m178)))))))) ∧
                (¬ (rd m130 284 13) ≤ 0 → Q m130)))) ∧
              (¬ 6 ≤ x3_98 → CK d 193 [.ref 284, iv 0, iv 9] m_98 (fun m118 v118 =>
                (((0 : Int) ≤ (wr ((wr (6 * z1_16)) + x3_98)) ∧ (wr ((wr (6 * z1_16)) + x3_98)) < 36) ∧ (∀ m121 : Mm, m121 = wt m118 305 (Int.toNat (wr ((wr (6 * z1_16)) + x3_98))) v118 → (∀ z3_122 : Int, z3_122 = wr (x3_98 + 1) → (I_98 z3_122 m121 ∧ mu_98 z3_122 m121 < mu_98 x3_98 m_98)))))))))))))))))))))
set_option maxRecDepth 20000 in
theorem br_194 {d : Nat} {m : Mm}  {Q : Mm → Prop}  (H : P_194 d m  Q) : CV (d + 1) 194 [.ref 284] m Q := by
  unfold P_194 at H
  refine CV_of rfl ?_
  show mm_W d mc_194 0 [some (.ref 284), none, none, none] [] (fm m) (XV Q)
  refine f_int 3 rfl rfl ?_
  refine w_st (fun _ => rfl) ?_
  refine g_284_19 rfl ?_
  refine f_mul rfl ?_
  refine w_st (fun _ => rfl) ?_
  refine g_284_31 rfl ?_
  refine w_st (fun _ => rfl) ?_
  refine g_284_19 rfl ?_
  refine f_ld ir_302 rfl H.1 ?_
  replace H := H.2
  refine f_add rfl ?_
  obtain ⟨z1_16, e_z1_16⟩ : ∃ q : Int, q = (wr ((wr (3 * (rd m 284 19))) + (rd m 302 (Int.toNat (rd m 284 19))))) := ⟨_, rfl⟩
  have r_z1_16 : rg z1_16 := by rw [e_z1_16]; exact (wr_rg _)
  replace H := H z1_16 e_z1_16
  refine f_nm e_z1_16 ?_
  refine w_st (ls2 := [some (.ref 284), some (iv z1_16), none, none]) (fun _ => rfl) ?_
  refine w_st (fun _ => rfl) ?_
  refine g_284_11 rfl ?_
  obtain ⟨z2_21, e_z2_21⟩ : ∃ q : Int, q = (rd m 284 11) := ⟨_, rfl⟩
  have r_z2_21 : rg z2_21 := by rw [e_z2_21]; exact (rd_rg _ _ _)
  replace H := H z2_21 e_z2_21
  refine f_nm e_z2_21 ?_
  refine w_st (ls2 := [some (.ref 284), some (iv z1_16), some (iv z2_21), none]) (fun _ => rfl) ?_
  refine w_st (fun _ => rfl) ?_
  refine f_int 1 rfl rfl ?_
  refine k_VV (as := [iv 1]) rfl mg_194 rfl rfl (by decide) rfl rfl H (fun m24 H => ?_)
  refine f_int 0 rfl rfl ?_
  refine w_st (ls2 := [some (.ref 284), some (iv z1_16), some (iv z2_21), some (iv 0)]) (fun _ => rfl) ?_
  obtain ⟨I_29, mu_29, H0_29, HB_29⟩ := H
  have lp_29 : ∀ (z : Nat) (x3_29 : Int) (m_29 : Mm), mu_29 x3_29 m_29 < z → rg x3_29 → I_29 x3_29 m_29 → mm_W d mc_194 29 [some (.ref 284), some (iv z1_16), some (iv z2_21), some (iv x3_29)] [] (fm m_29) (XV Q) := by
    intro z
    induction z with
    | zero => intro x3_29 m_29 hz; exact absurd hz (Nat.not_lt_zero _)
    | succ z ih_29 =>
      intro x3_29 m_29 hz_29 r_x3_29 hI
      have H := HB_29 x3_29 m_29 r_x3_29 hI
      refine w_st (fun _ => rfl) ?_
      refine w_st (fun _ => rfl) ?_
      refine g_284_20 rfl ?_
      obtain ⟨R_72, H, HJ_72⟩ := H
      have tl_72 : R_72 → mm_W d mc_194 72 [some (.ref 284), some (iv z1_16), some (iv z2_21), some (iv x3_29)] [] (fm m_29) (XV Q) := by
        intro   hR
        have H := HJ_72   hR
        refine w_st (fun _ => rfl) ?_
        refine g_284_32 rfl ?_
        refine w_st (fun _ => rfl) ?_
        refine w_st (fun _ => rfl) ?_
        refine f_int 0 rfl rfl ?_
        refine f_int 4 rfl rfl ?_
        refine k_VK (as := [iv 0, iv 4]) rfl mg_194 rfl rfl (by decide) rfl rfl H (fun m80 v80 r_v80 H => ?_)
        obtain ⟨m83, e_m83⟩ : ∃ q : Mm, q = wt m80 303 (Int.toNat z1_16) v80 := ⟨_, rfl⟩
        refine f_st ir_303 rfl H.1 e_m83 ?_
        replace H := H.2 m83 e_m83
        refine w_st (fun _ => rfl) ?_
        refine g_284_33 rfl ?_
        refine w_st (fun _ => rfl) ?_
        refine w_st (fun _ => rfl) ?_
        refine f_int 0 rfl rfl ?_
        refine f_int 4 rfl rfl ?_
        refine k_VK (as := [iv 0, iv 4]) rfl mg_194 rfl rfl (by decide) rfl rfl H (fun m92 v92 r_v92 H => ?_)
        obtain ⟨m95, e_m95⟩ : ∃ q : Mm, q = wt m92 304 (Int.toNat z1_16) v92 := ⟨_, rfl⟩
        refine f_st ir_304 rfl H.1 e_m95 ?_
        replace H := H.2 m95 e_m95
        refine f_int 0 rfl rfl ?_
        refine w_st (ls2 := [some (.ref 284), some (iv z1_16), some (iv z2_21), some (iv 0)]) (fun _ => rfl) ?_
        obtain ⟨I_98, mu_98, H0_98, HB_98⟩ := H
        have lp_98 : ∀ (z : Nat) (x3_98 : Int) (m_98 : Mm), mu_98 x3_98 m_98 < z → rg x3_98 → I_98 x3_98 m_98 → mm_W d mc_194 98 [some (.ref 284), some (iv z1_16), some (iv z2_21), some (iv x3_98)] [] (fm m_98) (XV Q) := by
          intro z
          induction z with
          | zero => intro x3_98 m_98 hz; exact absurd hz (Nat.not_lt_zero _)
          | succ z ih_98 =>
            intro x3_98 m_98 hz_98 r_x3_98 hI
            have H := HB_98 x3_98 m_98 r_x3_98 hI
            refine w_st (fun _ => rfl) ?_
            refine f_int 6 rfl rfl ?_
            refine b_ge rfl r_x3_98 (by unfold rg; decide) (fun hq => ?_) (fun hq => ?_)
            · replace H := H.1 hq
              refine w_st (fun _ => rfl) ?_
              refine f_int 4 rfl rfl ?_
              refine k_VV (as := [iv 4]) rfl mg_194 rfl rfl (by decide) rfl rfl H (fun m130 H => ?_)
              refine w_st (fun _ => rfl) ?_
              refine g_284_13 rfl ?_
              refine z_le rfl (rd_rg _ _ _) (fun hq => ?_) (fun hq => ?_)
              · replace H := H.1 hq
                refine w_st (fun _ => rfl) ?_
                refine g_284_21 rfl ?_
                refine w_st (fun _ => rfl) ?_
                refine g_284_20 rfl ?_
                refine w_st (fun _ => rfl) ?_
                refine g_284_8 rfl ?_
                refine w_st (fun _ => rfl) ?_
                refine f_ldl (n := 403) (by decide) rfl (by decide) rfl H.1 ?_
                replace H := H.2
                obtain ⟨m155, e_m155⟩ : ∃ q : Mm, q = wl m130 292 (Int.toNat (rd m130 284 20)) (ld m130 290 (Int.toNat z2_21)) := ⟨_, rfl⟩
                refine f_stl (n := 3) (by decide) (fun _ => rfl) (by decide) rfl H.1 e_m155 ?_
                replace H := H.2 m155 e_m155
                refine w_st (fun _ => rfl) ?_
                refine w_st (fun _ => rfl) ?_
                refine g_284_20 rfl ?_
                refine f_int 1 rfl rfl ?_
                refine f_add rfl ?_
                obtain ⟨m163, e_m163⟩ : ∃ q : Mm, q = wt m155 284 20 (wr ((rd m155 284 20) + 1)) := ⟨_, rfl⟩
                replace H := H m163 e_m163
                refine p_284_20 rfl e_m163 ?_
                refine w_st (fun _ => rfl) ?_
                refine g_284_31 rfl ?_
                refine w_st (fun _ => rfl) ?_
                refine g_284_19 rfl ?_
                refine w_st (fun _ => rfl) ?_
                refine f_ld ir_302 rfl H.1 ?_
                replace H := H.2
                refine f_int 1 rfl rfl ?_
                refine f_add rfl ?_
                obtain ⟨m178, e_m178⟩ : ∃ q : Mm, q = wt m163 302 (Int.toNat (rd m163 284 19)) (wr ((rd m163 302 (Int.toNat (rd m163 284 19))) + 1)) := ⟨_, rfl⟩
                refine f_st ir_302 rfl H.1 e_m178 ?_
                replace H := H.2 m178 e_m178
                exact f_ret rfl H
              · replace H := H.2 hq
                exact f_ret rfl H
            · replace H := H.2 hq
              refine w_st (fun _ => rfl) ?_
              refine g_284_34 rfl ?_
              refine f_int 6 rfl rfl ?_
              refine w_st (fun _ => rfl) ?_
              refine f_mul rfl ?_
              refine w_st (fun _ => rfl) ?_
              refine f_add rfl ?_
              refine w_st (fun _ => rfl) ?_
              refine f_int 0 rfl rfl ?_
              refine f_int 9 rfl rfl ?_
              refine k_VK (as := [iv 0, iv 9]) rfl mg_194 rfl rfl (by decide) rfl rfl H (fun m118 v118 r_v118 H => ?_)
              obtain ⟨m121, e_m121⟩ : ∃ q : Mm, q = wt m118 305 (Int.toNat (wr ((wr (6 * z1_16)) + x3_98))) v118 := ⟨_, rfl⟩
              refine f_st ir_305 rfl H.1 e_m121 ?_
              replace H := H.2 m121 e_m121
              obtain ⟨z3_122, e_z3_122⟩ : ∃ q : Int, q = wr (x3_98 + 1) := ⟨_, rfl⟩
              have r_z3_122 : rg z3_122 := by rw [e_z3_122]; exact wr_rg _
              replace H := H z3_122 e_z3_122
              refine f_iinc (ls2 := [some (.ref 284), some (iv z1_16), some (iv z2_21), some (iv z3_122)]) 1 rfl rfl rfl e_z3_122 rfl ?_
              refine w_st (fun _ => rfl) ?_
              exact ih_98 z3_122 m121 (Nat.lt_of_lt_of_le H.2 (Nat.le_of_lt_succ hz_98)) r_z3_122 H.1
        exact lp_98 _ 0 m95 (Nat.lt_succ_self _) (by unfold rg; decide) H0_98
      refine b_ge rfl r_x3_29 (rd_rg _ _ _) (fun hq => ?_) (fun hq => ?_)
      · replace H := H.1 hq
        exact tl_72   H
      · replace H := H.2 hq
        refine w_st (fun _ => rfl) ?_
        refine g_284_13 rfl ?_
        refine z_ne rfl (rd_rg _ _ _) (fun hq => ?_) (fun hq => ?_)
        · replace H := H.1 hq
          exact tl_72   H
        · replace H := H.2 hq
          refine w_st (fun _ => rfl) ?_
          refine g_284_21 rfl ?_
          refine w_st (fun _ => rfl) ?_
          refine f_ldl (n := 3) (by decide) rfl (by decide) rfl H.1 ?_
          replace H := H.2
          refine w_st (fun _ => rfl) ?_
          refine g_284_8 rfl ?_
          refine w_st (fun _ => rfl) ?_
          refine f_ldl (n := 403) (by decide) rfl (by decide) rfl H.1 ?_
          replace H := H.2
          refine f_lcmp rfl (ld_rg _ _ _) (ld_rg _ _ _) ?_
          obtain ⟨R_66, H, HJ_66⟩ := H
          have tl_66 : ∀ (m_66 : Mm), R_66 m_66 → mm_W d mc_194 66 [some (.ref 284), some (iv z1_16), some (iv z2_21), some (iv x3_29)] [] (fm m_66) (XV Q) := by
            intro m_66  hR
            have H := HJ_66 m_66  hR
            obtain ⟨z3_66, e_z3_66⟩ : ∃ q : Int, q = wr (x3_29 + 1) := ⟨_, rfl⟩
            have r_z3_66 : rg z3_66 := by rw [e_z3_66]; exact wr_rg _
            replace H := H z3_66 e_z3_66
            refine f_iinc (ls2 := [some (.ref 284), some (iv z1_16), some (iv z2_21), some (iv z3_66)]) 1 rfl rfl rfl e_z3_66 rfl ?_
            refine w_st (fun _ => rfl) ?_
            exact ih_29 z3_66 m_66 (Nat.lt_of_lt_of_le H.2 (Nat.le_of_lt_succ hz_29)) r_z3_66 H.1
          refine z_ne rfl (lcm2_rg _ _) (fun hq => ?_) (fun hq => ?_)
          · replace H := H.1 hq
            exact tl_66 m_29  H
          · replace H := H.2 hq
            refine w_st (fun _ => rfl) ?_
            refine f_int 3 rfl rfl ?_
            refine w_st (fun _ => rfl) ?_
            refine k_VV (as := [iv 3, iv z2_21]) rfl mg_194 rfl rfl (by decide) rfl rfl H (fun m63 H => ?_)
            exact tl_66 m63  H
  exact lp_29 _ 0 m24 (Nat.lt_succ_self _) (by unfold rg; decide) H0_29
/-- TippedCratesModel.tellLaw(I)V -/
def P_195 (d : Nat) (m : Mm) (x1 : Int) (Q : Mm → Prop) : Prop :=
  CV d 184 [.ref 284, iv 5] m (fun m2 =>
    (∀ z2_9 : Int, z2_9 = (rd m2 284 38) → (∃ (I_12 : Int → Mm → Prop) (mu_12 : Int → Mm → Nat), I_12 0 m2 ∧
    ∀ (x3_12 : Int) (m_12 : Mm), rg x3_12 → I_12 x3_12 m_12 →
    (∃ R_129 : Mm → Prop,
        ((¬ (rd m_12 284 13) = 0 → R_129 m_12) ∧
        ((rd m_12 284 13) = 0 → CK d 180 [.ref 284, iv 29] m_12 (fun m22 v22 =>
          ((v22 = 0 → R_129 m22) ∧
          (¬ v22 = 0 → (∃ R_38 : Mm → Prop,
            ((¬ x3_12 = 4 → R_38 m22) ∧
            (x3_12 = 4 → CV d 181 [.ref 284, iv 2] m22 (fun m35 =>
              R_38 m35))) ∧
            (∀ (m_38 : Mm), R_38 m_38 →
            (((rd m_38 284 13) ≤ 0 → (∀ z3_46 : Int, z3_46 = wr (x3_12 + 1) → CV d 183 [.ref 284] m_38 (fun m50 =>
                (((0 : Int) ≤ (rd m50 284 38) ∧ (rd m50 284 38) < 260) ∧ (∀ m62 : Mm, m62 = wt m50 309 (Int.toNat (rd m50 284 38)) (nz 1) → (((0 : Int) ≤ (rd m62 284 38) ∧ (rd m62 284 38) < 260) ∧ (∀ m75 : Mm, m75 = wt m62 310 (Int.toNat (rd m62 284 38)) (rd m62 284 44) → CV d 199 [.ref 284] m75 (fun m77 =>
                CV d 184 [.ref 284, iv 13] m77 (fun m83 =>
                (((0 : Int) ≤ (rd m83 284 38) ∧ (rd m83 284 38) < 260) ∧ (∀ m98 : Mm, m98 = wt m83 311 (Int.toNat (rd m83 284 38)) (rd m83 284 44) → (∃ R_110 : Mm → Prop,
                ((¬ (rd m98 284 13) = 0 → R_110 m98) ∧
                ((rd m98 284 13) = 0 → CV d 199 [.ref 284] m98 (fun m107 =>
                  R_110 m107))) ∧
                (∀ (m_110 : Mm), R_110 m_110 →
                CV d 184 [.ref 284, iv 30] m_110 (fun m113 =>
                  CV d 196 [.ref 284] m113 (fun m117 =>
                  CV d 184 [.ref 284, iv 31] m117 (fun m123 =>
                  (I_12 z3_46 m123 ∧ mu_12 z3_46 m123 < mu_12 x3_12 m_12))))))))))))))))) ∧
              (¬ (rd m_38 284 13) ≤ 0 → Q m_38))))))))) ∧
        (∀ (m_129 : Mm), R_129 m_129 →
        (((0 : Int) ≤ (rd m_129 284 38) ∧ (rd m_129 284 38) < 260) ∧ (∀ m138 : Mm, m138 = wt m_129 309 (Int.toNat (rd m_129 284 38)) (nz 0) → CV d 196 [.ref 284] m138 (fun m140 =>
          CV d 184 [.ref 284, iv 4] m140 (fun m145 =>
          (((rd m145 284 13) ≤ 0 → (((0 : Int) ≤ (wr ((wr (4 * (rd m145 284 19))) + x1)) ∧ (wr ((wr (4 * (rd m145 284 19))) + x1)) < 8) ∧ (∀ m169 : Mm, m169 = wt m145 307 (Int.toNat (wr ((wr (4 * (rd m145 284 19))) + x1))) z2_9 → (((0 : Int) ≤ (wr ((wr (4 * (rd m169 284 19))) + x1)) ∧ (wr ((wr (4 * (rd m169 284 19))) + x1)) < 8) ∧ (∀ m186 : Mm, m186 = wt m169 308 (Int.toNat (wr ((wr (4 * (rd m169 284 19))) + x1))) (rd m169 284 38) → Q m186))))) ∧
          (¬ (rd m145 284 13) ≤ 0 → Q m145)))))))))))
set_option maxRecDepth 20000 in
theorem br_195 {d : Nat} {m : Mm} {x1 : Int} {Q : Mm → Prop} (r_x1 : rg x1) (H : P_195 d m x1 Q) : CV (d + 1) 195 [.ref 284, iv x1] m Q := by
  unfold P_195 at H
  refine CV_of rfl ?_
  show mm_W d mc_195 0 [some (.ref 284), some (iv x1), none, none] [] (fm m) (XV Q)
  refine w_st (fun _ => rfl) ?_
  refine f_int 5 rfl rfl ?_
  refine k_VV (as := [iv 5]) rfl mg_195 rfl rfl (by decide) rfl rfl H (fun m2 H => ?_)
  refine w_st (fun _ => rfl) ?_
  refine g_284_38 rfl ?_
  obtain ⟨z2_9, e_z2_9⟩ : ∃ q : Int, q = (rd m2 284 38) := ⟨_, rfl⟩
  have r_z2_9 : rg z2_9 := by rw [e_z2_9]; exact (rd_rg _ _ _)
  replace H := H z2_9 e_z2_9
  refine f_nm e_z2_9 ?_
  refine w_st (ls2 := [some (.ref 284), some (iv x1), some (iv z2_9), none]) (fun _ => rfl) ?_
  refine f_int 0 rfl rfl ?_
  refine w_st (ls2 := [some (.ref 284), some (iv x1), some (iv z2_9), some (iv 0)]) (fun _ => rfl) ?_
  obtain ⟨I_12, mu_12, H0_12, HB_12⟩ := H
  have lp_12 : ∀ (z : Nat) (x3_12 : Int) (m_12 : Mm), mu_12 x3_12 m_12 < z → rg x3_12 → I_12 x3_12 m_12 → mm_W d mc_195 12 [some (.ref 284), some (iv x1), some (iv z2_9), some (iv x3_12)] [] (fm m_12) (XV Q) := by
    intro z
    induction z with
    | zero => intro x3_12 m_12 hz; exact absurd hz (Nat.not_lt_zero _)
    | succ z ih_12 =>
      intro x3_12 m_12 hz_12 r_x3_12 hI
      have H := HB_12 x3_12 m_12 r_x3_12 hI
      refine w_st (fun _ => rfl) ?_
      refine g_284_13 rfl ?_
      obtain ⟨R_129, H, HJ_129⟩ := H
      have tl_129 : ∀ (m_129 : Mm), R_129 m_129 → mm_W d mc_195 129 [some (.ref 284), some (iv x1), some (iv z2_9), some (iv x3_12)] [] (fm m_129) (XV Q) := by
        intro m_129  hR
        have H := HJ_129 m_129  hR
        refine w_st (fun _ => rfl) ?_
        refine g_284_39 rfl ?_
        refine w_st (fun _ => rfl) ?_
        refine g_284_38 rfl ?_
        refine f_int 0 rfl rfl ?_
        obtain ⟨m138, e_m138⟩ : ∃ q : Mm, q = wt m_129 309 (Int.toNat (rd m_129 284 38)) (nz 0) := ⟨_, rfl⟩
        refine f_stz (n := 260) (by decide) (fun _ => rfl) (by decide) rfl H.1 e_m138 ?_
        replace H := H.2 m138 e_m138
        refine w_st (fun _ => rfl) ?_
        refine k_VV (as := []) rfl mg_195 rfl rfl (by decide) rfl rfl H (fun m140 H => ?_)
        refine w_st (fun _ => rfl) ?_
        refine f_int 4 rfl rfl ?_
        refine k_VV (as := [iv 4]) rfl mg_195 rfl rfl (by decide) rfl rfl H (fun m145 H => ?_)
        refine w_st (fun _ => rfl) ?_
        refine g_284_13 rfl ?_
        refine z_le rfl (rd_rg _ _ _) (fun hq => ?_) (fun hq => ?_)
        · replace H := H.1 hq
          refine w_st (fun _ => rfl) ?_
          refine g_284_36 rfl ?_
          refine f_int 4 rfl rfl ?_
          refine w_st (fun _ => rfl) ?_
          refine g_284_19 rfl ?_
          refine f_mul rfl ?_
          refine w_st (fun _ => rfl) ?_
          refine f_add rfl ?_
          refine w_st (fun _ => rfl) ?_
          obtain ⟨m169, e_m169⟩ : ∃ q : Mm, q = wt m145 307 (Int.toNat (wr ((wr (4 * (rd m145 284 19))) + x1))) z2_9 := ⟨_, rfl⟩
          refine f_st ir_307 rfl H.1 e_m169 ?_
          replace H := H.2 m169 e_m169
          refine w_st (fun _ => rfl) ?_
          refine g_284_37 rfl ?_
          refine f_int 4 rfl rfl ?_
          refine w_st (fun _ => rfl) ?_
          refine g_284_19 rfl ?_
          refine f_mul rfl ?_
          refine w_st (fun _ => rfl) ?_
          refine f_add rfl ?_
          refine w_st (fun _ => rfl) ?_
          refine g_284_38 rfl ?_
          obtain ⟨m186, e_m186⟩ : ∃ q : Mm, q = wt m169 308 (Int.toNat (wr ((wr (4 * (rd m169 284 19))) + x1))) (rd m169 284 38) := ⟨_, rfl⟩
          refine f_st ir_308 rfl H.1 e_m186 ?_
          replace H := H.2 m186 e_m186
          exact f_ret rfl H
        · replace H := H.2 hq
          exact f_ret rfl H
      refine z_ne rfl (rd_rg _ _ _) (fun hq => ?_) (fun hq => ?_)
      · replace H := H.1 hq
        exact tl_129 m_12  H
      · replace H := H.2 hq
        refine w_st (fun _ => rfl) ?_
        refine f_int 29 rfl rfl ?_
        refine k_VK (as := [iv 29]) rfl mg_195 rfl rfl (by decide) rfl rfl H (fun m22 v22 r_v22 H => ?_)
        refine z_eq rfl r_v22 (fun hq => ?_) (fun hq => ?_)
        · replace H := H.1 hq
          exact tl_129 m22  H
        · replace H := H.2 hq
          refine w_st (fun _ => rfl) ?_
          refine f_int 4 rfl rfl ?_
          obtain ⟨R_38, H, HJ_38⟩ := H
          have tl_38 : ∀ (m_38 : Mm), R_38 m_38 → mm_W d mc_195 38 [some (.ref 284), some (iv x1), some (iv z2_9), some (iv x3_12)] [] (fm m_38) (XV Q) := by
            intro m_38  hR
            have H := HJ_38 m_38  hR
            refine w_st (fun _ => rfl) ?_
            refine g_284_13 rfl ?_
            refine z_le rfl (rd_rg _ _ _) (fun hq => ?_) (fun hq => ?_)
            · replace H := H.1 hq
              obtain ⟨z3_46, e_z3_46⟩ : ∃ q : Int, q = wr (x3_12 + 1) := ⟨_, rfl⟩
              have r_z3_46 : rg z3_46 := by rw [e_z3_46]; exact wr_rg _
              replace H := H z3_46 e_z3_46
              refine f_iinc (ls2 := [some (.ref 284), some (iv x1), some (iv z2_9), some (iv z3_46)]) 1 rfl rfl rfl e_z3_46 rfl ?_
              refine w_st (fun _ => rfl) ?_
              refine k_VV (as := []) rfl mg_195 rfl rfl (by decide) rfl rfl H (fun m50 H => ?_)
              refine w_st (fun _ => rfl) ?_
              refine g_284_39 rfl ?_
              refine w_st (fun _ => rfl) ?_
              refine g_284_38 rfl ?_
              refine f_int 1 rfl rfl ?_
              obtain ⟨m62, e_m62⟩ : ∃ q : Mm, q = wt m50 309 (Int.toNat (rd m50 284 38)) (nz 1) := ⟨_, rfl⟩
              refine f_stz (n := 260) (by decide) (fun _ => rfl) (by decide) rfl H.1 e_m62 ?_
              replace H := H.2 m62 e_m62
              refine w_st (fun _ => rfl) ?_
              refine g_284_40 rfl ?_
              refine w_st (fun _ => rfl) ?_
              refine g_284_38 rfl ?_
              refine w_st (fun _ => rfl) ?_
              refine g_284_44 rfl ?_
              obtain ⟨m75, e_m75⟩ : ∃ q : Mm, q = wt m62 310 (Int.toNat (rd m62 284 38)) (rd m62 284 44) := ⟨_, rfl⟩
              refine f_st ir_310 rfl H.1 e_m75 ?_
              replace H := H.2 m75 e_m75
              refine w_st (fun _ => rfl) ?_
              refine k_VV (as := []) rfl mg_195 rfl rfl (by decide) rfl rfl H (fun m77 H => ?_)
              refine w_st (fun _ => rfl) ?_
              refine f_int 13 rfl rfl ?_
              refine k_VV (as := [iv 13]) rfl mg_195 rfl rfl (by decide) rfl rfl H (fun m83 H => ?_)
              refine w_st (fun _ => rfl) ?_
              refine g_284_41 rfl ?_
              refine w_st (fun _ => rfl) ?_
              refine g_284_38 rfl ?_
              refine w_st (fun _ => rfl) ?_
              refine g_284_44 rfl ?_
              obtain ⟨m98, e_m98⟩ : ∃ q : Mm, q = wt m83 311 (Int.toNat (rd m83 284 38)) (rd m83 284 44) := ⟨_, rfl⟩
              refine f_st ir_311 rfl H.1 e_m98 ?_
              replace H := H.2 m98 e_m98
              refine w_st (fun _ => rfl) ?_
              refine g_284_13 rfl ?_
              obtain ⟨R_110, H, HJ_110⟩ := H
              have tl_110 : ∀ (m_110 : Mm), R_110 m_110 → mm_W d mc_195 110 [some (.ref 284), some (iv x1), some (iv z2_9), some (iv z3_46)] [] (fm m_110) (XV Q) := by
                intro m_110  hR
                have H := HJ_110 m_110  hR
                refine w_st (fun _ => rfl) ?_
                refine f_int 30 rfl rfl ?_
                refine k_VV (as := [iv 30]) rfl mg_195 rfl rfl (by decide) rfl rfl H (fun m113 H => ?_)
                refine w_st (fun _ => rfl) ?_
                refine k_VV (as := []) rfl mg_195 rfl rfl (by decide) rfl rfl H (fun m117 H => ?_)
                refine w_st (fun _ => rfl) ?_
                refine f_int 31 rfl rfl ?_
                refine k_VV (as := [iv 31]) rfl mg_195 rfl rfl (by decide) rfl rfl H (fun m123 H => ?_)
                refine w_st (fun _ => rfl) ?_
                exact ih_12 z3_46 m123 (Nat.lt_of_lt_of_le H.2 (Nat.le_of_lt_succ hz_12)) r_z3_46 H.1
              refine z_ne rfl (rd_rg _ _ _) (fun hq => ?_) (fun hq => ?_)
              · replace H := H.1 hq
                exact tl_110 m98  H
              · replace H := H.2 hq
                refine w_st (fun _ => rfl) ?_
                refine k_VV (as := []) rfl mg_195 rfl rfl (by decide) rfl rfl H (fun m107 H => ?_)
                exact tl_110 m107  H
            · replace H := H.2 hq
              exact f_ret rfl H
          refine b_ne rfl r_x3_12 (by unfold rg; decide) (fun hq => ?_) (fun hq => ?_)
          · replace H := H.1 hq
            exact tl_38 m22  H
          · replace H := H.2 hq
            refine w_st (fun _ => rfl) ?_
            refine f_int 2 rfl rfl ?_
            refine k_VV (as := [iv 2]) rfl mg_195 rfl rfl (by decide) rfl rfl H (fun m35 H => ?_)
            exact tl_38 m35  H
  exact lp_12 _ 0 m2 (Nat.lt_succ_self _) (by unfold rg; decide) H0_12
/-- TippedCratesModel.term()V -/
def P_196 (d : Nat) (m : Mm)  (Q : Mm → Prop) : Prop :=
  (((0 : Int) ≤ (rd m 284 38) ∧ (rd m 284 38) < 260) ∧ (∀ m12 : Mm, m12 = wt m 312 (Int.toNat (rd m 284 38)) (rd m 284 44) → (∃ R_24 : Mm → Prop,
    ((¬ (rd m12 284 13) = 0 → R_24 m12) ∧
    ((rd m12 284 13) = 0 → CV d 199 [.ref 284] m12 (fun m21 =>
      R_24 m21))) ∧
    (∀ (m_24 : Mm), R_24 m_24 →
    (((0 : Int) ≤ (rd m_24 284 38) ∧ (rd m_24 284 38) < 260) ∧ (∀ m36 : Mm, m36 = wt m_24 313 (Int.toNat (rd m_24 284 38)) (rd m_24 284 44) → (∀ m44 : Mm, m44 = wt m36 284 38 (wr ((rd m36 284 38) + 1)) → Q m44)))))))
set_option maxRecDepth 20000 in
theorem br_196 {d : Nat} {m : Mm}  {Q : Mm → Prop}  (H : P_196 d m  Q) : CV (d + 1) 196 [.ref 284] m Q := by
  unfold P_196 at H
  refine CV_of rfl ?_
  show mm_W d mc_196 0 [some (.ref 284)] [] (fm m) (XV Q)
  refine w_st (fun _ => rfl) ?_
  refine g_284_42 rfl ?_
  refine w_st (fun _ => rfl) ?_
  refine g_284_38 rfl ?_
  refine w_st (fun _ => rfl) ?_
  refine g_284_44 rfl ?_
  obtain ⟨m12, e_m12⟩ : ∃ q : Mm, q = wt m 312 (Int.toNat (rd m 284 38)) (rd m 284 44) := ⟨_, rfl⟩
  refine f_st ir_312 rfl H.1 e_m12 ?_
  replace H := H.2 m12 e_m12
  refine w_st (fun _ => rfl) ?_
  refine g_284_13 rfl ?_
  obtain ⟨R_24, H, HJ_24⟩ := H
  have tl_24 : ∀ (m_24 : Mm), R_24 m_24 → mm_W d mc_196 24 [some (.ref 284)] [] (fm m_24) (XV Q) := by
    intro m_24  hR
    have H := HJ_24 m_24  hR
    refine w_st (fun _ => rfl) ?_
    refine g_284_43 rfl ?_
    refine w_st (fun _ => rfl) ?_
    refine g_284_38 rfl ?_
    refine w_st (fun _ => rfl) ?_
    refine g_284_44 rfl ?_
    obtain ⟨m36, e_m36⟩ : ∃ q : Mm, q = wt m_24 313 (Int.toNat (rd m_24 284 38)) (rd m_24 284 44) := ⟨_, rfl⟩
    refine f_st ir_313 rfl H.1 e_m36 ?_
    replace H := H.2 m36 e_m36
    refine w_st (fun _ => rfl) ?_
    refine w_st (fun _ => rfl) ?_
    refine g_284_38 rfl ?_
    refine f_int 1 rfl rfl ?_
    refine f_add rfl ?_
    obtain ⟨m44, e_m44⟩ : ∃ q : Mm, q = wt m36 284 38 (wr ((rd m36 284 38) + 1)) := ⟨_, rfl⟩
    replace H := H m44 e_m44
    refine p_284_38 rfl e_m44 ?_
    exact f_ret rfl H
  refine z_ne rfl (rd_rg _ _ _) (fun hq => ?_) (fun hq => ?_)
  · replace H := H.1 hq
    exact tl_24 m12  H
  · replace H := H.2 hq
    refine w_st (fun _ => rfl) ?_
    refine k_VV (as := []) rfl mg_196 rfl rfl (by decide) rfl rfl H (fun m21 H => ?_)
    exact tl_24 m21  H
/-- TippedCratesModel.emit(II)V -/
def P_197 (d : Nat) (m : Mm) (x1 : Int) (x2 : Int) (Q : Mm → Prop) : Prop :=
  (((0 : Int) ≤ (rd m 284 44) ∧ (rd m 284 44) < 840) ∧ (∀ m9 : Mm, m9 = wt m 314 (Int.toNat (rd m 284 44)) x1 → (((0 : Int) ≤ (rd m9 284 44) ∧ (rd m9 284 44) < 840) ∧ (∀ m19 : Mm, m19 = wt m9 315 (Int.toNat (rd m9 284 44)) x2 → (∀ m27 : Mm, m27 = wt m19 284 44 (wr ((rd m19 284 44) + 1)) → Q m27)))))
set_option maxRecDepth 20000 in
theorem br_197 {d : Nat} {m : Mm} {x1 : Int} {x2 : Int} {Q : Mm → Prop} (r_x1 : rg x1) (r_x2 : rg x2) (H : P_197 d m x1 x2 Q) : CV (d + 1) 197 [.ref 284, iv x1, iv x2] m Q := by
  unfold P_197 at H
  refine CV_of rfl ?_
  show mm_W d mc_197 0 [some (.ref 284), some (iv x1), some (iv x2)] [] (fm m) (XV Q)
  refine w_st (fun _ => rfl) ?_
  refine g_284_45 rfl ?_
  refine w_st (fun _ => rfl) ?_
  refine g_284_44 rfl ?_
  refine w_st (fun _ => rfl) ?_
  obtain ⟨m9, e_m9⟩ : ∃ q : Mm, q = wt m 314 (Int.toNat (rd m 284 44)) x1 := ⟨_, rfl⟩
  refine f_st ir_314 rfl H.1 e_m9 ?_
  replace H := H.2 m9 e_m9
  refine w_st (fun _ => rfl) ?_
  refine g_284_46 rfl ?_
  refine w_st (fun _ => rfl) ?_
  refine g_284_44 rfl ?_
  refine w_st (fun _ => rfl) ?_
  obtain ⟨m19, e_m19⟩ : ∃ q : Mm, q = wt m9 315 (Int.toNat (rd m9 284 44)) x2 := ⟨_, rfl⟩
  refine f_st ir_315 rfl H.1 e_m19 ?_
  replace H := H.2 m19 e_m19
  refine w_st (fun _ => rfl) ?_
  refine w_st (fun _ => rfl) ?_
  refine g_284_44 rfl ?_
  refine f_int 1 rfl rfl ?_
  refine f_add rfl ?_
  obtain ⟨m27, e_m27⟩ : ∃ q : Mm, q = wt m19 284 44 (wr ((rd m19 284 44) + 1)) := ⟨_, rfl⟩
  replace H := H m27 e_m27
  refine p_284_44 rfl e_m27 ?_
  exact f_ret rfl H
/-- TippedCratesModel.comesOut(Z)V -/
def P_198 (d : Nat) (m : Mm) (x1 : Int) (Q : Mm → Prop) : Prop :=
  (∃ (I_0 : Mm → Prop) (mu_0 : Mm → Nat), I_0 m ∧
    ∀ (m_0 : Mm), I_0 m_0 →
    (((rd m_0 284 48) ≤ 0 → Q m_0) ∧
        (¬ (rd m_0 284 48) ≤ 0 → (((0 : Int) ≤ (wr ((rd m_0 284 48) - 1)) ∧ (wr ((rd m_0 284 48) - 1)) < 64) ∧ (∀ z2_18 : Int, z2_18 = (rd m_0 316 (Int.toNat (wr ((rd m_0 284 48) - 1)))) → (∃ R_41 : Prop,
          ((z2_18 = 6 → R_41) ∧
          (¬ z2_18 = 6 → (∃ R_42 : Prop,
            ((x1 = 0 → R_42) ∧
            (¬ x1 = 0 → ((z2_18 = 8 → R_41) ∧
              (¬ z2_18 = 8 → ((¬ z2_18 = 9 → R_42) ∧
                (z2_18 = 9 → R_41)))))) ∧
            (R_42 →
            (∀ m49 : Mm, m49 = wt m_0 284 48 (wr ((rd m_0 284 48) - 1)) → (∃ R_84 : Int → Prop,
              ((¬ z2_18 = 8 → ((¬ z2_18 = 9 → ((¬ z2_18 = 10 → R_84 5) ∧
                  (z2_18 = 10 → R_84 4))) ∧
                (z2_18 = 9 → R_84 3))) ∧
              (z2_18 = 8 → R_84 2)) ∧
              (∀ (s1_84 : Int) , rg s1_84 → R_84 s1_84 →
              CV d 197 [.ref 284, iv s1_84, iv 0] m49 (fun m85 =>
                (I_0 m85 ∧ mu_0 m85 < mu_0 m_0))))))))) ∧
          (R_41 →
          Q m_0)))))))
set_option maxRecDepth 20000 in
theorem br_198 {d : Nat} {m : Mm} {x1 : Int} {Q : Mm → Prop} (r_x1 : rg x1) (H : P_198 d m x1 Q) : CV (d + 1) 198 [.ref 284, iv x1] m Q := by
  unfold P_198 at H
  refine CV_of rfl ?_
  show mm_W d mc_198 0 [some (.ref 284), some (iv x1), none] [] (fm m) (XV Q)
  obtain ⟨I_0, mu_0, H0_0, HB_0⟩ := H
  have lp_0 : ∀ (z : Nat) (m_0 : Mm) (g2_0 : Option Value), mu_0 m_0 < z → I_0 m_0 → mm_W d mc_198 0 [some (.ref 284), some (iv x1), g2_0] [] (fm m_0) (XV Q) := by
    intro z
    induction z with
    | zero => intro m_0 g2_0 hz; exact absurd hz (Nat.not_lt_zero _)
    | succ z ih_0 =>
      intro m_0 g2_0 hz_0  hI
      have H := HB_0 m_0  hI
      refine w_st (fun _ => rfl) ?_
      refine g_284_48 rfl ?_
      refine z_le rfl (rd_rg _ _ _) (fun hq => ?_) (fun hq => ?_)
      · replace H := H.1 hq
        exact f_ret rfl H
      · replace H := H.2 hq
        refine w_st (fun _ => rfl) ?_
        refine g_284_47 rfl ?_
        refine w_st (fun _ => rfl) ?_
        refine g_284_48 rfl ?_
        refine f_int 1 rfl rfl ?_
        refine f_sub rfl ?_
        refine f_ld ir_316 rfl H.1 ?_
        replace H := H.2
        obtain ⟨z2_18, e_z2_18⟩ : ∃ q : Int, q = (rd m_0 316 (Int.toNat (wr ((rd m_0 284 48) - 1)))) := ⟨_, rfl⟩
        have r_z2_18 : rg z2_18 := by rw [e_z2_18]; exact (rd_rg _ _ _)
        replace H := H z2_18 e_z2_18
        refine f_nm e_z2_18 ?_
        refine w_st (ls2 := [some (.ref 284), some (iv x1), some (iv z2_18)]) (fun _ => rfl) ?_
        refine w_st (fun _ => rfl) ?_
        refine f_int 6 rfl rfl ?_
        obtain ⟨R_41, H, HJ_41⟩ := H
        have tl_41 : R_41 → mm_W d mc_198 41 [some (.ref 284), some (iv x1), some (iv z2_18)] [] (fm m_0) (XV Q) := by
          intro   hR
          have H := HJ_41   hR
          exact f_ret rfl H
        refine b_eq rfl r_z2_18 (by unfold rg; decide) (fun hq => ?_) (fun hq => ?_)
        · replace H := H.1 hq
          exact tl_41   H
        · replace H := H.2 hq
          refine w_st (fun _ => rfl) ?_
          obtain ⟨R_42, H, HJ_42⟩ := H
          have tl_42 : R_42 → mm_W d mc_198 42 [some (.ref 284), some (iv x1), some (iv z2_18)] [] (fm m_0) (XV Q) := by
            intro   hR
            have H := HJ_42   hR
            refine w_st (fun _ => rfl) ?_
            refine w_st (fun _ => rfl) ?_
            refine g_284_48 rfl ?_
            refine f_int 1 rfl rfl ?_
            refine f_sub rfl ?_
            obtain ⟨m49, e_m49⟩ : ∃ q : Mm, q = wt m_0 284 48 (wr ((rd m_0 284 48) - 1)) := ⟨_, rfl⟩
            replace H := H m49 e_m49
            refine p_284_48 rfl e_m49 ?_
            refine w_st (fun _ => rfl) ?_
            refine w_st (fun _ => rfl) ?_
            refine f_int 8 rfl rfl ?_
            obtain ⟨R_84, H, HJ_84⟩ := H
            have tl_84 : ∀ (s1_84 : Int) , rg s1_84 → R_84 s1_84 → mm_W d mc_198 84 [some (.ref 284), some (iv x1), some (iv z2_18)] [iv s1_84, .ref 284] (fm m49) (XV Q) := by
              intro s1_84 r_s1_84 hR
              have H := HJ_84 s1_84 r_s1_84 hR
              refine f_int 0 rfl rfl ?_
              refine k_VV (as := [iv s1_84, iv 0]) rfl mg_198 rfl rfl (by decide) rfl rfl H (fun m85 H => ?_)
              refine w_st (fun _ => rfl) ?_
              exact ih_0 m85 (some (iv z2_18)) (Nat.lt_of_lt_of_le H.2 (Nat.le_of_lt_succ hz_0))  H.1
            refine b_ne rfl r_z2_18 (by unfold rg; decide) (fun hq => ?_) (fun hq => ?_)
            · replace H := H.1 hq
              refine w_st (fun _ => rfl) ?_
              refine f_int 9 rfl rfl ?_
              refine b_ne rfl r_z2_18 (by unfold rg; decide) (fun hq => ?_) (fun hq => ?_)
              · replace H := H.1 hq
                refine w_st (fun _ => rfl) ?_
                refine f_int 10 rfl rfl ?_
                refine b_ne rfl r_z2_18 (by unfold rg; decide) (fun hq => ?_) (fun hq => ?_)
                · replace H := H.1 hq
                  refine f_int 5 rfl rfl ?_
                  exact tl_84 5 (by unfold rg; decide) H
                · replace H := H.2 hq
                  refine f_int 4 rfl rfl ?_
                  refine w_st (fun _ => rfl) ?_
                  exact tl_84 4 (by unfold rg; decide) H
              · replace H := H.2 hq
                refine f_int 3 rfl rfl ?_
                refine w_st (fun _ => rfl) ?_
                exact tl_84 3 (by unfold rg; decide) H
            · replace H := H.2 hq
              refine f_int 2 rfl rfl ?_
              refine w_st (fun _ => rfl) ?_
              exact tl_84 2 (by unfold rg; decide) H
          refine z_eq rfl r_x1 (fun hq => ?_) (fun hq => ?_)
          · replace H := H.1 hq
            exact tl_42   H
          · replace H := H.2 hq
            refine w_st (fun _ => rfl) ?_
            refine f_int 8 rfl rfl ?_
            refine b_eq rfl r_z2_18 (by unfold rg; decide) (fun hq => ?_) (fun hq => ?_)
            · replace H := H.1 hq
              exact tl_41   H
            · replace H := H.2 hq
              refine w_st (fun _ => rfl) ?_
              refine f_int 9 rfl rfl ?_
              refine b_ne rfl r_z2_18 (by unfold rg; decide) (fun hq => ?_) (fun hq => ?_)
              · replace H := H.1 hq
                exact tl_42   H
              · replace H := H.2 hq
                exact tl_41   H
  exact lp_0 _ m none (Nat.lt_succ_self _)  H0_0
/-- TippedCratesModel.expression()V -/
def P_199 (d : Nat) (m : Mm)  (Q : Mm → Prop) : Prop :=
  (∀ m2 : Mm, m2 = wt m 284 48 0 → (∀ z1_9 : Int, z1_9 = (rd m2 284 12) → (∃ (I_12 : Int → Mm → Prop) (mu_12 : Int → Mm → Nat), I_12 1 m2 ∧
    ∀ (x2_12 : Int) (m_12 : Mm), rg x2_12 → I_12 x2_12 m_12 →
    (∃ R_272 : Prop,
        ((x2_12 = 0 → R_272) ∧
        (¬ x2_12 = 0 → ((¬ (rd m_12 284 13) = 0 → R_272) ∧
          ((rd m_12 284 13) = 0 → (∃ (I_23 : Mm → Prop) (mu_23 : Mm → Nat), I_23 m_12 ∧
            ∀ (m_23 : Mm), I_23 m_23 →
            CK d 180 [.ref 284, iv 6] m_23 (fun m26 v26 =>
                ((v26 = 0 → CV d 200 [.ref 284] m26 (fun m85 =>
                  (((rd m85 284 13) ≤ 0 → (∃ (I_96 : Mm → Prop) (mu_96 : Mm → Nat), I_96 m85 ∧
                    ∀ (m_96 : Mm), I_96 m_96 →
                    CK d 180 [.ref 284, iv 7] m_96 (fun m99 v99 =>
                        (∃ R_145 : Prop,
                        ((v99 = 0 → R_145) ∧
                        (¬ v99 = 0 → (((rd m99 284 12) ≤ z1_9 → R_145) ∧
                          (¬ (rd m99 284 12) ≤ z1_9 → CV d 198 [.ref 284, iv 0] m99 (fun m115 =>
                            (∀ m125 : Mm, m125 = wt m115 284 48 (wr ((rd m115 284 48) - 1)) → (∀ m135 : Mm, m135 = wt m125 284 12 (wr ((rd m125 284 12) - 1)) → CV d 183 [.ref 284] m135 (fun m139 =>
                            (I_96 m139 ∧ mu_96 m139 < mu_96 m_96))))))))) ∧
                        (R_145 →
                        CK d 180 [.ref 284, iv 8] m99 (fun m148 v148 =>
                          (∃ R_186 : Int → Mm → Prop,
                          (∃ R_181 : Mm → Prop,
                          ((¬ v148 = 0 → R_181 m148) ∧
                          (v148 = 0 → CK d 180 [.ref 284, iv 9] m148 (fun m157 v157 =>
                            ((¬ v157 = 0 → R_181 m157) ∧
                            (v157 = 0 → CK d 180 [.ref 284, iv 10] m157 (fun m166 v166 =>
                              ((¬ v166 = 0 → R_181 m166) ∧
                              (v166 = 0 → CK d 180 [.ref 284, iv 15] m166 (fun m175 v175 =>
                                ((v175 = 0 → R_186 0 m175) ∧
                                (¬ v175 = 0 → R_181 m175))))))))))) ∧
                          (∀ (m_181 : Mm), R_181 m_181 →
                          R_186 1 m_181)) ∧
                          (∀ (s0_186 : Int) (m_186 : Mm), rg s0_186 → R_186 s0_186 m_186 →
                          ((¬ s0_186 = 0 → CK d 180 [.ref 284, iv 10] m_186 (fun m214 v214 =>
                              (∃ R_234 : Int → Mm → Prop,
                              (∃ R_229 : Mm → Prop,
                              ((¬ v214 = 0 → R_229 m214) ∧
                              (v214 = 0 → CK d 180 [.ref 284, iv 15] m214 (fun m223 v223 =>
                                ((v223 = 0 → R_234 0 m223) ∧
                                (¬ v223 = 0 → R_229 m223))))) ∧
                              (∀ (m_229 : Mm), R_229 m_229 →
                              R_234 1 m_229)) ∧
                              (∀ (s1_234 : Int) (m_234 : Mm), rg s1_234 → R_234 s1_234 m_234 →
                              CV d 198 [.ref 284, iv s1_234] m_234 (fun m234 =>
                                (((0 : Int) ≤ (rd m234 284 11) ∧ (rd m234 284 11) < 403) ∧ (((0 : Int) ≤ (rd m234 284 48) ∧ (rd m234 284 48) < 64) ∧ (∀ m254 : Mm, m254 = wt m234 316 (Int.toNat (rd m234 284 48)) (rd m234 287 (Int.toNat (rd m234 284 11))) → (∀ m262 : Mm, m262 = wt m254 284 48 (wr ((rd m254 284 48) + 1)) → CV d 183 [.ref 284] m262 (fun m266 =>
                                (I_12 s0_186 m266 ∧ mu_12 s0_186 m266 < mu_12 x2_12 m_12))))))))))) ∧
                            (s0_186 = 0 → (∃ R_204 : Mm → Prop,
                              (((rd m_186 284 12) ≤ z1_9 → R_204 m_186) ∧
                              (¬ (rd m_186 284 12) ≤ z1_9 → CV d 181 [.ref 284, iv 1] m_186 (fun m201 =>
                                R_204 m201))) ∧
                              (∀ (m_204 : Mm), R_204 m_204 →
                              CV d 198 [.ref 284, iv 0] m_204 (fun m206 =>
                                Q m206))))))))))))) ∧
                  (¬ (rd m85 284 13) ≤ 0 → Q m85)))) ∧
                (¬ v26 = 0 → (∃ R_46 : Mm → Prop,
                  ((¬ (rd m26 284 12) = 6 → R_46 m26) ∧
                  ((rd m26 284 12) = 6 → CV d 181 [.ref 284, iv 2] m26 (fun m43 =>
                    R_46 m43))) ∧
                  (∀ (m_46 : Mm), R_46 m_46 →
                  (∀ m53 : Mm, m53 = wt m_46 284 12 (wr ((rd m_46 284 12) + 1)) → CV d 183 [.ref 284] m53 (fun m57 =>
                    (((0 : Int) ≤ (rd m57 284 48) ∧ (rd m57 284 48) < 64) ∧ (∀ m70 : Mm, m70 = wt m57 316 (Int.toNat (rd m57 284 48)) 6 → (∀ m78 : Mm, m78 = wt m70 284 48 (wr ((rd m70 284 48) + 1)) → (I_23 m78 ∧ mu_23 m78 < mu_23 m_23)))))))))))))))) ∧
        (R_272 →
        Q m_12)))))
set_option maxRecDepth 20000 in
theorem br_199 {d : Nat} {m : Mm}  {Q : Mm → Prop}  (H : P_199 d m  Q) : CV (d + 1) 199 [.ref 284] m Q := by
  unfold P_199 at H
  refine CV_of rfl ?_
  show mm_W d mc_199 0 [some (.ref 284), none, none] [] (fm m) (XV Q)
  refine w_st (fun _ => rfl) ?_
  refine f_int 0 rfl rfl ?_
  obtain ⟨m2, e_m2⟩ : ∃ q : Mm, q = wt m 284 48 0 := ⟨_, rfl⟩
  replace H := H m2 e_m2
  refine p_284_48 rfl e_m2 ?_
  refine w_st (fun _ => rfl) ?_
  refine g_284_12 rfl ?_
  obtain ⟨z1_9, e_z1_9⟩ : ∃ q : Int, q = (rd m2 284 12) := ⟨_, rfl⟩
  have r_z1_9 : rg z1_9 := by rw [e_z1_9]; exact (rd_rg _ _ _)
  replace H := H z1_9 e_z1_9
  refine f_nm e_z1_9 ?_
  refine w_st (ls2 := [some (.ref 284), some (iv z1_9), none]) (fun _ => rfl) ?_
  refine f_int 1 rfl rfl ?_
  refine w_st (ls2 := [some (.ref 284), some (iv z1_9), some (iv 1)]) (fun _ => rfl) ?_
  obtain ⟨I_12, mu_12, H0_12, HB_12⟩ := H
  have lp_12 : ∀ (z : Nat) (x2_12 : Int) (m_12 : Mm), mu_12 x2_12 m_12 < z → rg x2_12 → I_12 x2_12 m_12 → mm_W d mc_199 12 [some (.ref 284), some (iv z1_9), some (iv x2_12)] [] (fm m_12) (XV Q) := by
    intro z
    induction z with
    | zero => intro x2_12 m_12 hz; exact absurd hz (Nat.not_lt_zero _)
    | succ z ih_12 =>
      intro x2_12 m_12 hz_12 r_x2_12 hI
      have H := HB_12 x2_12 m_12 r_x2_12 hI
      refine w_st (fun _ => rfl) ?_
      obtain ⟨R_272, H, HJ_272⟩ := H
      have tl_272 : R_272 → mm_W d mc_199 272 [some (.ref 284), some (iv z1_9), some (iv x2_12)] [] (fm m_12) (XV Q) := by
        intro   hR
        have H := HJ_272   hR
        exact f_ret rfl H
      refine z_eq rfl r_x2_12 (fun hq => ?_) (fun hq => ?_)
      · replace H := H.1 hq
        exact tl_272   H
      · replace H := H.2 hq
        refine w_st (fun _ => rfl) ?_
        refine g_284_13 rfl ?_
        refine z_ne rfl (rd_rg _ _ _) (fun hq => ?_) (fun hq => ?_)
        · replace H := H.1 hq
          exact tl_272   H
        · replace H := H.2 hq
          obtain ⟨I_23, mu_23, H0_23, HB_23⟩ := H
          have lp_23 : ∀ (z : Nat) (m_23 : Mm), mu_23 m_23 < z → I_23 m_23 → mm_W d mc_199 23 [some (.ref 284), some (iv z1_9), some (iv x2_12)] [] (fm m_23) (XV Q) := by
            intro z
            induction z with
            | zero => intro m_23 hz; exact absurd hz (Nat.not_lt_zero _)
            | succ z ih_23 =>
              intro m_23 hz_23  hI
              have H := HB_23 m_23  hI
              refine w_st (fun _ => rfl) ?_
              refine f_int 6 rfl rfl ?_
              refine k_VK (as := [iv 6]) rfl mg_199 rfl rfl (by decide) rfl rfl H (fun m26 v26 r_v26 H => ?_)
              refine z_eq rfl r_v26 (fun hq => ?_) (fun hq => ?_)
              · replace H := H.1 hq
                refine w_st (fun _ => rfl) ?_
                refine k_VV (as := []) rfl mg_199 rfl rfl (by decide) rfl rfl H (fun m85 H => ?_)
                refine w_st (fun _ => rfl) ?_
                refine g_284_13 rfl ?_
                refine z_le rfl (rd_rg _ _ _) (fun hq => ?_) (fun hq => ?_)
                · replace H := H.1 hq
                  obtain ⟨I_96, mu_96, H0_96, HB_96⟩ := H
                  have lp_96 : ∀ (z : Nat) (m_96 : Mm), mu_96 m_96 < z → I_96 m_96 → mm_W d mc_199 96 [some (.ref 284), some (iv z1_9), some (iv x2_12)] [] (fm m_96) (XV Q) := by
                    intro z
                    induction z with
                    | zero => intro m_96 hz; exact absurd hz (Nat.not_lt_zero _)
                    | succ z ih_96 =>
                      intro m_96 hz_96  hI
                      have H := HB_96 m_96  hI
                      refine w_st (fun _ => rfl) ?_
                      refine f_int 7 rfl rfl ?_
                      refine k_VK (as := [iv 7]) rfl mg_199 rfl rfl (by decide) rfl rfl H (fun m99 v99 r_v99 H => ?_)
                      obtain ⟨R_145, H, HJ_145⟩ := H
                      have tl_145 : R_145 → mm_W d mc_199 145 [some (.ref 284), some (iv z1_9), some (iv x2_12)] [] (fm m99) (XV Q) := by
                        intro   hR
                        have H := HJ_145   hR
                        refine w_st (fun _ => rfl) ?_
                        refine f_int 8 rfl rfl ?_
                        refine k_VK (as := [iv 8]) rfl mg_199 rfl rfl (by decide) rfl rfl H (fun m148 v148 r_v148 H => ?_)
                        obtain ⟨R_186, H, HJ_186⟩ := H
                        have tl_186 : ∀ (s0_186 : Int) (m_186 : Mm), rg s0_186 → R_186 s0_186 m_186 → mm_W d mc_199 186 [some (.ref 284), some (iv z1_9), some (iv x2_12)] [iv s0_186] (fm m_186) (XV Q) := by
                          intro s0_186 m_186 r_s0_186 hR
                          have H := HJ_186 s0_186 m_186 r_s0_186 hR
                          refine w_st (ls2 := [some (.ref 284), some (iv z1_9), some (iv s0_186)]) (fun _ => rfl) ?_
                          refine w_st (fun _ => rfl) ?_
                          refine z_ne rfl r_s0_186 (fun hq => ?_) (fun hq => ?_)
                          · replace H := H.1 hq
                            refine w_st (fun _ => rfl) ?_
                            refine w_st (fun _ => rfl) ?_
                            refine f_int 10 rfl rfl ?_
                            refine k_VK (as := [iv 10]) rfl mg_199 rfl rfl (by decide) rfl rfl H (fun m214 v214 r_v214 H => ?_)
                            obtain ⟨R_234, H, HJ_234⟩ := H
                            have tl_234 : ∀ (s1_234 : Int) (m_234 : Mm), rg s1_234 → R_234 s1_234 m_234 → mm_W d mc_199 234 [some (.ref 284), some (iv z1_9), some (iv s0_186)] [iv s1_234, .ref 284] (fm m_234) (XV Q) := by
                              intro s1_234 m_234 r_s1_234 hR
                              have H := HJ_234 s1_234 m_234 r_s1_234 hR
                              refine k_VV (as := [iv s1_234]) rfl mg_199 rfl rfl (by decide) rfl rfl H (fun m234 H => ?_)
                              refine w_st (fun _ => rfl) ?_
                              refine g_284_47 rfl ?_
                              refine w_st (fun _ => rfl) ?_
                              refine g_284_48 rfl ?_
                              refine w_st (fun _ => rfl) ?_
                              refine g_284_5 rfl ?_
                              refine w_st (fun _ => rfl) ?_
                              refine g_284_11 rfl ?_
                              refine f_ld ir_287 rfl H.1 ?_
                              replace H := H.2
                              obtain ⟨m254, e_m254⟩ : ∃ q : Mm, q = wt m234 316 (Int.toNat (rd m234 284 48)) (rd m234 287 (Int.toNat (rd m234 284 11))) := ⟨_, rfl⟩
                              refine f_st ir_316 rfl H.1 e_m254 ?_
                              replace H := H.2 m254 e_m254
                              refine w_st (fun _ => rfl) ?_
                              refine w_st (fun _ => rfl) ?_
                              refine g_284_48 rfl ?_
                              refine f_int 1 rfl rfl ?_
                              refine f_add rfl ?_
                              obtain ⟨m262, e_m262⟩ : ∃ q : Mm, q = wt m254 284 48 (wr ((rd m254 284 48) + 1)) := ⟨_, rfl⟩
                              replace H := H m262 e_m262
                              refine p_284_48 rfl e_m262 ?_
                              refine w_st (fun _ => rfl) ?_
                              refine k_VV (as := []) rfl mg_199 rfl rfl (by decide) rfl rfl H (fun m266 H => ?_)
                              refine w_st (fun _ => rfl) ?_
                              exact ih_12 s0_186 m266 (Nat.lt_of_lt_of_le H.2 (Nat.le_of_lt_succ hz_12)) r_s0_186 H.1
                            obtain ⟨R_229, H, HJ_229⟩ := H
                            have tl_229 : ∀ (m_229 : Mm), R_229 m_229 → mm_W d mc_199 229 [some (.ref 284), some (iv z1_9), some (iv s0_186)] [.ref 284] (fm m_229) (XV Q) := by
                              intro m_229  hR
                              have H := HJ_229 m_229  hR
                              refine f_int 1 rfl rfl ?_
                              refine w_st (fun _ => rfl) ?_
                              exact tl_234 1 m_229 (by unfold rg; decide) H
                            refine z_ne rfl r_v214 (fun hq => ?_) (fun hq => ?_)
                            · replace H := H.1 hq
                              exact tl_229 m214  H
                            · replace H := H.2 hq
                              refine w_st (fun _ => rfl) ?_
                              refine f_int 15 rfl rfl ?_
                              refine k_VK (as := [iv 15]) rfl mg_199 rfl rfl (by decide) rfl rfl H (fun m223 v223 r_v223 H => ?_)
                              refine z_eq rfl r_v223 (fun hq => ?_) (fun hq => ?_)
                              · replace H := H.1 hq
                                refine f_int 0 rfl rfl ?_
                                exact tl_234 0 m223 (by unfold rg; decide) H
                              · replace H := H.2 hq
                                exact tl_229 m223  H
                          · replace H := H.2 hq
                            refine w_st (fun _ => rfl) ?_
                            refine g_284_12 rfl ?_
                            refine w_st (fun _ => rfl) ?_
                            obtain ⟨R_204, H, HJ_204⟩ := H
                            have tl_204 : ∀ (m_204 : Mm), R_204 m_204 → mm_W d mc_199 204 [some (.ref 284), some (iv z1_9), some (iv s0_186)] [] (fm m_204) (XV Q) := by
                              intro m_204  hR
                              have H := HJ_204 m_204  hR
                              refine w_st (fun _ => rfl) ?_
                              refine f_int 0 rfl rfl ?_
                              refine k_VV (as := [iv 0]) rfl mg_199 rfl rfl (by decide) rfl rfl H (fun m206 H => ?_)
                              exact f_ret rfl H
                            refine b_le rfl (rd_rg _ _ _) r_z1_9 (fun hq => ?_) (fun hq => ?_)
                            · replace H := H.1 hq
                              exact tl_204 m_186  H
                            · replace H := H.2 hq
                              refine w_st (fun _ => rfl) ?_
                              refine f_int 1 rfl rfl ?_
                              refine k_VV (as := [iv 1]) rfl mg_199 rfl rfl (by decide) rfl rfl H (fun m201 H => ?_)
                              exact tl_204 m201  H
                        obtain ⟨R_181, H, HJ_181⟩ := H
                        have tl_181 : ∀ (m_181 : Mm), R_181 m_181 → mm_W d mc_199 181 [some (.ref 284), some (iv z1_9), some (iv x2_12)] [] (fm m_181) (XV Q) := by
                          intro m_181  hR
                          have H := HJ_181 m_181  hR
                          refine f_int 1 rfl rfl ?_
                          refine w_st (fun _ => rfl) ?_
                          exact tl_186 1 m_181 (by unfold rg; decide) H
                        refine z_ne rfl r_v148 (fun hq => ?_) (fun hq => ?_)
                        · replace H := H.1 hq
                          exact tl_181 m148  H
                        · replace H := H.2 hq
                          refine w_st (fun _ => rfl) ?_
                          refine f_int 9 rfl rfl ?_
                          refine k_VK (as := [iv 9]) rfl mg_199 rfl rfl (by decide) rfl rfl H (fun m157 v157 r_v157 H => ?_)
                          refine z_ne rfl r_v157 (fun hq => ?_) (fun hq => ?_)
                          · replace H := H.1 hq
                            exact tl_181 m157  H
                          · replace H := H.2 hq
                            refine w_st (fun _ => rfl) ?_
                            refine f_int 10 rfl rfl ?_
                            refine k_VK (as := [iv 10]) rfl mg_199 rfl rfl (by decide) rfl rfl H (fun m166 v166 r_v166 H => ?_)
                            refine z_ne rfl r_v166 (fun hq => ?_) (fun hq => ?_)
                            · replace H := H.1 hq
                              exact tl_181 m166  H
                            · replace H := H.2 hq
                              refine w_st (fun _ => rfl) ?_
                              refine f_int 15 rfl rfl ?_
                              refine k_VK (as := [iv 15]) rfl mg_199 rfl rfl (by decide) rfl rfl H (fun m175 v175 r_v175 H => ?_)
                              refine z_eq rfl r_v175 (fun hq => ?_) (fun hq => ?_)
                              · replace H := H.1 hq
                                refine f_int 0 rfl rfl ?_
                                exact tl_186 0 m175 (by unfold rg; decide) H
                              · replace H := H.2 hq
                                exact tl_181 m175  H
                      refine z_eq rfl r_v99 (fun hq => ?_) (fun hq => ?_)
                      · replace H := H.1 hq
                        exact tl_145   H
                      · replace H := H.2 hq
                        refine w_st (fun _ => rfl) ?_
                        refine g_284_12 rfl ?_
                        refine w_st (fun _ => rfl) ?_
                        refine b_le rfl (rd_rg _ _ _) r_z1_9 (fun hq => ?_) (fun hq => ?_)
                        · replace H := H.1 hq
                          exact tl_145   H
                        · replace H := H.2 hq
                          refine w_st (fun _ => rfl) ?_
                          refine f_int 0 rfl rfl ?_
                          refine k_VV (as := [iv 0]) rfl mg_199 rfl rfl (by decide) rfl rfl H (fun m115 H => ?_)
                          refine w_st (fun _ => rfl) ?_
                          refine w_st (fun _ => rfl) ?_
                          refine g_284_48 rfl ?_
                          refine f_int 1 rfl rfl ?_
                          refine f_sub rfl ?_
                          obtain ⟨m125, e_m125⟩ : ∃ q : Mm, q = wt m115 284 48 (wr ((rd m115 284 48) - 1)) := ⟨_, rfl⟩
                          replace H := H m125 e_m125
                          refine p_284_48 rfl e_m125 ?_
                          refine w_st (fun _ => rfl) ?_
                          refine w_st (fun _ => rfl) ?_
                          refine g_284_12 rfl ?_
                          refine f_int 1 rfl rfl ?_
                          refine f_sub rfl ?_
                          obtain ⟨m135, e_m135⟩ : ∃ q : Mm, q = wt m125 284 12 (wr ((rd m125 284 12) - 1)) := ⟨_, rfl⟩
                          replace H := H m135 e_m135
                          refine p_284_12 rfl e_m135 ?_
                          refine w_st (fun _ => rfl) ?_
                          refine k_VV (as := []) rfl mg_199 rfl rfl (by decide) rfl rfl H (fun m139 H => ?_)
                          refine w_st (fun _ => rfl) ?_
                          exact ih_96 m139 (Nat.lt_of_lt_of_le H.2 (Nat.le_of_lt_succ hz_96))  H.1
                  exact lp_96 _ m85 (Nat.lt_succ_self _)  H0_96
                · replace H := H.2 hq
                  exact f_ret rfl H
              · replace H := H.2 hq
                refine w_st (fun _ => rfl) ?_
                refine g_284_12 rfl ?_
                refine f_int 6 rfl rfl ?_
                obtain ⟨R_46, H, HJ_46⟩ := H
                have tl_46 : ∀ (m_46 : Mm), R_46 m_46 → mm_W d mc_199 46 [some (.ref 284), some (iv z1_9), some (iv x2_12)] [] (fm m_46) (XV Q) := by
                  intro m_46  hR
                  have H := HJ_46 m_46  hR
                  refine w_st (fun _ => rfl) ?_
                  refine w_st (fun _ => rfl) ?_
                  refine g_284_12 rfl ?_
                  refine f_int 1 rfl rfl ?_
                  refine f_add rfl ?_
                  obtain ⟨m53, e_m53⟩ : ∃ q : Mm, q = wt m_46 284 12 (wr ((rd m_46 284 12) + 1)) := ⟨_, rfl⟩
                  replace H := H m53 e_m53
                  refine p_284_12 rfl e_m53 ?_
                  refine w_st (fun _ => rfl) ?_
                  refine k_VV (as := []) rfl mg_199 rfl rfl (by decide) rfl rfl H (fun m57 H => ?_)
                  refine w_st (fun _ => rfl) ?_
                  refine g_284_47 rfl ?_
                  refine w_st (fun _ => rfl) ?_
                  refine g_284_48 rfl ?_
                  refine f_int 6 rfl rfl ?_
                  obtain ⟨m70, e_m70⟩ : ∃ q : Mm, q = wt m57 316 (Int.toNat (rd m57 284 48)) 6 := ⟨_, rfl⟩
                  refine f_st ir_316 rfl H.1 e_m70 ?_
                  replace H := H.2 m70 e_m70
                  refine w_st (fun _ => rfl) ?_
                  refine w_st (fun _ => rfl) ?_
                  refine g_284_48 rfl ?_
                  refine f_int 1 rfl rfl ?_
                  refine f_add rfl ?_
                  obtain ⟨m78, e_m78⟩ : ∃ q : Mm, q = wt m70 284 48 (wr ((rd m70 284 48) + 1)) := ⟨_, rfl⟩
                  replace H := H m78 e_m78
                  refine p_284_48 rfl e_m78 ?_
                  refine w_st (fun _ => rfl) ?_
                  exact ih_23 m78 (Nat.lt_of_lt_of_le H.2 (Nat.le_of_lt_succ hz_23))  H.1
                refine b_ne rfl (rd_rg _ _ _) (by unfold rg; decide) (fun hq => ?_) (fun hq => ?_)
                · replace H := H.1 hq
                  exact tl_46 m26  H
                · replace H := H.2 hq
                  refine w_st (fun _ => rfl) ?_
                  refine f_int 2 rfl rfl ?_
                  refine k_VV (as := [iv 2]) rfl mg_199 rfl rfl (by decide) rfl rfl H (fun m43 H => ?_)
                  exact tl_46 m43  H
          exact lp_23 _ m_12 (Nat.lt_succ_self _)  H0_23
  exact lp_12 _ 1 m2 (Nat.lt_succ_self _) (by unfold rg; decide) H0_12
/-- TippedCratesModel.unit()V -/
def P_200 (d : Nat) (m : Mm)  (Q : Mm → Prop) : Prop :=
  CK d 180 [.ref 284, iv 2] m (fun m2 v2 =>
    (∃ R_93 : Mm → Prop,
    ((v2 = 0 → (∃ R_88 : Prop,
      ((¬ (rd m2 284 13) = 0 → R_88) ∧
      ((rd m2 284 13) = 0 → (((0 : Int) ≤ (rd m2 284 11) ∧ (rd m2 284 11) < 403) ∧ (((rd m2 287 (Int.toNat (rd m2 284 11))) < 32 → R_88) ∧
        (¬ (rd m2 287 (Int.toNat (rd m2 284 11))) < 32 → (((0 : Int) ≤ (rd m2 284 11) ∧ (rd m2 284 11) < 403) ∧ ((40 < (rd m2 287 (Int.toNat (rd m2 284 11))) → R_88) ∧
          (¬ 40 < (rd m2 287 (Int.toNat (rd m2 284 11))) → (((0 : Int) ≤ (rd m2 284 11) ∧ (rd m2 284 11) < 403) ∧ CV d 197 [.ref 284, iv 1, iv (wr ((rd m2 287 (Int.toNat (rd m2 284 11))) - 32))] m2 (fun m78 =>
            CV d 183 [.ref 284] m78 (fun m82 =>
            R_93 m82))))))))))) ∧
      (R_88 →
      CV d 181 [.ref 284, iv 1] m2 (fun m90 =>
        R_93 m90)))) ∧
    (¬ v2 = 0 → (((0 : Int) ≤ (rd m2 284 11) ∧ (rd m2 284 11) < 403) ∧ CV d 197 [.ref 284, iv 0, iv (rd m2 289 (Int.toNat (rd m2 284 11)))] m2 (fun m19 =>
      CV d 183 [.ref 284] m19 (fun m23 =>
      R_93 m23))))) ∧
    (∀ (m_93 : Mm), R_93 m_93 →
    Q m_93)))
set_option maxRecDepth 20000 in
theorem br_200 {d : Nat} {m : Mm}  {Q : Mm → Prop}  (H : P_200 d m  Q) : CV (d + 1) 200 [.ref 284] m Q := by
  unfold P_200 at H
  refine CV_of rfl ?_
  show mm_W d mc_200 0 [some (.ref 284)] [] (fm m) (XV Q)
  refine w_st (fun _ => rfl) ?_
  refine f_int 2 rfl rfl ?_
  refine k_VK (as := [iv 2]) rfl mg_200 rfl rfl (by decide) rfl rfl H (fun m2 v2 r_v2 H => ?_)
  obtain ⟨R_93, H, HJ_93⟩ := H
  have tl_93 : ∀ (m_93 : Mm), R_93 m_93 → mm_W d mc_200 93 [some (.ref 284)] [] (fm m_93) (XV Q) := by
    intro m_93  hR
    have H := HJ_93 m_93  hR
    exact f_ret rfl H
  refine z_eq rfl r_v2 (fun hq => ?_) (fun hq => ?_)
  · replace H := H.1 hq
    refine w_st (fun _ => rfl) ?_
    refine g_284_13 rfl ?_
    obtain ⟨R_88, H, HJ_88⟩ := H
    have tl_88 : R_88 → mm_W d mc_200 88 [some (.ref 284)] [] (fm m2) (XV Q) := by
      intro   hR
      have H := HJ_88   hR
      refine w_st (fun _ => rfl) ?_
      refine f_int 1 rfl rfl ?_
      refine k_VV (as := [iv 1]) rfl mg_200 rfl rfl (by decide) rfl rfl H (fun m90 H => ?_)
      exact tl_93 m90  H
    refine z_ne rfl (rd_rg _ _ _) (fun hq => ?_) (fun hq => ?_)
    · replace H := H.1 hq
      exact tl_88   H
    · replace H := H.2 hq
      refine w_st (fun _ => rfl) ?_
      refine g_284_5 rfl ?_
      refine w_st (fun _ => rfl) ?_
      refine g_284_11 rfl ?_
      refine f_ld ir_287 rfl H.1 ?_
      replace H := H.2
      refine f_int 32 rfl rfl ?_
      refine b_lt rfl (rd_rg _ _ _) (by unfold rg; decide) (fun hq => ?_) (fun hq => ?_)
      · replace H := H.1 hq
        exact tl_88   H
      · replace H := H.2 hq
        refine w_st (fun _ => rfl) ?_
        refine g_284_5 rfl ?_
        refine w_st (fun _ => rfl) ?_
        refine g_284_11 rfl ?_
        refine f_ld ir_287 rfl H.1 ?_
        replace H := H.2
        refine f_int 40 rfl rfl ?_
        refine b_gt rfl (rd_rg _ _ _) (by unfold rg; decide) (fun hq => ?_) (fun hq => ?_)
        · replace H := H.1 hq
          exact tl_88   H
        · replace H := H.2 hq
          refine w_st (fun _ => rfl) ?_
          refine f_int 1 rfl rfl ?_
          refine w_st (fun _ => rfl) ?_
          refine g_284_5 rfl ?_
          refine w_st (fun _ => rfl) ?_
          refine g_284_11 rfl ?_
          refine f_ld ir_287 rfl H.1 ?_
          replace H := H.2
          refine f_int 32 rfl rfl ?_
          refine f_sub rfl ?_
          refine k_VV (as := [iv 1, iv (wr ((rd m2 287 (Int.toNat (rd m2 284 11))) - 32))]) rfl mg_200 rfl rfl (by decide) rfl rfl H (fun m78 H => ?_)
          refine w_st (fun _ => rfl) ?_
          refine k_VV (as := []) rfl mg_200 rfl rfl (by decide) rfl rfl H (fun m82 H => ?_)
          refine w_st (fun _ => rfl) ?_
          exact tl_93 m82  H
  · replace H := H.2 hq
    refine w_st (fun _ => rfl) ?_
    refine f_int 0 rfl rfl ?_
    refine w_st (fun _ => rfl) ?_
    refine g_284_7 rfl ?_
    refine w_st (fun _ => rfl) ?_
    refine g_284_11 rfl ?_
    refine f_ld ir_289 rfl H.1 ?_
    replace H := H.2
    refine k_VV (as := [iv 0, iv (rd m2 289 (Int.toNat (rd m2 284 11)))]) rfl mg_200 rfl rfl (by decide) rfl rfl H (fun m19 H => ?_)
    refine w_st (fun _ => rfl) ?_
    refine k_VV (as := []) rfl mg_200 rfl rfl (by decide) rfl rfl H (fun m23 H => ?_)
    refine w_st (fun _ => rfl) ?_
    exact tl_93 m23  H
/-- TippedCratesModel.termOf(II)I -/
def P_201 (d : Nat) (m : Mm) (x1 : Int) (x2 : Int) (Q : Mm → Int → Prop) : Prop :=
  (∃ (I_5 : Int → Int → Mm → Prop) (mu_5 : Int → Int → Mm → Nat), I_5 0 x1 m ∧
    ∀ (x3_5 x4_5 : Int) (m_5 : Mm), rg x3_5 → rg x4_5 → I_5 x3_5 x4_5 m_5 →
    ((x2 ≤ x4_5 → Q m_5 (rd m_5 318 0)) ∧
        (¬ x2 ≤ x4_5 → (((0 : Int) ≤ x4_5 ∧ x4_5 < 840) ∧ (∀ z5_18 : Int, z5_18 = (rd m_5 314 (Int.toNat x4_5)) → (∃ R_159 : Int → Mm → Prop,
          ((2 ≤ z5_18 → (∀ z3_65 : Int, z3_65 = wr (x3_5 + (-1)) → (((0 : Int) ≤ (wr (z3_65 - 1)) ∧ (wr (z3_65 - 1)) < 400) ∧ (∀ z6_76 : Int, z6_76 = (rd m_5 318 (Int.toNat (wr (z3_65 - 1)))) → (((0 : Int) ≤ z3_65 ∧ z3_65 < 400) ∧ (∀ z7_84 : Int, z7_84 = (rd m_5 318 (Int.toNat z3_65)) → (∃ R_104 : Prop,
            ((¬ z5_18 = 5 → R_104) ∧
            (z5_18 = 5 → ((¬ z7_84 = 0 → R_104) ∧
              (z7_84 = 0 → (∀ m99 : Mm, m99 = wt m_5 284 51 1 → Q m99 0))))) ∧
            (R_104 →
            (∃ R_158 : Int → Prop,
              ((¬ z5_18 = 2 → ((¬ z5_18 = 3 → ((¬ z5_18 = 4 → (¬ z7_84 = 0 ∧ R_158 (dvI z6_76 z7_84))) ∧
                  (z5_18 = 4 → R_158 (wr (z6_76 * z7_84))))) ∧
                (z5_18 = 3 → R_158 (wr (z6_76 - z7_84))))) ∧
              (z5_18 = 2 → R_158 (wr (z6_76 + z7_84)))) ∧
              (∀ (s2_158 : Int) , rg s2_158 → R_158 s2_158 →
              (((0 : Int) ≤ (wr (z3_65 - 1)) ∧ (wr (z3_65 - 1)) < 400) ∧ (∀ m158 : Mm, m158 = wt m_5 318 (Int.toNat (wr (z3_65 - 1))) s2_158 → R_159 z3_65 m158)))))))))))) ∧
          (¬ 2 ≤ z5_18 → (∃ R_58 : Int → Prop,
            ((¬ z5_18 = 0 → (((0 : Int) ≤ x4_5 ∧ x4_5 < 840) ∧ (((0 : Int) ≤ (rd m_5 315 (Int.toNat x4_5)) ∧ (rd m_5 315 (Int.toNat x4_5)) < 9) ∧ R_58 (rd m_5 317 (Int.toNat (rd m_5 315 (Int.toNat x4_5))))))) ∧
            (z5_18 = 0 → (((0 : Int) ≤ x4_5 ∧ x4_5 < 840) ∧ R_58 (rd m_5 315 (Int.toNat x4_5))))) ∧
            (∀ (s2_58 : Int) , rg s2_58 → R_58 s2_58 →
            (((0 : Int) ≤ x3_5 ∧ x3_5 < 400) ∧ (∀ m58 : Mm, m58 = wt m_5 318 (Int.toNat x3_5) s2_58 → (∀ z3_59 : Int, z3_59 = wr (x3_5 + 1) → R_159 z3_59 m58))))))) ∧
          (∀ (y3_159 : Int) (m_159 : Mm), rg y3_159 → R_159 y3_159 m_159 →
          (∀ z4_159 : Int, z4_159 = wr (x4_5 + 1) → (I_5 y3_159 z4_159 m_159 ∧ mu_5 y3_159 z4_159 m_159 < mu_5 x3_5 x4_5 m_5)))))))))
set_option maxRecDepth 20000 in
theorem br_201 {d : Nat} {m : Mm} {x1 : Int} {x2 : Int} {Q : Mm → Int → Prop} (r_x1 : rg x1) (r_x2 : rg x2) (H : P_201 d m x1 x2 Q) : CK (d + 1) 201 [.ref 284, iv x1, iv x2] m Q := by
  unfold P_201 at H
  refine CK_of rfl ?_
  show mm_W d mc_201 0 [some (.ref 284), some (iv x1), some (iv x2), none, none, none, none, none] [] (fm m) (XK Q)
  refine f_int 0 rfl rfl ?_
  refine w_st (ls2 := [some (.ref 284), some (iv x1), some (iv x2), some (iv 0), none, none, none, none]) (fun _ => rfl) ?_
  refine w_st (fun _ => rfl) ?_
  refine w_st (ls2 := [some (.ref 284), some (iv x1), some (iv x2), some (iv 0), some (iv x1), none, none, none]) (fun _ => rfl) ?_
  obtain ⟨I_5, mu_5, H0_5, HB_5⟩ := H
  have lp_5 : ∀ (z : Nat) (x3_5 x4_5 : Int) (m_5 : Mm) (g5_5 g6_5 g7_5 : Option Value), mu_5 x3_5 x4_5 m_5 < z → rg x3_5 → rg x4_5 → I_5 x3_5 x4_5 m_5 → mm_W d mc_201 5 [some (.ref 284), some (iv x1), some (iv x2), some (iv x3_5), some (iv x4_5), g5_5, g6_5, g7_5] [] (fm m_5) (XK Q) := by
    intro z
    induction z with
    | zero => intro x3_5 x4_5 m_5 g5_5 g6_5 g7_5 hz; exact absurd hz (Nat.not_lt_zero _)
    | succ z ih_5 =>
      intro x3_5 x4_5 m_5 g5_5 g6_5 g7_5 hz_5 r_x3_5 r_x4_5 hI
      have H := HB_5 x3_5 x4_5 m_5 r_x3_5 r_x4_5 hI
      refine w_st (fun _ => rfl) ?_
      refine w_st (fun _ => rfl) ?_
      refine b_ge rfl r_x4_5 r_x2 (fun hq => ?_) (fun hq => ?_)
      · replace H := H.1 hq
        refine w_st (fun _ => rfl) ?_
        refine g_284_50 rfl ?_
        refine f_int 0 rfl rfl ?_
        refine f_ld ir_318 rfl ⟨by decide, by decide⟩ ?_
        exact f_iret rfl (rd_rg _ _ _) H
      · replace H := H.2 hq
        refine w_st (fun _ => rfl) ?_
        refine g_284_45 rfl ?_
        refine w_st (fun _ => rfl) ?_
        refine f_ld ir_314 rfl H.1 ?_
        replace H := H.2
        obtain ⟨z5_18, e_z5_18⟩ : ∃ q : Int, q = (rd m_5 314 (Int.toNat x4_5)) := ⟨_, rfl⟩
        have r_z5_18 : rg z5_18 := by rw [e_z5_18]; exact (rd_rg _ _ _)
        replace H := H z5_18 e_z5_18
        refine f_nm e_z5_18 ?_
        refine w_st (ls2 := [some (.ref 284), some (iv x1), some (iv x2), some (iv x3_5), some (iv x4_5), some (iv z5_18), g6_5, g7_5]) (fun _ => rfl) ?_
        refine w_st (fun _ => rfl) ?_
        refine f_int 2 rfl rfl ?_
        obtain ⟨R_159, H, HJ_159⟩ := H
        have tl_159 : ∀ (y3_159 : Int) (m_159 : Mm) (g6_159 g7_159 : Option Value), rg y3_159 → R_159 y3_159 m_159 → mm_W d mc_201 159 [some (.ref 284), some (iv x1), some (iv x2), some (iv y3_159), some (iv x4_5), some (iv z5_18), g6_159, g7_159] [] (fm m_159) (XK Q) := by
          intro y3_159 m_159 g6_159 g7_159 r_y3_159 hR
          have H := HJ_159 y3_159 m_159 r_y3_159 hR
          obtain ⟨z4_159, e_z4_159⟩ : ∃ q : Int, q = wr (x4_5 + 1) := ⟨_, rfl⟩
          have r_z4_159 : rg z4_159 := by rw [e_z4_159]; exact wr_rg _
          replace H := H z4_159 e_z4_159
          refine f_iinc (ls2 := [some (.ref 284), some (iv x1), some (iv x2), some (iv y3_159), some (iv z4_159), some (iv z5_18), g6_159, g7_159]) 1 rfl rfl rfl e_z4_159 rfl ?_
          refine w_st (fun _ => rfl) ?_
          exact ih_5 y3_159 z4_159 m_159 (some (iv z5_18)) g6_159 g7_159 (Nat.lt_of_lt_of_le H.2 (Nat.le_of_lt_succ hz_5)) r_y3_159 r_z4_159 H.1
        refine b_ge rfl r_z5_18 (by unfold rg; decide) (fun hq => ?_) (fun hq => ?_)
        · replace H := H.1 hq
          obtain ⟨z3_65, e_z3_65⟩ : ∃ q : Int, q = wr (x3_5 + (-1)) := ⟨_, rfl⟩
          have r_z3_65 : rg z3_65 := by rw [e_z3_65]; exact wr_rg _
          replace H := H z3_65 e_z3_65
          refine f_iinc (ls2 := [some (.ref 284), some (iv x1), some (iv x2), some (iv z3_65), some (iv x4_5), some (iv z5_18), g6_5, g7_5]) (-1) rfl rfl rfl e_z3_65 rfl ?_
          refine w_st (fun _ => rfl) ?_
          refine g_284_50 rfl ?_
          refine w_st (fun _ => rfl) ?_
          refine f_int 1 rfl rfl ?_
          refine f_sub rfl ?_
          refine f_ld ir_318 rfl H.1 ?_
          replace H := H.2
          obtain ⟨z6_76, e_z6_76⟩ : ∃ q : Int, q = (rd m_5 318 (Int.toNat (wr (z3_65 - 1)))) := ⟨_, rfl⟩
          have r_z6_76 : rg z6_76 := by rw [e_z6_76]; exact (rd_rg _ _ _)
          replace H := H z6_76 e_z6_76
          refine f_nm e_z6_76 ?_
          refine w_st (ls2 := [some (.ref 284), some (iv x1), some (iv x2), some (iv z3_65), some (iv x4_5), some (iv z5_18), some (iv z6_76), g7_5]) (fun _ => rfl) ?_
          refine w_st (fun _ => rfl) ?_
          refine g_284_50 rfl ?_
          refine w_st (fun _ => rfl) ?_
          refine f_ld ir_318 rfl H.1 ?_
          replace H := H.2
          obtain ⟨z7_84, e_z7_84⟩ : ∃ q : Int, q = (rd m_5 318 (Int.toNat z3_65)) := ⟨_, rfl⟩
          have r_z7_84 : rg z7_84 := by rw [e_z7_84]; exact (rd_rg _ _ _)
          replace H := H z7_84 e_z7_84
          refine f_nm e_z7_84 ?_
          refine w_st (ls2 := [some (.ref 284), some (iv x1), some (iv x2), some (iv z3_65), some (iv x4_5), some (iv z5_18), some (iv z6_76), some (iv z7_84)]) (fun _ => rfl) ?_
          refine w_st (fun _ => rfl) ?_
          refine f_int 5 rfl rfl ?_
          obtain ⟨R_104, H, HJ_104⟩ := H
          have tl_104 : R_104 → mm_W d mc_201 104 [some (.ref 284), some (iv x1), some (iv x2), some (iv z3_65), some (iv x4_5), some (iv z5_18), some (iv z6_76), some (iv z7_84)] [] (fm m_5) (XK Q) := by
            intro   hR
            have H := HJ_104   hR
            refine w_st (fun _ => rfl) ?_
            refine g_284_50 rfl ?_
            refine w_st (fun _ => rfl) ?_
            refine f_int 1 rfl rfl ?_
            refine f_sub rfl ?_
            refine w_st (fun _ => rfl) ?_
            refine f_int 2 rfl rfl ?_
            obtain ⟨R_158, H, HJ_158⟩ := H
            have tl_158 : ∀ (s2_158 : Int) , rg s2_158 → R_158 s2_158 → mm_W d mc_201 158 [some (.ref 284), some (iv x1), some (iv x2), some (iv z3_65), some (iv x4_5), some (iv z5_18), some (iv z6_76), some (iv z7_84)] [iv s2_158, iv (wr (z3_65 - 1)), .ref 318] (fm m_5) (XK Q) := by
              intro s2_158 r_s2_158 hR
              have H := HJ_158 s2_158 r_s2_158 hR
              obtain ⟨m158, e_m158⟩ : ∃ q : Mm, q = wt m_5 318 (Int.toNat (wr (z3_65 - 1))) s2_158 := ⟨_, rfl⟩
              refine f_st ir_318 rfl H.1 e_m158 ?_
              replace H := H.2 m158 e_m158
              exact tl_159 z3_65 m158 (some (iv z6_76)) (some (iv z7_84)) r_z3_65 H
            refine b_ne rfl r_z5_18 (by unfold rg; decide) (fun hq => ?_) (fun hq => ?_)
            · replace H := H.1 hq
              refine w_st (fun _ => rfl) ?_
              refine f_int 3 rfl rfl ?_
              refine b_ne rfl r_z5_18 (by unfold rg; decide) (fun hq => ?_) (fun hq => ?_)
              · replace H := H.1 hq
                refine w_st (fun _ => rfl) ?_
                refine f_int 4 rfl rfl ?_
                refine b_ne rfl r_z5_18 (by unfold rg; decide) (fun hq => ?_) (fun hq => ?_)
                · replace H := H.1 hq
                  refine w_st (fun _ => rfl) ?_
                  refine w_st (fun _ => rfl) ?_
                  refine f_dvI rfl r_z7_84 H.1 ?_
                  replace H := H.2
                  exact tl_158 (dvI z6_76 z7_84) (io_rg _ _ _) H
                · replace H := H.2 hq
                  refine w_st (fun _ => rfl) ?_
                  refine w_st (fun _ => rfl) ?_
                  refine f_mul rfl ?_
                  refine w_st (fun _ => rfl) ?_
                  exact tl_158 (wr (z6_76 * z7_84)) (wr_rg _) H
              · replace H := H.2 hq
                refine w_st (fun _ => rfl) ?_
                refine w_st (fun _ => rfl) ?_
                refine f_sub rfl ?_
                refine w_st (fun _ => rfl) ?_
                exact tl_158 (wr (z6_76 - z7_84)) (wr_rg _) H
            · replace H := H.2 hq
              refine w_st (fun _ => rfl) ?_
              refine w_st (fun _ => rfl) ?_
              refine f_add rfl ?_
              refine w_st (fun _ => rfl) ?_
              exact tl_158 (wr (z6_76 + z7_84)) (wr_rg _) H
          refine b_ne rfl r_z5_18 (by unfold rg; decide) (fun hq => ?_) (fun hq => ?_)
          · replace H := H.1 hq
            exact tl_104   H
          · replace H := H.2 hq
            refine w_st (fun _ => rfl) ?_
            refine z_ne rfl r_z7_84 (fun hq => ?_) (fun hq => ?_)
            · replace H := H.1 hq
              exact tl_104   H
            · replace H := H.2 hq
              refine w_st (fun _ => rfl) ?_
              refine f_int 1 rfl rfl ?_
              obtain ⟨m99, e_m99⟩ : ∃ q : Mm, q = wt m_5 284 51 1 := ⟨_, rfl⟩
              replace H := H m99 e_m99
              refine p_284_51 rfl (Or.inr rfl) e_m99 ?_
              refine f_int 0 rfl rfl ?_
              exact f_iret rfl (by unfold rg; decide) H
        · replace H := H.2 hq
          refine w_st (fun _ => rfl) ?_
          refine g_284_50 rfl ?_
          refine w_st (fun _ => rfl) ?_
          refine w_st (fun _ => rfl) ?_
          obtain ⟨R_58, H, HJ_58⟩ := H
          have tl_58 : ∀ (s2_58 : Int) , rg s2_58 → R_58 s2_58 → mm_W d mc_201 58 [some (.ref 284), some (iv x1), some (iv x2), some (iv x3_5), some (iv x4_5), some (iv z5_18), g6_5, g7_5] [iv s2_58, iv x3_5, .ref 318] (fm m_5) (XK Q) := by
            intro s2_58 r_s2_58 hR
            have H := HJ_58 s2_58 r_s2_58 hR
            obtain ⟨m58, e_m58⟩ : ∃ q : Mm, q = wt m_5 318 (Int.toNat x3_5) s2_58 := ⟨_, rfl⟩
            refine f_st ir_318 rfl H.1 e_m58 ?_
            replace H := H.2 m58 e_m58
            obtain ⟨z3_59, e_z3_59⟩ : ∃ q : Int, q = wr (x3_5 + 1) := ⟨_, rfl⟩
            have r_z3_59 : rg z3_59 := by rw [e_z3_59]; exact wr_rg _
            replace H := H z3_59 e_z3_59
            refine f_iinc (ls2 := [some (.ref 284), some (iv x1), some (iv x2), some (iv z3_59), some (iv x4_5), some (iv z5_18), g6_5, g7_5]) 1 rfl rfl rfl e_z3_59 rfl ?_
            refine w_st (fun _ => rfl) ?_
            exact tl_159 z3_59 m58 g6_5 g7_5 r_z3_59 H
          refine z_ne rfl r_z5_18 (fun hq => ?_) (fun hq => ?_)
          · replace H := H.1 hq
            refine w_st (fun _ => rfl) ?_
            refine g_284_49 rfl ?_
            refine w_st (fun _ => rfl) ?_
            refine g_284_46 rfl ?_
            refine w_st (fun _ => rfl) ?_
            refine f_ld ir_315 rfl H.1 ?_
            replace H := H.2
            refine f_ld ir_317 rfl H.1 ?_
            replace H := H.2
            exact tl_58 (rd m_5 317 (Int.toNat (rd m_5 315 (Int.toNat x4_5)))) (rd_rg _ _ _) H
          · replace H := H.2 hq
            refine w_st (fun _ => rfl) ?_
            refine g_284_46 rfl ?_
            refine w_st (fun _ => rfl) ?_
            refine f_ld ir_315 rfl H.1 ?_
            replace H := H.2
            refine w_st (fun _ => rfl) ?_
            exact tl_58 (rd m_5 315 (Int.toNat x4_5)) (rd_rg _ _ _) H
  exact lp_5 _ 0 x1 m none none none (Nat.lt_succ_self _) (by unfold rg; decide) r_x1 H0_5
/-- TippedCratesModel.fromBy(II)I -/
def P_202 (d : Nat) (m : Mm) (x0 : Int) (x1 : Int) (Q : Mm → Int → Prop) : Prop :=
  ((x0 = 0 → (∃ R_64 : Int → Prop,
      ((¬ x1 = 1 → ((¬ x1 = 4 → ((¬ x1 = 0 → ((¬ x1 = 5 → R_64 x1) ∧
            (x1 = 5 → R_64 0))) ∧
          (x1 = 0 → R_64 4))) ∧
        (x1 = 4 → R_64 1))) ∧
      (x1 = 1 → R_64 5)) ∧
      (∀ (s0_64 : Int) , rg s0_64 → R_64 s0_64 →
      Q m s0_64))) ∧
    (x0 = 1 → (∃ R_101 : Int → Prop,
        ((¬ x1 = 1 → ((¬ x1 = 2 → ((¬ x1 = 0 → ((¬ x1 = 3 → R_101 x1) ∧
              (x1 = 3 → R_101 0))) ∧
            (x1 = 0 → R_101 2))) ∧
          (x1 = 2 → R_101 1))) ∧
        (x1 = 1 → R_101 3)) ∧
        (∀ (s0_101 : Int) , rg s0_101 → R_101 s0_101 →
        Q m s0_101))) ∧
    (x0 = 2 → (∃ R_138 : Int → Prop,
          ((¬ x1 = 1 → ((¬ x1 = 5 → ((¬ x1 = 0 → ((¬ x1 = 4 → R_138 x1) ∧
                (x1 = 4 → R_138 0))) ∧
              (x1 = 0 → R_138 5))) ∧
            (x1 = 5 → R_138 1))) ∧
          (x1 = 1 → R_138 4)) ∧
          (∀ (s0_138 : Int) , rg s0_138 → R_138 s0_138 →
          Q m s0_138))) ∧
    (x0 < 0 ∨ 2 < x0 → (∃ R_175 : Int → Prop,
          ((¬ x1 = 1 → ((¬ x1 = 3 → ((¬ x1 = 0 → ((¬ x1 = 2 → R_175 x1) ∧
                (x1 = 2 → R_175 0))) ∧
              (x1 = 0 → R_175 3))) ∧
            (x1 = 3 → R_175 1))) ∧
          (x1 = 1 → R_175 2)) ∧
          (∀ (s0_175 : Int) , rg s0_175 → R_175 s0_175 →
          Q m s0_175))))
set_option maxRecDepth 20000 in
theorem br_202 {d : Nat} {m : Mm} {x0 : Int} {x1 : Int} {Q : Mm → Int → Prop} (r_x0 : rg x0) (r_x1 : rg x1) (H : P_202 d m x0 x1 Q) : CK (d + 1) 202 [iv x0, iv x1] m Q := by
  unfold P_202 at H
  refine CK_of rfl ?_
  show mm_W d mc_202 0 [some (iv x0), some (iv x1)] [] (fm m) (XK Q)
  refine w_st (fun _ => rfl) ?_
  by_cases e0_1 : x0 = 0
  · refine f_tsw 0 rfl r_x0 e0_1 rfl rfl ?_
    replace H := H.1 e0_1
    refine w_st (fun _ => rfl) ?_
    refine f_int 1 rfl rfl ?_
    obtain ⟨R_64, H, HJ_64⟩ := H
    have tl_64 : ∀ (s0_64 : Int) , rg s0_64 → R_64 s0_64 → mm_W d mc_202 64 [some (iv x0), some (iv x1)] [iv s0_64] (fm m) (XK Q) := by
      intro s0_64 r_s0_64 hR
      have H := HJ_64 s0_64 r_s0_64 hR
      exact f_iret rfl r_s0_64 H
    refine b_ne rfl r_x1 (by unfold rg; decide) (fun hq => ?_) (fun hq => ?_)
    · replace H := H.1 hq
      refine w_st (fun _ => rfl) ?_
      refine f_int 4 rfl rfl ?_
      refine b_ne rfl r_x1 (by unfold rg; decide) (fun hq => ?_) (fun hq => ?_)
      · replace H := H.1 hq
        refine w_st (fun _ => rfl) ?_
        refine z_ne rfl r_x1 (fun hq => ?_) (fun hq => ?_)
        · replace H := H.1 hq
          refine w_st (fun _ => rfl) ?_
          refine f_int 5 rfl rfl ?_
          refine b_ne rfl r_x1 (by unfold rg; decide) (fun hq => ?_) (fun hq => ?_)
          · replace H := H.1 hq
            refine w_st (fun _ => rfl) ?_
            exact tl_64 x1 r_x1 H
          · replace H := H.2 hq
            refine f_int 0 rfl rfl ?_
            refine w_st (fun _ => rfl) ?_
            exact tl_64 0 (by unfold rg; decide) H
        · replace H := H.2 hq
          refine f_int 4 rfl rfl ?_
          refine w_st (fun _ => rfl) ?_
          exact tl_64 4 (by unfold rg; decide) H
      · replace H := H.2 hq
        refine f_int 1 rfl rfl ?_
        refine w_st (fun _ => rfl) ?_
        exact tl_64 1 (by unfold rg; decide) H
    · replace H := H.2 hq
      refine f_int 5 rfl rfl ?_
      refine w_st (fun _ => rfl) ?_
      exact tl_64 5 (by unfold rg; decide) H
  · replace H := H.2
    by_cases e1_1 : x0 = 1
    · refine f_tsw 1 rfl r_x0 e1_1 rfl rfl ?_
      replace H := H.1 e1_1
      refine w_st (fun _ => rfl) ?_
      refine f_int 1 rfl rfl ?_
      obtain ⟨R_101, H, HJ_101⟩ := H
      have tl_101 : ∀ (s0_101 : Int) , rg s0_101 → R_101 s0_101 → mm_W d mc_202 101 [some (iv x0), some (iv x1)] [iv s0_101] (fm m) (XK Q) := by
        intro s0_101 r_s0_101 hR
        have H := HJ_101 s0_101 r_s0_101 hR
        exact f_iret rfl r_s0_101 H
      refine b_ne rfl r_x1 (by unfold rg; decide) (fun hq => ?_) (fun hq => ?_)
      · replace H := H.1 hq
        refine w_st (fun _ => rfl) ?_
        refine f_int 2 rfl rfl ?_
        refine b_ne rfl r_x1 (by unfold rg; decide) (fun hq => ?_) (fun hq => ?_)
        · replace H := H.1 hq
          refine w_st (fun _ => rfl) ?_
          refine z_ne rfl r_x1 (fun hq => ?_) (fun hq => ?_)
          · replace H := H.1 hq
            refine w_st (fun _ => rfl) ?_
            refine f_int 3 rfl rfl ?_
            refine b_ne rfl r_x1 (by unfold rg; decide) (fun hq => ?_) (fun hq => ?_)
            · replace H := H.1 hq
              refine w_st (fun _ => rfl) ?_
              exact tl_101 x1 r_x1 H
            · replace H := H.2 hq
              refine f_int 0 rfl rfl ?_
              refine w_st (fun _ => rfl) ?_
              exact tl_101 0 (by unfold rg; decide) H
          · replace H := H.2 hq
            refine f_int 2 rfl rfl ?_
            refine w_st (fun _ => rfl) ?_
            exact tl_101 2 (by unfold rg; decide) H
        · replace H := H.2 hq
          refine f_int 1 rfl rfl ?_
          refine w_st (fun _ => rfl) ?_
          exact tl_101 1 (by unfold rg; decide) H
      · replace H := H.2 hq
        refine f_int 3 rfl rfl ?_
        refine w_st (fun _ => rfl) ?_
        exact tl_101 3 (by unfold rg; decide) H
    · replace H := H.2
      by_cases e2_1 : x0 = 2
      · refine f_tsw 2 rfl r_x0 e2_1 rfl rfl ?_
        replace H := H.1 e2_1
        refine w_st (fun _ => rfl) ?_
        refine f_int 1 rfl rfl ?_
        obtain ⟨R_138, H, HJ_138⟩ := H
        have tl_138 : ∀ (s0_138 : Int) , rg s0_138 → R_138 s0_138 → mm_W d mc_202 138 [some (iv x0), some (iv x1)] [iv s0_138] (fm m) (XK Q) := by
          intro s0_138 r_s0_138 hR
          have H := HJ_138 s0_138 r_s0_138 hR
          exact f_iret rfl r_s0_138 H
        refine b_ne rfl r_x1 (by unfold rg; decide) (fun hq => ?_) (fun hq => ?_)
        · replace H := H.1 hq
          refine w_st (fun _ => rfl) ?_
          refine f_int 5 rfl rfl ?_
          refine b_ne rfl r_x1 (by unfold rg; decide) (fun hq => ?_) (fun hq => ?_)
          · replace H := H.1 hq
            refine w_st (fun _ => rfl) ?_
            refine z_ne rfl r_x1 (fun hq => ?_) (fun hq => ?_)
            · replace H := H.1 hq
              refine w_st (fun _ => rfl) ?_
              refine f_int 4 rfl rfl ?_
              refine b_ne rfl r_x1 (by unfold rg; decide) (fun hq => ?_) (fun hq => ?_)
              · replace H := H.1 hq
                refine w_st (fun _ => rfl) ?_
                exact tl_138 x1 r_x1 H
              · replace H := H.2 hq
                refine f_int 0 rfl rfl ?_
                refine w_st (fun _ => rfl) ?_
                exact tl_138 0 (by unfold rg; decide) H
            · replace H := H.2 hq
              refine f_int 5 rfl rfl ?_
              refine w_st (fun _ => rfl) ?_
              exact tl_138 5 (by unfold rg; decide) H
          · replace H := H.2 hq
            refine f_int 1 rfl rfl ?_
            refine w_st (fun _ => rfl) ?_
            exact tl_138 1 (by unfold rg; decide) H
        · replace H := H.2 hq
          refine f_int 4 rfl rfl ?_
          refine w_st (fun _ => rfl) ?_
          exact tl_138 4 (by unfold rg; decide) H
      · replace H := H.2
        refine f_tswd rfl r_x0 (by omega) ?_
        replace H := H (by omega)
        refine w_st (fun _ => rfl) ?_
        refine f_int 1 rfl rfl ?_
        obtain ⟨R_175, H, HJ_175⟩ := H
        have tl_175 : ∀ (s0_175 : Int) , rg s0_175 → R_175 s0_175 → mm_W d mc_202 175 [some (iv x0), some (iv x1)] [iv s0_175] (fm m) (XK Q) := by
          intro s0_175 r_s0_175 hR
          have H := HJ_175 s0_175 r_s0_175 hR
          exact f_iret rfl r_s0_175 H
        refine b_ne rfl r_x1 (by unfold rg; decide) (fun hq => ?_) (fun hq => ?_)
        · replace H := H.1 hq
          refine w_st (fun _ => rfl) ?_
          refine f_int 3 rfl rfl ?_
          refine b_ne rfl r_x1 (by unfold rg; decide) (fun hq => ?_) (fun hq => ?_)
          · replace H := H.1 hq
            refine w_st (fun _ => rfl) ?_
            refine z_ne rfl r_x1 (fun hq => ?_) (fun hq => ?_)
            · replace H := H.1 hq
              refine w_st (fun _ => rfl) ?_
              refine f_int 2 rfl rfl ?_
              refine b_ne rfl r_x1 (by unfold rg; decide) (fun hq => ?_) (fun hq => ?_)
              · replace H := H.1 hq
                refine w_st (fun _ => rfl) ?_
                exact tl_175 x1 r_x1 H
              · replace H := H.2 hq
                refine f_int 0 rfl rfl ?_
                refine w_st (fun _ => rfl) ?_
                exact tl_175 0 (by unfold rg; decide) H
            · replace H := H.2 hq
              refine f_int 3 rfl rfl ?_
              refine w_st (fun _ => rfl) ?_
              exact tl_175 3 (by unfold rg; decide) H
          · replace H := H.2 hq
            refine f_int 1 rfl rfl ?_
            refine w_st (fun _ => rfl) ?_
            exact tl_175 1 (by unfold rg; decide) H
        · replace H := H.2 hq
          refine f_int 2 rfl rfl ?_
          refine w_st (fun _ => rfl) ?_
          exact tl_175 2 (by unfold rg; decide) H
/-- TippedCratesModel.in(III)Z -/
def P_206 (d : Nat) (m : Mm) (x0 : Int) (x1 : Int) (x2 : Int) (Q : Mm → Int → Prop) : Prop :=
  (∃ R_15 : Int → Prop,
    (∃ R_14 : Prop,
    ((x0 < x1 → R_14) ∧
    (¬ x0 < x1 → ((x2 < x0 → R_14) ∧
      (¬ x2 < x0 → R_15 1)))) ∧
    (R_14 →
    R_15 0)) ∧
    (∀ (s0_15 : Int) , rg s0_15 → R_15 s0_15 →
    ((s0_15 = 0 ∨ s0_15 = 1) ∧ Q m s0_15)))
set_option maxRecDepth 20000 in
theorem br_206 {d : Nat} {m : Mm} {x0 : Int} {x1 : Int} {x2 : Int} {Q : Mm → Int → Prop} (r_x0 : rg x0) (r_x1 : rg x1) (r_x2 : rg x2) (H : P_206 d m x0 x1 x2 Q) : CK (d + 1) 206 [iv x0, iv x1, iv x2] m Q := by
  unfold P_206 at H
  refine CK_of rfl ?_
  show mm_W d mc_206 0 [some (iv x0), some (iv x1), some (iv x2)] [] (fm m) (XK Q)
  refine w_st (fun _ => rfl) ?_
  refine w_st (fun _ => rfl) ?_
  obtain ⟨R_15, H, HJ_15⟩ := H
  have tl_15 : ∀ (s0_15 : Int) , rg s0_15 → R_15 s0_15 → mm_W d mc_206 15 [some (iv x0), some (iv x1), some (iv x2)] [iv s0_15] (fm m) (XK Q) := by
    intro s0_15 r_s0_15 hR
    have H := HJ_15 s0_15 r_s0_15 hR
    exact f_zret rfl r_s0_15 H.1 H.2
  obtain ⟨R_14, H, HJ_14⟩ := H
  have tl_14 : R_14 → mm_W d mc_206 14 [some (iv x0), some (iv x1), some (iv x2)] [] (fm m) (XK Q) := by
    intro   hR
    have H := HJ_14   hR
    refine f_int 0 rfl rfl ?_
    exact tl_15 0 (by unfold rg; decide) H
  refine b_lt rfl r_x0 r_x1 (fun hq => ?_) (fun hq => ?_)
  · replace H := H.1 hq
    exact tl_14   H
  · replace H := H.2 hq
    refine w_st (fun _ => rfl) ?_
    refine w_st (fun _ => rfl) ?_
    refine b_gt rfl r_x0 r_x2 (fun hq => ?_) (fun hq => ?_)
    · replace H := H.1 hq
      exact tl_14   H
    · replace H := H.2 hq
      refine f_int 1 rfl rfl ?_
      refine w_st (fun _ => rfl) ?_
      exact tl_15 1 (by unfold rg; decide) H
/-- TippedCratesModel.within(III)I -/
def P_207 (d : Nat) (m : Mm) (x0 : Int) (x1 : Int) (x2 : Int) (Q : Mm → Int → Prop) : Prop :=
  (∃ R_19 : Int → Prop,
    ((x1 ≤ x0 → ((x0 ≤ x2 → R_19 x0) ∧
      (¬ x0 ≤ x2 → R_19 x2))) ∧
    (¬ x1 ≤ x0 → R_19 x1)) ∧
    (∀ (s0_19 : Int) , rg s0_19 → R_19 s0_19 →
    Q m s0_19))
set_option maxRecDepth 20000 in
theorem br_207 {d : Nat} {m : Mm} {x0 : Int} {x1 : Int} {x2 : Int} {Q : Mm → Int → Prop} (r_x0 : rg x0) (r_x1 : rg x1) (r_x2 : rg x2) (H : P_207 d m x0 x1 x2 Q) : CK (d + 1) 207 [iv x0, iv x1, iv x2] m Q := by
  unfold P_207 at H
  refine CK_of rfl ?_
  show mm_W d mc_207 0 [some (iv x0), some (iv x1), some (iv x2)] [] (fm m) (XK Q)
  refine w_st (fun _ => rfl) ?_
  refine w_st (fun _ => rfl) ?_
  obtain ⟨R_19, H, HJ_19⟩ := H
  have tl_19 : ∀ (s0_19 : Int) , rg s0_19 → R_19 s0_19 → mm_W d mc_207 19 [some (iv x0), some (iv x1), some (iv x2)] [iv s0_19] (fm m) (XK Q) := by
    intro s0_19 r_s0_19 hR
    have H := HJ_19 s0_19 r_s0_19 hR
    exact f_iret rfl r_s0_19 H
  refine b_ge rfl r_x0 r_x1 (fun hq => ?_) (fun hq => ?_)
  · replace H := H.1 hq
    refine w_st (fun _ => rfl) ?_
    refine w_st (fun _ => rfl) ?_
    refine b_le rfl r_x0 r_x2 (fun hq => ?_) (fun hq => ?_)
    · replace H := H.1 hq
      refine w_st (fun _ => rfl) ?_
      exact tl_19 x0 r_x0 H
    · replace H := H.2 hq
      refine w_st (fun _ => rfl) ?_
      refine w_st (fun _ => rfl) ?_
      exact tl_19 x2 r_x2 H
  · replace H := H.2 hq
    refine w_st (fun _ => rfl) ?_
    refine w_st (fun _ => rfl) ?_
    exact tl_19 x1 r_x1 H
/-- TippedCratesModel.flags()I -/
def P_208 (d : Nat) (m : Mm)  (Q : Mm → Int → Prop) : Prop :=
  (((0 : Int) ≤ (rd m 284 18) ∧ (rd m 284 18) < 2) ∧ (((0 : Int) ≤ (rd m 284 18) ∧ (rd m 284 18) < 2) ∧ Q m (wr ((rd m 293 (Int.toNat (rd m 284 18))) * (rd m 294 (Int.toNat (rd m 284 18)))))))
set_option maxRecDepth 20000 in
theorem br_208 {d : Nat} {m : Mm}  {Q : Mm → Int → Prop}  (H : P_208 d m  Q) : CK (d + 1) 208 [.ref 284] m Q := by
  unfold P_208 at H
  refine CK_of rfl ?_
  show mm_W d mc_208 0 [some (.ref 284)] [] (fm m) (XK Q)
  refine w_st (fun _ => rfl) ?_
  refine g_284_22 rfl ?_
  refine w_st (fun _ => rfl) ?_
  refine g_284_18 rfl ?_
  refine f_ld ir_293 rfl H.1 ?_
  replace H := H.2
  refine w_st (fun _ => rfl) ?_
  refine g_284_23 rfl ?_
  refine w_st (fun _ => rfl) ?_
  refine g_284_18 rfl ?_
  refine f_ld ir_294 rfl H.1 ?_
  replace H := H.2
  refine f_mul rfl ?_
  exact f_iret rfl (wr_rg _) H
/-- TippedCratesModel.isFlag(I)Z -/
def P_209 (d : Nat) (m : Mm) (x1 : Int) (Q : Mm → Int → Prop) : Prop :=
  CK d 208 [.ref 284] m (fun m3 v3 =>
    CK d 206 [iv x1, iv 0, iv (wr (v3 - 1))] m3 (fun m8 v8 =>
    ((v8 = 0 ∨ v8 = 1) ∧ Q m8 v8)))
set_option maxRecDepth 20000 in
theorem br_209 {d : Nat} {m : Mm} {x1 : Int} {Q : Mm → Int → Prop} (r_x1 : rg x1) (H : P_209 d m x1 Q) : CK (d + 1) 209 [.ref 284, iv x1] m Q := by
  unfold P_209 at H
  refine CK_of rfl ?_
  show mm_W d mc_209 0 [some (.ref 284), some (iv x1)] [] (fm m) (XK Q)
  refine w_st (fun _ => rfl) ?_
  refine f_int 0 rfl rfl ?_
  refine w_st (fun _ => rfl) ?_
  refine k_VK (as := []) rfl mg_209 rfl rfl (by decide) rfl rfl H (fun m3 v3 r_v3 H => ?_)
  refine f_int 1 rfl rfl ?_
  refine f_sub rfl ?_
  refine k_SK (as := [iv x1, iv 0, iv (wr (v3 - 1))]) rfl mg_209 rfl rfl rfl H (fun m8 v8 r_v8 H => ?_)
  exact f_zret rfl r_v8 H.1 H.2
/-- TippedCratesModel.isCrate(I)Z -/
def P_210 (d : Nat) (m : Mm) (x1 : Int) (Q : Mm → Int → Prop) : Prop :=
  (((0 : Int) ≤ (rd m 284 18) ∧ (rd m 284 18) < 2) ∧ CK d 206 [iv x1, iv 0, iv (wr ((rd m 302 (Int.toNat (rd m 284 18))) - 1))] m (fun m13 v13 =>
    ((v13 = 0 ∨ v13 = 1) ∧ Q m13 v13)))
set_option maxRecDepth 20000 in
theorem br_210 {d : Nat} {m : Mm} {x1 : Int} {Q : Mm → Int → Prop} (r_x1 : rg x1) (H : P_210 d m x1 Q) : CK (d + 1) 210 [.ref 284, iv x1] m Q := by
  unfold P_210 at H
  refine CK_of rfl ?_
  show mm_W d mc_210 0 [some (.ref 284), some (iv x1)] [] (fm m) (XK Q)
  refine w_st (fun _ => rfl) ?_
  refine f_int 0 rfl rfl ?_
  refine w_st (fun _ => rfl) ?_
  refine g_284_31 rfl ?_
  refine w_st (fun _ => rfl) ?_
  refine g_284_18 rfl ?_
  refine f_ld ir_302 rfl H.1 ?_
  replace H := H.2
  refine f_int 1 rfl rfl ?_
  refine f_sub rfl ?_
  refine k_SK (as := [iv x1, iv 0, iv (wr ((rd m 302 (Int.toNat (rd m 284 18))) - 1))]) rfl mg_210 rfl rfl rfl H (fun m13 v13 r_v13 H => ?_)
  exact f_zret rfl r_v13 H.1 H.2
/-- TippedCratesModel.isMark(I)Z -/
def P_211 (d : Nat) (m : Mm) (x0 : Int) (Q : Mm → Int → Prop) : Prop :=
  CK d 206 [iv x0, iv 0, iv 9] m (fun m4 v4 =>
    ((v4 = 0 ∨ v4 = 1) ∧ Q m4 v4))
set_option maxRecDepth 20000 in
theorem br_211 {d : Nat} {m : Mm} {x0 : Int} {Q : Mm → Int → Prop} (r_x0 : rg x0) (H : P_211 d m x0 Q) : CK (d + 1) 211 [iv x0] m Q := by
  unfold P_211 at H
  refine CK_of rfl ?_
  show mm_W d mc_211 0 [some (iv x0)] [] (fm m) (XK Q)
  refine w_st (fun _ => rfl) ?_
  refine f_int 0 rfl rfl ?_
  refine f_int 9 rfl rfl ?_
  refine k_SK (as := [iv x0, iv 0, iv 9]) rfl mg_211 rfl rfl rfl H (fun m4 v4 r_v4 H => ?_)
  exact f_zret rfl r_v4 H.1 H.2
/-- TippedCratesModel.isWay(I)Z -/
def P_212 (d : Nat) (m : Mm) (x0 : Int) (Q : Mm → Int → Prop) : Prop :=
  CK d 206 [iv x0, iv 0, iv 3] m (fun m3 v3 =>
    ((v3 = 0 ∨ v3 = 1) ∧ Q m3 v3))
set_option maxRecDepth 20000 in
theorem br_212 {d : Nat} {m : Mm} {x0 : Int} {Q : Mm → Int → Prop} (r_x0 : rg x0) (H : P_212 d m x0 Q) : CK (d + 1) 212 [iv x0] m Q := by
  unfold P_212 at H
  refine CK_of rfl ?_
  show mm_W d mc_212 0 [some (iv x0)] [] (fm m) (XK Q)
  refine w_st (fun _ => rfl) ?_
  refine f_int 0 rfl rfl ?_
  refine f_int 3 rfl rfl ?_
  refine k_SK (as := [iv x0, iv 0, iv 3]) rfl mg_212 rfl rfl rfl H (fun m3 v3 r_v3 H => ?_)
  exact f_zret rfl r_v3 H.1 H.2
/-- TippedCratesModel.isShut(I)Z -/
def P_213 (d : Nat) (m : Mm) (x1 : Int) (Q : Mm → Int → Prop) : Prop :=
  (∃ R_17 : Int → Prop,
    ((¬ (anI (srI (rd m 284 59) x1) 1) = 1 → R_17 0) ∧
    ((anI (srI (rd m 284 59) x1) 1) = 1 → R_17 1)) ∧
    (∀ (s0_17 : Int) , rg s0_17 → R_17 s0_17 →
    ((s0_17 = 0 ∨ s0_17 = 1) ∧ Q m s0_17)))
set_option maxRecDepth 20000 in
theorem br_213 {d : Nat} {m : Mm} {x1 : Int} {Q : Mm → Int → Prop} (r_x1 : rg x1) (H : P_213 d m x1 Q) : CK (d + 1) 213 [.ref 284, iv x1] m Q := by
  unfold P_213 at H
  refine CK_of rfl ?_
  show mm_W d mc_213 0 [some (.ref 284), some (iv x1)] [] (fm m) (XK Q)
  refine w_st (fun _ => rfl) ?_
  refine g_284_59 rfl ?_
  refine w_st (fun _ => rfl) ?_
  refine f_srI rfl ?_
  refine f_int 1 rfl rfl ?_
  refine f_anI rfl ?_
  refine f_int 1 rfl rfl ?_
  obtain ⟨R_17, H, HJ_17⟩ := H
  have tl_17 : ∀ (s0_17 : Int) , rg s0_17 → R_17 s0_17 → mm_W d mc_213 17 [some (.ref 284), some (iv x1)] [iv s0_17] (fm m) (XK Q) := by
    intro s0_17 r_s0_17 hR
    have H := HJ_17 s0_17 r_s0_17 hR
    exact f_zret rfl r_s0_17 H.1 H.2
  refine b_ne rfl (io_rg _ _ _) (by unfold rg; decide) (fun hq => ?_) (fun hq => ?_)
  · replace H := H.1 hq
    refine f_int 0 rfl rfl ?_
    exact tl_17 0 (by unfold rg; decide) H
  · replace H := H.2 hq
    refine f_int 1 rfl rfl ?_
    refine w_st (fun _ => rfl) ?_
    exact tl_17 1 (by unfold rg; decide) H
/-- TippedCratesModel.begins()V -/
def P_214 (d : Nat) (m : Mm)  (Q : Mm → Prop) : Prop :=
  (((0 : Int) ≤ (rd m 284 18) ∧ (rd m 284 18) < 2) ∧ (∀ z1_9 : Int, z1_9 = (rd m 293 (Int.toNat (rd m 284 18))) → (∃ (I_12 : Int → Mm → Prop) (mu_12 : Int → Mm → Nat), I_12 0 m ∧
    ∀ (x2_12 : Int) (m_12 : Mm), rg x2_12 → I_12 x2_12 m_12 →
    ((51 ≤ x2_12 → (∀ m33 : Mm, m33 = wt m_12 284 59 0 → (∀ z2_43 : Int, z2_43 = (wr (8 * (rd m33 284 18))) → (∃ (I_44 : Int → Mm → Prop) (mu_44 : Int → Mm → Nat), I_44 z2_43 m33 ∧
          ∀ (x2_44 : Int) (m_44 : Mm), rg x2_44 → I_44 x2_44 m_44 →
          (((0 : Int) ≤ (rd m_44 284 18) ∧ (rd m_44 284 18) < 2) ∧ (((wr ((wr (8 * (rd m_44 284 18))) + (rd m_44 295 (Int.toNat (rd m_44 284 18))))) ≤ x2_44 → (∀ z2_104 : Int, z2_104 = (wr (10 * (rd m_44 284 18))) → (∃ (I_105 : Int → Mm → Prop) (mu_105 : Int → Mm → Nat), I_105 z2_104 m_44 ∧
                ∀ (x2_105 : Int) (m_105 : Mm), rg x2_105 → I_105 x2_105 m_105 →
                (((0 : Int) ≤ (rd m_105 284 18) ∧ (rd m_105 284 18) < 2) ∧ (((wr ((wr (10 * (rd m_105 284 18))) + (rd m_105 298 (Int.toNat (rd m_105 284 18))))) ≤ x2_105 → (∃ (I_160 : Int → Mm → Prop) (mu_160 : Int → Mm → Nat), I_160 0 m_105 ∧
                      ∀ (x2_160 : Int) (m_160 : Mm), rg x2_160 → I_160 x2_160 m_160 →
                      (((0 : Int) ≤ (rd m_160 284 18) ∧ (rd m_160 284 18) < 2) ∧ (((rd m_160 302 (Int.toNat (rd m_160 284 18))) ≤ x2_160 → (((0 : Int) ≤ (rd m_160 284 18) ∧ (rd m_160 284 18) < 2) ∧ (∀ m274 : Mm, m274 = wt m_160 284 58 (rd m_160 306 (Int.toNat (rd m_160 284 18))) → Q m274))) ∧
                          (¬ (rd m_160 302 (Int.toNat (rd m_160 284 18))) ≤ x2_160 → (∃ (I_175 : Int → Mm → Prop) (mu_175 : Int → Mm → Nat), I_175 0 m_160 ∧
                            ∀ (x3_175 : Int) (m_175 : Mm), rg x3_175 → I_175 x3_175 m_175 →
                            ((6 ≤ x3_175 → (((0 : Int) ≤ (wr ((wr (3 * (rd m_175 284 18))) + x2_160)) ∧ (wr ((wr (3 * (rd m_175 284 18))) + x2_160)) < 6) ∧ (((0 : Int) ≤ (wr ((wr (3 * (rd m_175 284 18))) + x2_160)) ∧ (wr ((wr (3 * (rd m_175 284 18))) + x2_160)) < 6) ∧ (((0 : Int) ≤ (wr (43 + x2_160)) ∧ (wr (43 + x2_160)) < 51) ∧ (∀ m257 : Mm, m257 = wt m_175 323 (Int.toNat (wr (43 + x2_160))) (wr ((wr (z1_9 * (rd m_175 304 (Int.toNat (wr ((wr (3 * (rd m_175 284 18))) + x2_160)))))) + (rd m_175 303 (Int.toNat (wr ((wr (3 * (rd m_175 284 18))) + x2_160)))))) → (∀ z2_258 : Int, z2_258 = wr (x2_160 + 1) → (I_160 z2_258 m257 ∧ mu_160 z2_258 m257 < mu_160 x2_160 m_160))))))) ∧
                                (¬ 6 ≤ x3_175 → (((0 : Int) ≤ (wr ((wr ((wr (18 * (rd m_175 284 18))) + (wr (6 * x2_160)))) + x3_175)) ∧ (wr ((wr ((wr (18 * (rd m_175 284 18))) + (wr (6 * x2_160)))) + x3_175)) < 36) ∧ (((0 : Int) ≤ (wr ((wr (25 + (wr (6 * x2_160)))) + x3_175)) ∧ (wr ((wr (25 + (wr (6 * x2_160)))) + x3_175)) < 51) ∧ (∀ m213 : Mm, m213 = wt m_175 323 (Int.toNat (wr ((wr (25 + (wr (6 * x2_160)))) + x3_175))) (rd m_175 305 (Int.toNat (wr ((wr ((wr (18 * (rd m_175 284 18))) + (wr (6 * x2_160)))) + x3_175)))) → (∀ z3_214 : Int, z3_214 = wr (x3_175 + 1) → (I_175 z3_214 m213 ∧ mu_175 z3_214 m213 < mu_175 x3_175 m_175))))))))))))) ∧
                    (¬ (wr ((wr (10 * (rd m_105 284 18))) + (rd m_105 298 (Int.toNat (rd m_105 284 18))))) ≤ x2_105 → (((0 : Int) ≤ x2_105 ∧ x2_105 < 20) ∧ (((0 : Int) ≤ x2_105 ∧ x2_105 < 20) ∧ (((0 : Int) ≤ x2_105 ∧ x2_105 < 20) ∧ (((0 : Int) ≤ (wr ((wr (z1_9 * (rd m_105 300 (Int.toNat x2_105)))) + (rd m_105 299 (Int.toNat x2_105)))) ∧ (wr ((wr (z1_9 * (rd m_105 300 (Int.toNat x2_105)))) + (rd m_105 299 (Int.toNat x2_105)))) < 51) ∧ (∀ m151 : Mm, m151 = wt m_105 323 (Int.toNat (wr ((wr (z1_9 * (rd m_105 300 (Int.toNat x2_105)))) + (rd m_105 299 (Int.toNat x2_105))))) (rd m_105 301 (Int.toNat x2_105)) → (∀ z2_152 : Int, z2_152 = wr (x2_105 + 1) → (I_105 z2_152 m151 ∧ mu_105 z2_152 m151 < mu_105 x2_105 m_105))))))))))))) ∧
              (¬ (wr ((wr (8 * (rd m_44 284 18))) + (rd m_44 295 (Int.toNat (rd m_44 284 18))))) ≤ x2_44 → (((0 : Int) ≤ x2_44 ∧ x2_44 < 16) ∧ (((0 : Int) ≤ x2_44 ∧ x2_44 < 16) ∧ (∀ m88 : Mm, m88 = wt m_44 284 59 (orI (rd m_44 284 59) (slI 1 (wr ((wr (z1_9 * (rd m_44 297 (Int.toNat x2_44)))) + (rd m_44 296 (Int.toNat x2_44)))))) → (∀ z2_91 : Int, z2_91 = wr (x2_44 + 1) → (I_44 z2_91 m88 ∧ mu_44 z2_91 m88 < mu_44 x2_44 m_44)))))))))))) ∧
        (¬ 51 ≤ x2_12 → (((0 : Int) ≤ x2_12 ∧ x2_12 < 51) ∧ (∀ m24 : Mm, m24 = wt m_12 323 (Int.toNat x2_12) 0 → (∀ z2_25 : Int, z2_25 = wr (x2_12 + 1) → (I_12 z2_25 m24 ∧ mu_12 z2_25 m24 < mu_12 x2_12 m_12)))))))))
set_option maxRecDepth 20000 in
theorem br_214 {d : Nat} {m : Mm}  {Q : Mm → Prop}  (H : P_214 d m  Q) : CV (d + 1) 214 [.ref 284] m Q := by
  unfold P_214 at H
  refine CV_of rfl ?_
  show mm_W d mc_214 0 [some (.ref 284), none, none, none] [] (fm m) (XV Q)
  refine w_st (fun _ => rfl) ?_
  refine g_284_22 rfl ?_
  refine w_st (fun _ => rfl) ?_
  refine g_284_18 rfl ?_
  refine f_ld ir_293 rfl H.1 ?_
  replace H := H.2
  obtain ⟨z1_9, e_z1_9⟩ : ∃ q : Int, q = (rd m 293 (Int.toNat (rd m 284 18))) := ⟨_, rfl⟩
  have r_z1_9 : rg z1_9 := by rw [e_z1_9]; exact (rd_rg _ _ _)
  replace H := H z1_9 e_z1_9
  refine f_nm e_z1_9 ?_
  refine w_st (ls2 := [some (.ref 284), some (iv z1_9), none, none]) (fun _ => rfl) ?_
  refine f_int 0 rfl rfl ?_
  refine w_st (ls2 := [some (.ref 284), some (iv z1_9), some (iv 0), none]) (fun _ => rfl) ?_
  obtain ⟨I_12, mu_12, H0_12, HB_12⟩ := H
  have lp_12 : ∀ (z : Nat) (x2_12 : Int) (m_12 : Mm), mu_12 x2_12 m_12 < z → rg x2_12 → I_12 x2_12 m_12 → mm_W d mc_214 12 [some (.ref 284), some (iv z1_9), some (iv x2_12), none] [] (fm m_12) (XV Q) := by
    intro z
    induction z with
    | zero => intro x2_12 m_12 hz; exact absurd hz (Nat.not_lt_zero _)
    | succ z ih_12 =>
      intro x2_12 m_12 hz_12 r_x2_12 hI
      have H := HB_12 x2_12 m_12 r_x2_12 hI
      refine w_st (fun _ => rfl) ?_
      refine f_int 51 rfl rfl ?_
      refine b_ge rfl r_x2_12 (by unfold rg; decide) (fun hq => ?_) (fun hq => ?_)
      · replace H := H.1 hq
        refine w_st (fun _ => rfl) ?_
        refine f_int 0 rfl rfl ?_
        obtain ⟨m33, e_m33⟩ : ∃ q : Mm, q = wt m_12 284 59 0 := ⟨_, rfl⟩
        replace H := H m33 e_m33
        refine p_284_59 rfl e_m33 ?_
        refine f_int 8 rfl rfl ?_
        refine w_st (fun _ => rfl) ?_
        refine g_284_18 rfl ?_
        refine f_mul rfl ?_
        obtain ⟨z2_43, e_z2_43⟩ : ∃ q : Int, q = (wr (8 * (rd m33 284 18))) := ⟨_, rfl⟩
        have r_z2_43 : rg z2_43 := by rw [e_z2_43]; exact (wr_rg _)
        replace H := H z2_43 e_z2_43
        refine f_nm e_z2_43 ?_
        refine w_st (ls2 := [some (.ref 284), some (iv z1_9), some (iv z2_43), none]) (fun _ => rfl) ?_
        obtain ⟨I_44, mu_44, H0_44, HB_44⟩ := H
        have lp_44 : ∀ (z : Nat) (x2_44 : Int) (m_44 : Mm), mu_44 x2_44 m_44 < z → rg x2_44 → I_44 x2_44 m_44 → mm_W d mc_214 44 [some (.ref 284), some (iv z1_9), some (iv x2_44), none] [] (fm m_44) (XV Q) := by
          intro z
          induction z with
          | zero => intro x2_44 m_44 hz; exact absurd hz (Nat.not_lt_zero _)
          | succ z ih_44 =>
            intro x2_44 m_44 hz_44 r_x2_44 hI
            have H := HB_44 x2_44 m_44 r_x2_44 hI
            refine w_st (fun _ => rfl) ?_
            refine f_int 8 rfl rfl ?_
            refine w_st (fun _ => rfl) ?_
            refine g_284_18 rfl ?_
            refine f_mul rfl ?_
            refine w_st (fun _ => rfl) ?_
            refine g_284_24 rfl ?_
            refine w_st (fun _ => rfl) ?_
            refine g_284_18 rfl ?_
            refine f_ld ir_295 rfl H.1 ?_
            replace H := H.2
            refine f_add rfl ?_
            refine b_ge rfl r_x2_44 (wr_rg _) (fun hq => ?_) (fun hq => ?_)
            · replace H := H.1 hq
              refine f_int 10 rfl rfl ?_
              refine w_st (fun _ => rfl) ?_
              refine g_284_18 rfl ?_
              refine f_mul rfl ?_
              obtain ⟨z2_104, e_z2_104⟩ : ∃ q : Int, q = (wr (10 * (rd m_44 284 18))) := ⟨_, rfl⟩
              have r_z2_104 : rg z2_104 := by rw [e_z2_104]; exact (wr_rg _)
              replace H := H z2_104 e_z2_104
              refine f_nm e_z2_104 ?_
              refine w_st (ls2 := [some (.ref 284), some (iv z1_9), some (iv z2_104), none]) (fun _ => rfl) ?_
              obtain ⟨I_105, mu_105, H0_105, HB_105⟩ := H
              have lp_105 : ∀ (z : Nat) (x2_105 : Int) (m_105 : Mm), mu_105 x2_105 m_105 < z → rg x2_105 → I_105 x2_105 m_105 → mm_W d mc_214 105 [some (.ref 284), some (iv z1_9), some (iv x2_105), none] [] (fm m_105) (XV Q) := by
                intro z
                induction z with
                | zero => intro x2_105 m_105 hz; exact absurd hz (Nat.not_lt_zero _)
                | succ z ih_105 =>
                  intro x2_105 m_105 hz_105 r_x2_105 hI
                  have H := HB_105 x2_105 m_105 r_x2_105 hI
                  refine w_st (fun _ => rfl) ?_
                  refine f_int 10 rfl rfl ?_
                  refine w_st (fun _ => rfl) ?_
                  refine g_284_18 rfl ?_
                  refine f_mul rfl ?_
                  refine w_st (fun _ => rfl) ?_
                  refine g_284_27 rfl ?_
                  refine w_st (fun _ => rfl) ?_
                  refine g_284_18 rfl ?_
                  refine f_ld ir_298 rfl H.1 ?_
                  replace H := H.2
                  refine f_add rfl ?_
                  refine b_ge rfl r_x2_105 (wr_rg _) (fun hq => ?_) (fun hq => ?_)
                  · replace H := H.1 hq
                    refine f_int 0 rfl rfl ?_
                    refine w_st (ls2 := [some (.ref 284), some (iv z1_9), some (iv 0), none]) (fun _ => rfl) ?_
                    obtain ⟨I_160, mu_160, H0_160, HB_160⟩ := H
                    have lp_160 : ∀ (z : Nat) (x2_160 : Int) (m_160 : Mm) (g3_160 : Option Value), mu_160 x2_160 m_160 < z → rg x2_160 → I_160 x2_160 m_160 → mm_W d mc_214 160 [some (.ref 284), some (iv z1_9), some (iv x2_160), g3_160] [] (fm m_160) (XV Q) := by
                      intro z
                      induction z with
                      | zero => intro x2_160 m_160 g3_160 hz; exact absurd hz (Nat.not_lt_zero _)
                      | succ z ih_160 =>
                        intro x2_160 m_160 g3_160 hz_160 r_x2_160 hI
                        have H := HB_160 x2_160 m_160 r_x2_160 hI
                        refine w_st (fun _ => rfl) ?_
                        refine w_st (fun _ => rfl) ?_
                        refine g_284_31 rfl ?_
                        refine w_st (fun _ => rfl) ?_
                        refine g_284_18 rfl ?_
                        refine f_ld ir_302 rfl H.1 ?_
                        replace H := H.2
                        refine b_ge rfl r_x2_160 (rd_rg _ _ _) (fun hq => ?_) (fun hq => ?_)
                        · replace H := H.1 hq
                          refine w_st (fun _ => rfl) ?_
                          refine w_st (fun _ => rfl) ?_
                          refine g_284_35 rfl ?_
                          refine w_st (fun _ => rfl) ?_
                          refine g_284_18 rfl ?_
                          refine f_ld ir_306 rfl H.1 ?_
                          replace H := H.2
                          obtain ⟨m274, e_m274⟩ : ∃ q : Mm, q = wt m_160 284 58 (rd m_160 306 (Int.toNat (rd m_160 284 18))) := ⟨_, rfl⟩
                          replace H := H m274 e_m274
                          refine p_284_58 rfl e_m274 ?_
                          exact f_ret rfl H
                        · replace H := H.2 hq
                          refine f_int 0 rfl rfl ?_
                          refine w_st (ls2 := [some (.ref 284), some (iv z1_9), some (iv x2_160), some (iv 0)]) (fun _ => rfl) ?_
                          obtain ⟨I_175, mu_175, H0_175, HB_175⟩ := H
                          have lp_175 : ∀ (z : Nat) (x3_175 : Int) (m_175 : Mm), mu_175 x3_175 m_175 < z → rg x3_175 → I_175 x3_175 m_175 → mm_W d mc_214 175 [some (.ref 284), some (iv z1_9), some (iv x2_160), some (iv x3_175)] [] (fm m_175) (XV Q) := by
                            intro z
                            induction z with
                            | zero => intro x3_175 m_175 hz; exact absurd hz (Nat.not_lt_zero _)
                            | succ z ih_175 =>
                              intro x3_175 m_175 hz_175 r_x3_175 hI
                              have H := HB_175 x3_175 m_175 r_x3_175 hI
                              refine w_st (fun _ => rfl) ?_
                              refine f_int 6 rfl rfl ?_
                              refine b_ge rfl r_x3_175 (by unfold rg; decide) (fun hq => ?_) (fun hq => ?_)
                              · replace H := H.1 hq
                                refine w_st (fun _ => rfl) ?_
                                refine g_284_57 rfl ?_
                                refine f_int 43 rfl rfl ?_
                                refine w_st (fun _ => rfl) ?_
                                refine f_add rfl ?_
                                refine w_st (fun _ => rfl) ?_
                                refine w_st (fun _ => rfl) ?_
                                refine g_284_33 rfl ?_
                                refine f_int 3 rfl rfl ?_
                                refine w_st (fun _ => rfl) ?_
                                refine g_284_18 rfl ?_
                                refine f_mul rfl ?_
                                refine w_st (fun _ => rfl) ?_
                                refine f_add rfl ?_
                                refine f_ld ir_304 rfl H.1 ?_
                                replace H := H.2
                                refine f_mul rfl ?_
                                refine w_st (fun _ => rfl) ?_
                                refine g_284_32 rfl ?_
                                refine f_int 3 rfl rfl ?_
                                refine w_st (fun _ => rfl) ?_
                                refine g_284_18 rfl ?_
                                refine f_mul rfl ?_
                                refine w_st (fun _ => rfl) ?_
                                refine f_add rfl ?_
                                refine f_ld ir_303 rfl H.1 ?_
                                replace H := H.2
                                refine f_add rfl ?_
                                obtain ⟨m257, e_m257⟩ : ∃ q : Mm, q = wt m_175 323 (Int.toNat (wr (43 + x2_160))) (wr ((wr (z1_9 * (rd m_175 304 (Int.toNat (wr ((wr (3 * (rd m_175 284 18))) + x2_160)))))) + (rd m_175 303 (Int.toNat (wr ((wr (3 * (rd m_175 284 18))) + x2_160)))))) := ⟨_, rfl⟩
                                refine f_st ir_323 rfl H.1 e_m257 ?_
                                replace H := H.2 m257 e_m257
                                obtain ⟨z2_258, e_z2_258⟩ : ∃ q : Int, q = wr (x2_160 + 1) := ⟨_, rfl⟩
                                have r_z2_258 : rg z2_258 := by rw [e_z2_258]; exact wr_rg _
                                replace H := H z2_258 e_z2_258
                                refine f_iinc (ls2 := [some (.ref 284), some (iv z1_9), some (iv z2_258), some (iv x3_175)]) 1 rfl rfl rfl e_z2_258 rfl ?_
                                refine w_st (fun _ => rfl) ?_
                                exact ih_160 z2_258 m257 (some (iv x3_175)) (Nat.lt_of_lt_of_le H.2 (Nat.le_of_lt_succ hz_160)) r_z2_258 H.1
                              · replace H := H.2 hq
                                refine w_st (fun _ => rfl) ?_
                                refine g_284_57 rfl ?_
                                refine f_int 25 rfl rfl ?_
                                refine f_int 6 rfl rfl ?_
                                refine w_st (fun _ => rfl) ?_
                                refine f_mul rfl ?_
                                refine f_add rfl ?_
                                refine w_st (fun _ => rfl) ?_
                                refine f_add rfl ?_
                                refine w_st (fun _ => rfl) ?_
                                refine g_284_34 rfl ?_
                                refine f_int 18 rfl rfl ?_
                                refine w_st (fun _ => rfl) ?_
                                refine g_284_18 rfl ?_
                                refine f_mul rfl ?_
                                refine f_int 6 rfl rfl ?_
                                refine w_st (fun _ => rfl) ?_
                                refine f_mul rfl ?_
                                refine f_add rfl ?_
                                refine w_st (fun _ => rfl) ?_
                                refine f_add rfl ?_
                                refine f_ld ir_305 rfl H.1 ?_
                                replace H := H.2
                                obtain ⟨m213, e_m213⟩ : ∃ q : Mm, q = wt m_175 323 (Int.toNat (wr ((wr (25 + (wr (6 * x2_160)))) + x3_175))) (rd m_175 305 (Int.toNat (wr ((wr ((wr (18 * (rd m_175 284 18))) + (wr (6 * x2_160)))) + x3_175)))) := ⟨_, rfl⟩
                                refine f_st ir_323 rfl H.1 e_m213 ?_
                                replace H := H.2 m213 e_m213
                                obtain ⟨z3_214, e_z3_214⟩ : ∃ q : Int, q = wr (x3_175 + 1) := ⟨_, rfl⟩
                                have r_z3_214 : rg z3_214 := by rw [e_z3_214]; exact wr_rg _
                                replace H := H z3_214 e_z3_214
                                refine f_iinc (ls2 := [some (.ref 284), some (iv z1_9), some (iv x2_160), some (iv z3_214)]) 1 rfl rfl rfl e_z3_214 rfl ?_
                                refine w_st (fun _ => rfl) ?_
                                exact ih_175 z3_214 m213 (Nat.lt_of_lt_of_le H.2 (Nat.le_of_lt_succ hz_175)) r_z3_214 H.1
                          exact lp_175 _ 0 m_160 (Nat.lt_succ_self _) (by unfold rg; decide) H0_175
                    exact lp_160 _ 0 m_105 none (Nat.lt_succ_self _) (by unfold rg; decide) H0_160
                  · replace H := H.2 hq
                    refine w_st (fun _ => rfl) ?_
                    refine g_284_57 rfl ?_
                    refine w_st (fun _ => rfl) ?_
                    refine w_st (fun _ => rfl) ?_
                    refine g_284_29 rfl ?_
                    refine w_st (fun _ => rfl) ?_
                    refine f_ld ir_300 rfl H.1 ?_
                    replace H := H.2
                    refine f_mul rfl ?_
                    refine w_st (fun _ => rfl) ?_
                    refine g_284_28 rfl ?_
                    refine w_st (fun _ => rfl) ?_
                    refine f_ld ir_299 rfl H.1 ?_
                    replace H := H.2
                    refine f_add rfl ?_
                    refine w_st (fun _ => rfl) ?_
                    refine g_284_30 rfl ?_
                    refine w_st (fun _ => rfl) ?_
                    refine f_ld ir_301 rfl H.1 ?_
                    replace H := H.2
                    obtain ⟨m151, e_m151⟩ : ∃ q : Mm, q = wt m_105 323 (Int.toNat (wr ((wr (z1_9 * (rd m_105 300 (Int.toNat x2_105)))) + (rd m_105 299 (Int.toNat x2_105))))) (rd m_105 301 (Int.toNat x2_105)) := ⟨_, rfl⟩
                    refine f_st ir_323 rfl H.1 e_m151 ?_
                    replace H := H.2 m151 e_m151
                    obtain ⟨z2_152, e_z2_152⟩ : ∃ q : Int, q = wr (x2_105 + 1) := ⟨_, rfl⟩
                    have r_z2_152 : rg z2_152 := by rw [e_z2_152]; exact wr_rg _
                    replace H := H z2_152 e_z2_152
                    refine f_iinc (ls2 := [some (.ref 284), some (iv z1_9), some (iv z2_152), none]) 1 rfl rfl rfl e_z2_152 rfl ?_
                    refine w_st (fun _ => rfl) ?_
                    exact ih_105 z2_152 m151 (Nat.lt_of_lt_of_le H.2 (Nat.le_of_lt_succ hz_105)) r_z2_152 H.1
              exact lp_105 _ z2_104 m_44 (Nat.lt_succ_self _) r_z2_104 H0_105
            · replace H := H.2 hq
              refine w_st (fun _ => rfl) ?_
              refine w_st (fun _ => rfl) ?_
              refine g_284_59 rfl ?_
              refine f_int 1 rfl rfl ?_
              refine w_st (fun _ => rfl) ?_
              refine w_st (fun _ => rfl) ?_
              refine g_284_26 rfl ?_
              refine w_st (fun _ => rfl) ?_
              refine f_ld ir_297 rfl H.1 ?_
              replace H := H.2
              refine f_mul rfl ?_
              refine w_st (fun _ => rfl) ?_
              refine g_284_25 rfl ?_
              refine w_st (fun _ => rfl) ?_
              refine f_ld ir_296 rfl H.1 ?_
              replace H := H.2
              refine f_add rfl ?_
              refine f_slI rfl ?_
              refine f_orI rfl ?_
              obtain ⟨m88, e_m88⟩ : ∃ q : Mm, q = wt m_44 284 59 (orI (rd m_44 284 59) (slI 1 (wr ((wr (z1_9 * (rd m_44 297 (Int.toNat x2_44)))) + (rd m_44 296 (Int.toNat x2_44)))))) := ⟨_, rfl⟩
              replace H := H m88 e_m88
              refine p_284_59 rfl e_m88 ?_
              obtain ⟨z2_91, e_z2_91⟩ : ∃ q : Int, q = wr (x2_44 + 1) := ⟨_, rfl⟩
              have r_z2_91 : rg z2_91 := by rw [e_z2_91]; exact wr_rg _
              replace H := H z2_91 e_z2_91
              refine f_iinc (ls2 := [some (.ref 284), some (iv z1_9), some (iv z2_91), none]) 1 rfl rfl rfl e_z2_91 rfl ?_
              refine w_st (fun _ => rfl) ?_
              exact ih_44 z2_91 m88 (Nat.lt_of_lt_of_le H.2 (Nat.le_of_lt_succ hz_44)) r_z2_91 H.1
        exact lp_44 _ z2_43 m33 (Nat.lt_succ_self _) r_z2_43 H0_44
      · replace H := H.2 hq
        refine w_st (fun _ => rfl) ?_
        refine g_284_57 rfl ?_
        refine w_st (fun _ => rfl) ?_
        refine f_int 0 rfl rfl ?_
        obtain ⟨m24, e_m24⟩ : ∃ q : Mm, q = wt m_12 323 (Int.toNat x2_12) 0 := ⟨_, rfl⟩
        refine f_st ir_323 rfl H.1 e_m24 ?_
        replace H := H.2 m24 e_m24
        obtain ⟨z2_25, e_z2_25⟩ : ∃ q : Int, q = wr (x2_12 + 1) := ⟨_, rfl⟩
        have r_z2_25 : rg z2_25 := by rw [e_z2_25]; exact wr_rg _
        replace H := H z2_25 e_z2_25
        refine f_iinc (ls2 := [some (.ref 284), some (iv z1_9), some (iv z2_25), none]) 1 rfl rfl rfl e_z2_25 rfl ?_
        refine w_st (fun _ => rfl) ?_
        exact ih_12 z2_25 m24 (Nat.lt_of_lt_of_le H.2 (Nat.le_of_lt_succ hz_12)) r_z2_25 H.1
  exact lp_12 _ 0 m (Nat.lt_succ_self _) (by unfold rg; decide) H0_12
/-- TippedCratesModel.keepsRow()V -/
def P_215 (d : Nat) (m : Mm)  (Q : Mm → Prop) : Prop :=
  (∃ (I_2 : Int → Mm → Prop) (mu_2 : Int → Mm → Nat), I_2 0 m ∧
    ∀ (x1_2 : Int) (m_2 : Mm), rg x1_2 → I_2 x1_2 m_2 →
    ((51 ≤ x1_2 → Q m_2) ∧
        (¬ 51 ≤ x1_2 → (((0 : Int) ≤ x1_2 ∧ x1_2 < 51) ∧ (((0 : Int) ≤ x1_2 ∧ x1_2 < 51) ∧ (∀ m19 : Mm, m19 = wt m_2 322 (Int.toNat x1_2) (rd m_2 323 (Int.toNat x1_2)) → (∀ z1_20 : Int, z1_20 = wr (x1_2 + 1) → (I_2 z1_20 m19 ∧ mu_2 z1_20 m19 < mu_2 x1_2 m_2))))))))
set_option maxRecDepth 20000 in
theorem br_215 {d : Nat} {m : Mm}  {Q : Mm → Prop}  (H : P_215 d m  Q) : CV (d + 1) 215 [.ref 284] m Q := by
  unfold P_215 at H
  refine CV_of rfl ?_
  show mm_W d mc_215 0 [some (.ref 284), none] [] (fm m) (XV Q)
  refine f_int 0 rfl rfl ?_
  refine w_st (ls2 := [some (.ref 284), some (iv 0)]) (fun _ => rfl) ?_
  obtain ⟨I_2, mu_2, H0_2, HB_2⟩ := H
  have lp_2 : ∀ (z : Nat) (x1_2 : Int) (m_2 : Mm), mu_2 x1_2 m_2 < z → rg x1_2 → I_2 x1_2 m_2 → mm_W d mc_215 2 [some (.ref 284), some (iv x1_2)] [] (fm m_2) (XV Q) := by
    intro z
    induction z with
    | zero => intro x1_2 m_2 hz; exact absurd hz (Nat.not_lt_zero _)
    | succ z ih_2 =>
      intro x1_2 m_2 hz_2 r_x1_2 hI
      have H := HB_2 x1_2 m_2 r_x1_2 hI
      refine w_st (fun _ => rfl) ?_
      refine f_int 51 rfl rfl ?_
      refine b_ge rfl r_x1_2 (by unfold rg; decide) (fun hq => ?_) (fun hq => ?_)
      · replace H := H.1 hq
        exact f_ret rfl H
      · replace H := H.2 hq
        refine w_st (fun _ => rfl) ?_
        refine g_284_56 rfl ?_
        refine w_st (fun _ => rfl) ?_
        refine w_st (fun _ => rfl) ?_
        refine g_284_57 rfl ?_
        refine w_st (fun _ => rfl) ?_
        refine f_ld ir_323 rfl H.1 ?_
        replace H := H.2
        obtain ⟨m19, e_m19⟩ : ∃ q : Mm, q = wt m_2 322 (Int.toNat x1_2) (rd m_2 323 (Int.toNat x1_2)) := ⟨_, rfl⟩
        refine f_st ir_322 rfl H.1 e_m19 ?_
        replace H := H.2 m19 e_m19
        obtain ⟨z1_20, e_z1_20⟩ : ∃ q : Int, q = wr (x1_2 + 1) := ⟨_, rfl⟩
        have r_z1_20 : rg z1_20 := by rw [e_z1_20]; exact wr_rg _
        replace H := H z1_20 e_z1_20
        refine f_iinc (ls2 := [some (.ref 284), some (iv z1_20)]) 1 rfl rfl rfl e_z1_20 rfl ?_
        refine w_st (fun _ => rfl) ?_
        exact ih_2 z1_20 m19 (Nat.lt_of_lt_of_le H.2 (Nat.le_of_lt_succ hz_2)) r_z1_20 H.1
  exact lp_2 _ 0 m (Nat.lt_succ_self _) (by unfold rg; decide) H0_2
/-- TippedCratesModel.copies()V -/
def P_216 (d : Nat) (m : Mm)  (Q : Mm → Prop) : Prop :=
  (∃ (I_2 : Int → Mm → Prop) (mu_2 : Int → Mm → Nat), I_2 0 m ∧
    ∀ (x1_2 : Int) (m_2 : Mm), rg x1_2 → I_2 x1_2 m_2 →
    ((51 ≤ x1_2 → (((0 : Int) ≤ (rd m_2 284 18) ∧ (rd m_2 284 18) < 2) ∧ (∀ m36 : Mm, m36 = wt m_2 284 58 (rd m_2 306 (Int.toNat (rd m_2 284 18))) → Q m36))) ∧
        (¬ 51 ≤ x1_2 → (((0 : Int) ≤ x1_2 ∧ x1_2 < 51) ∧ (((0 : Int) ≤ x1_2 ∧ x1_2 < 51) ∧ (∀ m19 : Mm, m19 = wt m_2 323 (Int.toNat x1_2) (rd m_2 322 (Int.toNat x1_2)) → (∀ z1_20 : Int, z1_20 = wr (x1_2 + 1) → (I_2 z1_20 m19 ∧ mu_2 z1_20 m19 < mu_2 x1_2 m_2))))))))
set_option maxRecDepth 20000 in
theorem br_216 {d : Nat} {m : Mm}  {Q : Mm → Prop}  (H : P_216 d m  Q) : CV (d + 1) 216 [.ref 284] m Q := by
  unfold P_216 at H
  refine CV_of rfl ?_
  show mm_W d mc_216 0 [some (.ref 284), none] [] (fm m) (XV Q)
  refine f_int 0 rfl rfl ?_
  refine w_st (ls2 := [some (.ref 284), some (iv 0)]) (fun _ => rfl) ?_
  obtain ⟨I_2, mu_2, H0_2, HB_2⟩ := H
  have lp_2 : ∀ (z : Nat) (x1_2 : Int) (m_2 : Mm), mu_2 x1_2 m_2 < z → rg x1_2 → I_2 x1_2 m_2 → mm_W d mc_216 2 [some (.ref 284), some (iv x1_2)] [] (fm m_2) (XV Q) := by
    intro z
    induction z with
    | zero => intro x1_2 m_2 hz; exact absurd hz (Nat.not_lt_zero _)
    | succ z ih_2 =>
      intro x1_2 m_2 hz_2 r_x1_2 hI
      have H := HB_2 x1_2 m_2 r_x1_2 hI
      refine w_st (fun _ => rfl) ?_
      refine f_int 51 rfl rfl ?_
      refine b_ge rfl r_x1_2 (by unfold rg; decide) (fun hq => ?_) (fun hq => ?_)
      · replace H := H.1 hq
        refine w_st (fun _ => rfl) ?_
        refine w_st (fun _ => rfl) ?_
        refine g_284_35 rfl ?_
        refine w_st (fun _ => rfl) ?_
        refine g_284_18 rfl ?_
        refine f_ld ir_306 rfl H.1 ?_
        replace H := H.2
        obtain ⟨m36, e_m36⟩ : ∃ q : Mm, q = wt m_2 284 58 (rd m_2 306 (Int.toNat (rd m_2 284 18))) := ⟨_, rfl⟩
        replace H := H m36 e_m36
        refine p_284_58 rfl e_m36 ?_
        exact f_ret rfl H
      · replace H := H.2 hq
        refine w_st (fun _ => rfl) ?_
        refine g_284_57 rfl ?_
        refine w_st (fun _ => rfl) ?_
        refine w_st (fun _ => rfl) ?_
        refine g_284_56 rfl ?_
        refine w_st (fun _ => rfl) ?_
        refine f_ld ir_322 rfl H.1 ?_
        replace H := H.2
        obtain ⟨m19, e_m19⟩ : ∃ q : Mm, q = wt m_2 323 (Int.toNat x1_2) (rd m_2 322 (Int.toNat x1_2)) := ⟨_, rfl⟩
        refine f_st ir_323 rfl H.1 e_m19 ?_
        replace H := H.2 m19 e_m19
        obtain ⟨z1_20, e_z1_20⟩ : ∃ q : Int, q = wr (x1_2 + 1) := ⟨_, rfl⟩
        have r_z1_20 : rg z1_20 := by rw [e_z1_20]; exact wr_rg _
        replace H := H z1_20 e_z1_20
        refine f_iinc (ls2 := [some (.ref 284), some (iv z1_20)]) 1 rfl rfl rfl e_z1_20 rfl ?_
        refine w_st (fun _ => rfl) ?_
        exact ih_2 z1_20 m19 (Nat.lt_of_lt_of_le H.2 (Nat.le_of_lt_succ hz_2)) r_z1_20 H.1
  exact lp_2 _ 0 m (Nat.lt_succ_self _) (by unfold rg; decide) H0_2
/-- TippedCratesModel.mixed(II)I -/
def P_217 (d : Nat) (m : Mm) (x0 : Int) (x1 : Int) (Q : Mm → Int → Prop) : Prop :=
  (∀ z2_11 : Int, z2_11 = (wr ((wr ((xoI x0 x1) * 1103515245)) + 12345)) → Q m (xoI z2_11 (urI z2_11 15)))
set_option maxRecDepth 20000 in
theorem br_217 {d : Nat} {m : Mm} {x0 : Int} {x1 : Int} {Q : Mm → Int → Prop} (r_x0 : rg x0) (r_x1 : rg x1) (H : P_217 d m x0 x1 Q) : CK (d + 1) 217 [iv x0, iv x1] m Q := by
  unfold P_217 at H
  refine CK_of rfl ?_
  show mm_W d mc_217 0 [some (iv x0), some (iv x1), none] [] (fm m) (XK Q)
  refine w_st (fun _ => rfl) ?_
  refine w_st (fun _ => rfl) ?_
  refine f_xoI rfl ?_
  refine f_int 1103515245 rfl rfl ?_
  refine f_mul rfl ?_
  refine f_int 12345 rfl rfl ?_
  refine f_add rfl ?_
  obtain ⟨z2_11, e_z2_11⟩ : ∃ q : Int, q = (wr ((wr ((xoI x0 x1) * 1103515245)) + 12345)) := ⟨_, rfl⟩
  have r_z2_11 : rg z2_11 := by rw [e_z2_11]; exact (wr_rg _)
  replace H := H z2_11 e_z2_11
  refine f_nm e_z2_11 ?_
  refine w_st (ls2 := [some (iv x0), some (iv x1), some (iv z2_11)]) (fun _ => rfl) ?_
  refine w_st (fun _ => rfl) ?_
  refine w_st (fun _ => rfl) ?_
  refine f_int 15 rfl rfl ?_
  refine f_urI rfl ?_
  refine f_xoI rfl ?_
  exact f_iret rfl (io_rg _ _ _) H
/-- TippedCratesModel.lotOf(II)I -/
def P_218 (d : Nat) (m : Mm) (x1 : Int) (x2 : Int) (Q : Mm → Int → Prop) : Prop :=
  CK d 217 [iv (rd m 284 58), iv 215] m (fun m7 v7 =>
    CK d 217 [iv v7, iv x1] m7 (fun m11 v11 =>
    (¬ x2 = 0 ∧ Q m11 (rmI (urI v11 1) x2))))
set_option maxRecDepth 20000 in
theorem br_218 {d : Nat} {m : Mm} {x1 : Int} {x2 : Int} {Q : Mm → Int → Prop} (r_x1 : rg x1) (r_x2 : rg x2) (H : P_218 d m x1 x2 Q) : CK (d + 1) 218 [.ref 284, iv x1, iv x2] m Q := by
  unfold P_218 at H
  refine CK_of rfl ?_
  show mm_W d mc_218 0 [some (.ref 284), some (iv x1), some (iv x2)] [] (fm m) (XK Q)
  refine w_st (fun _ => rfl) ?_
  refine g_284_58 rfl ?_
  refine f_int 215 rfl rfl ?_
  refine k_SK (as := [iv (rd m 284 58), iv 215]) rfl mg_218 rfl rfl rfl H (fun m7 v7 r_v7 H => ?_)
  refine w_st (fun _ => rfl) ?_
  refine k_SK (as := [iv v7, iv x1]) rfl mg_218 rfl rfl rfl H (fun m11 v11 r_v11 H => ?_)
  refine f_int 1 rfl rfl ?_
  refine f_urI rfl ?_
  refine w_st (fun _ => rfl) ?_
  refine f_rmI rfl r_x2 H.1 ?_
  replace H := H.2
  exact f_iret rfl (io_rg _ _ _) H
/-- TippedCratesModel.toX(II)I -/
def P_219 (d : Nat) (m : Mm) (x1 : Int) (x2 : Int) (Q : Mm → Int → Prop) : Prop :=
  (((0 : Int) ≤ (rd m 284 18) ∧ (rd m 284 18) < 2) ∧ (¬ (rd m 293 (Int.toNat (rd m 284 18))) = 0 ∧ (∃ R_29 : Int → Prop,
    ((¬ x2 = 0 → ((¬ x2 = 2 → R_29 0) ∧
      (x2 = 2 → R_29 (-1)))) ∧
    (x2 = 0 → R_29 1)) ∧
    (∀ (s1_29 : Int) , rg s1_29 → R_29 s1_29 →
    Q m (wr ((rmI x1 (rd m 293 (Int.toNat (rd m 284 18)))) + s1_29))))))
set_option maxRecDepth 20000 in
theorem br_219 {d : Nat} {m : Mm} {x1 : Int} {x2 : Int} {Q : Mm → Int → Prop} (r_x1 : rg x1) (r_x2 : rg x2) (H : P_219 d m x1 x2 Q) : CK (d + 1) 219 [.ref 284, iv x1, iv x2] m Q := by
  unfold P_219 at H
  refine CK_of rfl ?_
  show mm_W d mc_219 0 [some (.ref 284), some (iv x1), some (iv x2)] [] (fm m) (XK Q)
  refine w_st (fun _ => rfl) ?_
  refine w_st (fun _ => rfl) ?_
  refine g_284_22 rfl ?_
  refine w_st (fun _ => rfl) ?_
  refine g_284_18 rfl ?_
  refine f_ld ir_293 rfl H.1 ?_
  replace H := H.2
  refine f_rmI rfl (rd_rg _ _ _) H.1 ?_
  replace H := H.2
  refine w_st (fun _ => rfl) ?_
  obtain ⟨R_29, H, HJ_29⟩ := H
  have tl_29 : ∀ (s1_29 : Int) , rg s1_29 → R_29 s1_29 → mm_W d mc_219 29 [some (.ref 284), some (iv x1), some (iv x2)] [iv s1_29, iv (rmI x1 (rd m 293 (Int.toNat (rd m 284 18))))] (fm m) (XK Q) := by
    intro s1_29 r_s1_29 hR
    have H := HJ_29 s1_29 r_s1_29 hR
    refine f_add rfl ?_
    exact f_iret rfl (wr_rg _) H
  refine z_ne rfl r_x2 (fun hq => ?_) (fun hq => ?_)
  · replace H := H.1 hq
    refine w_st (fun _ => rfl) ?_
    refine f_int 2 rfl rfl ?_
    refine b_ne rfl r_x2 (by unfold rg; decide) (fun hq => ?_) (fun hq => ?_)
    · replace H := H.1 hq
      refine f_int 0 rfl rfl ?_
      exact tl_29 0 (by unfold rg; decide) H
    · replace H := H.2 hq
      refine f_int (-1) rfl rfl ?_
      refine w_st (fun _ => rfl) ?_
      exact tl_29 (-1) (by unfold rg; decide) H
  · replace H := H.2 hq
    refine f_int 1 rfl rfl ?_
    refine w_st (fun _ => rfl) ?_
    exact tl_29 1 (by unfold rg; decide) H
/-- TippedCratesModel.toY(II)I -/
def P_220 (d : Nat) (m : Mm) (x1 : Int) (x2 : Int) (Q : Mm → Int → Prop) : Prop :=
  (((0 : Int) ≤ (rd m 284 18) ∧ (rd m 284 18) < 2) ∧ (¬ (rd m 293 (Int.toNat (rd m 284 18))) = 0 ∧ (∃ R_30 : Int → Prop,
    ((¬ x2 = 1 → ((¬ x2 = 3 → R_30 0) ∧
      (x2 = 3 → R_30 (-1)))) ∧
    (x2 = 1 → R_30 1)) ∧
    (∀ (s1_30 : Int) , rg s1_30 → R_30 s1_30 →
    Q m (wr ((dvI x1 (rd m 293 (Int.toNat (rd m 284 18)))) + s1_30))))))
set_option maxRecDepth 20000 in
theorem br_220 {d : Nat} {m : Mm} {x1 : Int} {x2 : Int} {Q : Mm → Int → Prop} (r_x1 : rg x1) (r_x2 : rg x2) (H : P_220 d m x1 x2 Q) : CK (d + 1) 220 [.ref 284, iv x1, iv x2] m Q := by
  unfold P_220 at H
  refine CK_of rfl ?_
  show mm_W d mc_220 0 [some (.ref 284), some (iv x1), some (iv x2)] [] (fm m) (XK Q)
  refine w_st (fun _ => rfl) ?_
  refine w_st (fun _ => rfl) ?_
  refine g_284_22 rfl ?_
  refine w_st (fun _ => rfl) ?_
  refine g_284_18 rfl ?_
  refine f_ld ir_293 rfl H.1 ?_
  replace H := H.2
  refine f_dvI rfl (rd_rg _ _ _) H.1 ?_
  replace H := H.2
  refine w_st (fun _ => rfl) ?_
  refine f_int 1 rfl rfl ?_
  obtain ⟨R_30, H, HJ_30⟩ := H
  have tl_30 : ∀ (s1_30 : Int) , rg s1_30 → R_30 s1_30 → mm_W d mc_220 30 [some (.ref 284), some (iv x1), some (iv x2)] [iv s1_30, iv (dvI x1 (rd m 293 (Int.toNat (rd m 284 18))))] (fm m) (XK Q) := by
    intro s1_30 r_s1_30 hR
    have H := HJ_30 s1_30 r_s1_30 hR
    refine f_add rfl ?_
    exact f_iret rfl (wr_rg _) H
  refine b_ne rfl r_x2 (by unfold rg; decide) (fun hq => ?_) (fun hq => ?_)
  · replace H := H.1 hq
    refine w_st (fun _ => rfl) ?_
    refine f_int 3 rfl rfl ?_
    refine b_ne rfl r_x2 (by unfold rg; decide) (fun hq => ?_) (fun hq => ?_)
    · replace H := H.1 hq
      refine f_int 0 rfl rfl ?_
      exact tl_30 0 (by unfold rg; decide) H
    · replace H := H.2 hq
      refine f_int (-1) rfl rfl ?_
      refine w_st (fun _ => rfl) ?_
      exact tl_30 (-1) (by unfold rg; decide) H
  · replace H := H.2 hq
    refine f_int 1 rfl rfl ?_
    refine w_st (fun _ => rfl) ?_
    exact tl_30 1 (by unfold rg; decide) H
/-- TippedCratesModel.flagBy(II)I -/
def P_221 (d : Nat) (m : Mm) (x1 : Int) (x2 : Int) (Q : Mm → Int → Prop) : Prop :=
  CK d 219 [.ref 284, iv x1, iv x2] m (fun m3 v3 =>
    CK d 220 [.ref 284, iv x1, iv x2] m3 (fun m10 v10 =>
    (((0 : Int) ≤ (rd m10 284 18) ∧ (rd m10 284 18) < 2) ∧ CK d 206 [iv v3, iv 0, iv (wr ((rd m10 293 (Int.toNat (rd m10 284 18))) - 1))] m10 (fun m28 v28 =>
    (∃ R_72 : Int → Mm → Prop,
    (∃ R_71 : Mm → Prop,
    ((v28 = 0 → R_71 m28) ∧
    (¬ v28 = 0 → (((0 : Int) ≤ (rd m28 284 18) ∧ (rd m28 284 18) < 2) ∧ CK d 206 [iv v10, iv 0, iv (wr ((rd m28 294 (Int.toNat (rd m28 284 18))) - 1))] m28 (fun m48 v48 =>
      ((v48 = 0 → R_71 m48) ∧
      (¬ v48 = 0 → (((0 : Int) ≤ (rd m48 284 18) ∧ (rd m48 284 18) < 2) ∧ R_72 (wr ((wr ((rd m48 293 (Int.toNat (rd m48 284 18))) * v10)) + v3)) m48))))))) ∧
    (∀ (m_71 : Mm), R_71 m_71 →
    R_72 (-1) m_71)) ∧
    (∀ (s0_72 : Int) (m_72 : Mm), rg s0_72 → R_72 s0_72 m_72 →
    Q m_72 s0_72))))))
set_option maxRecDepth 20000 in
theorem br_221 {d : Nat} {m : Mm} {x1 : Int} {x2 : Int} {Q : Mm → Int → Prop} (r_x1 : rg x1) (r_x2 : rg x2) (H : P_221 d m x1 x2 Q) : CK (d + 1) 221 [.ref 284, iv x1, iv x2] m Q := by
  unfold P_221 at H
  refine CK_of rfl ?_
  show mm_W d mc_221 0 [some (.ref 284), some (iv x1), some (iv x2), none, none] [] (fm m) (XK Q)
  refine w_st (fun _ => rfl) ?_
  refine w_st (fun _ => rfl) ?_
  refine w_st (fun _ => rfl) ?_
  refine k_VK (as := [iv x1, iv x2]) rfl mg_221 rfl rfl (by decide) rfl rfl H (fun m3 v3 r_v3 H => ?_)
  refine w_st (ls2 := [some (.ref 284), some (iv x1), some (iv x2), some (iv v3), none]) (fun _ => rfl) ?_
  refine w_st (fun _ => rfl) ?_
  refine w_st (fun _ => rfl) ?_
  refine w_st (fun _ => rfl) ?_
  refine k_VK (as := [iv x1, iv x2]) rfl mg_221 rfl rfl (by decide) rfl rfl H (fun m10 v10 r_v10 H => ?_)
  refine w_st (ls2 := [some (.ref 284), some (iv x1), some (iv x2), some (iv v3), some (iv v10)]) (fun _ => rfl) ?_
  refine w_st (fun _ => rfl) ?_
  refine f_int 0 rfl rfl ?_
  refine w_st (fun _ => rfl) ?_
  refine g_284_22 rfl ?_
  refine w_st (fun _ => rfl) ?_
  refine g_284_18 rfl ?_
  refine f_ld ir_293 rfl H.1 ?_
  replace H := H.2
  refine f_int 1 rfl rfl ?_
  refine f_sub rfl ?_
  refine k_SK (as := [iv v3, iv 0, iv (wr ((rd m10 293 (Int.toNat (rd m10 284 18))) - 1))]) rfl mg_221 rfl rfl rfl H (fun m28 v28 r_v28 H => ?_)
  obtain ⟨R_72, H, HJ_72⟩ := H
  have tl_72 : ∀ (s0_72 : Int) (m_72 : Mm), rg s0_72 → R_72 s0_72 m_72 → mm_W d mc_221 72 [some (.ref 284), some (iv x1), some (iv x2), some (iv v3), some (iv v10)] [iv s0_72] (fm m_72) (XK Q) := by
    intro s0_72 m_72 r_s0_72 hR
    have H := HJ_72 s0_72 m_72 r_s0_72 hR
    exact f_iret rfl r_s0_72 H
  obtain ⟨R_71, H, HJ_71⟩ := H
  have tl_71 : ∀ (m_71 : Mm), R_71 m_71 → mm_W d mc_221 71 [some (.ref 284), some (iv x1), some (iv x2), some (iv v3), some (iv v10)] [] (fm m_71) (XK Q) := by
    intro m_71  hR
    have H := HJ_71 m_71  hR
    refine f_int (-1) rfl rfl ?_
    exact tl_72 (-1) m_71 (by unfold rg; decide) H
  refine z_eq rfl r_v28 (fun hq => ?_) (fun hq => ?_)
  · replace H := H.1 hq
    exact tl_71 m28  H
  · replace H := H.2 hq
    refine w_st (fun _ => rfl) ?_
    refine f_int 0 rfl rfl ?_
    refine w_st (fun _ => rfl) ?_
    refine g_284_23 rfl ?_
    refine w_st (fun _ => rfl) ?_
    refine g_284_18 rfl ?_
    refine f_ld ir_294 rfl H.1 ?_
    replace H := H.2
    refine f_int 1 rfl rfl ?_
    refine f_sub rfl ?_
    refine k_SK (as := [iv v10, iv 0, iv (wr ((rd m28 294 (Int.toNat (rd m28 284 18))) - 1))]) rfl mg_221 rfl rfl rfl H (fun m48 v48 r_v48 H => ?_)
    refine z_eq rfl r_v48 (fun hq => ?_) (fun hq => ?_)
    · replace H := H.1 hq
      exact tl_71 m48  H
    · replace H := H.2 hq
      refine w_st (fun _ => rfl) ?_
      refine g_284_22 rfl ?_
      refine w_st (fun _ => rfl) ?_
      refine g_284_18 rfl ?_
      refine f_ld ir_293 rfl H.1 ?_
      replace H := H.2
      refine w_st (fun _ => rfl) ?_
      refine f_mul rfl ?_
      refine w_st (fun _ => rfl) ?_
      refine f_add rfl ?_
      refine w_st (fun _ => rfl) ?_
      exact tl_72 (wr ((wr ((rd m48 293 (Int.toNat (rd m48 284 18))) * v10)) + v3)) m48 (wr_rg _) H
/-- TippedCratesModel.isTaken(II)Z -/
def P_222 (d : Nat) (m : Mm) (x1 : Int) (x2 : Int) (Q : Mm → Int → Prop) : Prop :=
  (∃ (I_2 : Int → Prop) (mu_2 : Int → Nat), I_2 0 ∧
    ∀ (x3_2 : Int) , rg x3_2 → I_2 x3_2 →
    (((0 : Int) ≤ (rd m 284 18) ∧ (rd m 284 18) < 2) ∧ (((rd m 302 (Int.toNat (rd m 284 18))) ≤ x3_2 → Q m 0) ∧
        (¬ (rd m 302 (Int.toNat (rd m 284 18))) ≤ x3_2 → (∃ R_35 : Prop,
          ((x3_2 = x1 → R_35) ∧
          (¬ x3_2 = x1 → (((0 : Int) ≤ (wr (43 + x3_2)) ∧ (wr (43 + x3_2)) < 51) ∧ ((¬ (rd m 323 (Int.toNat (wr (43 + x3_2)))) = x2 → R_35) ∧
            ((rd m 323 (Int.toNat (wr (43 + x3_2)))) = x2 → Q m 1))))) ∧
          (R_35 →
          (∀ z3_35 : Int, z3_35 = wr (x3_2 + 1) → (I_2 z3_35 ∧ mu_2 z3_35 < mu_2 x3_2))))))))
set_option maxRecDepth 20000 in
theorem br_222 {d : Nat} {m : Mm} {x1 : Int} {x2 : Int} {Q : Mm → Int → Prop} (r_x1 : rg x1) (r_x2 : rg x2) (H : P_222 d m x1 x2 Q) : CK (d + 1) 222 [.ref 284, iv x1, iv x2] m Q := by
  unfold P_222 at H
  refine CK_of rfl ?_
  show mm_W d mc_222 0 [some (.ref 284), some (iv x1), some (iv x2), none] [] (fm m) (XK Q)
  refine f_int 0 rfl rfl ?_
  refine w_st (ls2 := [some (.ref 284), some (iv x1), some (iv x2), some (iv 0)]) (fun _ => rfl) ?_
  obtain ⟨I_2, mu_2, H0_2, HB_2⟩ := H
  have lp_2 : ∀ (z : Nat) (x3_2 : Int) , mu_2 x3_2 < z → rg x3_2 → I_2 x3_2 → mm_W d mc_222 2 [some (.ref 284), some (iv x1), some (iv x2), some (iv x3_2)] [] (fm m) (XK Q) := by
    intro z
    induction z with
    | zero => intro x3_2 hz; exact absurd hz (Nat.not_lt_zero _)
    | succ z ih_2 =>
      intro x3_2 hz_2 r_x3_2 hI
      have H := HB_2 x3_2 r_x3_2 hI
      refine w_st (fun _ => rfl) ?_
      refine w_st (fun _ => rfl) ?_
      refine g_284_31 rfl ?_
      refine w_st (fun _ => rfl) ?_
      refine g_284_18 rfl ?_
      refine f_ld ir_302 rfl H.1 ?_
      replace H := H.2
      refine b_ge rfl r_x3_2 (rd_rg _ _ _) (fun hq => ?_) (fun hq => ?_)
      · replace H := H.1 hq
        refine f_int 0 rfl rfl ?_
        exact f_zret rfl (by unfold rg; decide) (Or.inl rfl) H
      · replace H := H.2 hq
        refine w_st (fun _ => rfl) ?_
        refine w_st (fun _ => rfl) ?_
        obtain ⟨R_35, H, HJ_35⟩ := H
        have tl_35 : R_35 → mm_W d mc_222 35 [some (.ref 284), some (iv x1), some (iv x2), some (iv x3_2)] [] (fm m) (XK Q) := by
          intro   hR
          have H := HJ_35   hR
          obtain ⟨z3_35, e_z3_35⟩ : ∃ q : Int, q = wr (x3_2 + 1) := ⟨_, rfl⟩
          have r_z3_35 : rg z3_35 := by rw [e_z3_35]; exact wr_rg _
          replace H := H z3_35 e_z3_35
          refine f_iinc (ls2 := [some (.ref 284), some (iv x1), some (iv x2), some (iv z3_35)]) 1 rfl rfl rfl e_z3_35 rfl ?_
          refine w_st (fun _ => rfl) ?_
          exact ih_2 z3_35 (Nat.lt_of_lt_of_le H.2 (Nat.le_of_lt_succ hz_2)) r_z3_35 H.1
        refine b_eq rfl r_x3_2 r_x1 (fun hq => ?_) (fun hq => ?_)
        · replace H := H.1 hq
          exact tl_35   H
        · replace H := H.2 hq
          refine w_st (fun _ => rfl) ?_
          refine g_284_57 rfl ?_
          refine f_int 43 rfl rfl ?_
          refine w_st (fun _ => rfl) ?_
          refine f_add rfl ?_
          refine f_ld ir_323 rfl H.1 ?_
          replace H := H.2
          refine w_st (fun _ => rfl) ?_
          refine b_ne rfl (rd_rg _ _ _) r_x2 (fun hq => ?_) (fun hq => ?_)
          · replace H := H.1 hq
            exact tl_35   H
          · replace H := H.2 hq
            refine f_int 1 rfl rfl ?_
            exact f_zret rfl (by unfold rg; decide) (Or.inr rfl) H
  exact lp_2 _ 0 (Nat.lt_succ_self _) (by unfold rg; decide) H0_2
/-- TippedCratesModel.canFrom(III)Z -/
def P_223 (d : Nat) (m : Mm) (x1 : Int) (x2 : Int) (x3 : Int) (Q : Mm → Int → Prop) : Prop :=
  CK d 221 [.ref 284, iv x2, iv x3] m (fun m3 v3 =>
    (∃ R_37 : Int → Mm → Prop,
    (∃ R_36 : Mm → Prop,
    ((v3 < 0 → R_36 m3) ∧
    (¬ v3 < 0 → CK d 213 [.ref 284, iv v3] m3 (fun m16 v16 =>
      ((¬ v16 = 0 → R_36 m16) ∧
      (v16 = 0 → CK d 222 [.ref 284, iv x1, iv v3] m16 (fun m26 v26 =>
        ((¬ v26 = 0 → R_36 m26) ∧
        (v26 = 0 → R_37 1 m26)))))))) ∧
    (∀ (m_36 : Mm), R_36 m_36 →
    R_37 0 m_36)) ∧
    (∀ (s0_37 : Int) (m_37 : Mm), rg s0_37 → R_37 s0_37 m_37 →
    ((s0_37 = 0 ∨ s0_37 = 1) ∧ Q m_37 s0_37))))
set_option maxRecDepth 20000 in
theorem br_223 {d : Nat} {m : Mm} {x1 : Int} {x2 : Int} {x3 : Int} {Q : Mm → Int → Prop} (r_x1 : rg x1) (r_x2 : rg x2) (r_x3 : rg x3) (H : P_223 d m x1 x2 x3 Q) : CK (d + 1) 223 [.ref 284, iv x1, iv x2, iv x3] m Q := by
  unfold P_223 at H
  refine CK_of rfl ?_
  show mm_W d mc_223 0 [some (.ref 284), some (iv x1), some (iv x2), some (iv x3), none] [] (fm m) (XK Q)
  refine w_st (fun _ => rfl) ?_
  refine w_st (fun _ => rfl) ?_
  refine w_st (fun _ => rfl) ?_
  refine k_VK (as := [iv x2, iv x3]) rfl mg_223 rfl rfl (by decide) rfl rfl H (fun m3 v3 r_v3 H => ?_)
  refine w_st (ls2 := [some (.ref 284), some (iv x1), some (iv x2), some (iv x3), some (iv v3)]) (fun _ => rfl) ?_
  refine w_st (fun _ => rfl) ?_
  obtain ⟨R_37, H, HJ_37⟩ := H
  have tl_37 : ∀ (s0_37 : Int) (m_37 : Mm), rg s0_37 → R_37 s0_37 m_37 → mm_W d mc_223 37 [some (.ref 284), some (iv x1), some (iv x2), some (iv x3), some (iv v3)] [iv s0_37] (fm m_37) (XK Q) := by
    intro s0_37 m_37 r_s0_37 hR
    have H := HJ_37 s0_37 m_37 r_s0_37 hR
    exact f_zret rfl r_s0_37 H.1 H.2
  obtain ⟨R_36, H, HJ_36⟩ := H
  have tl_36 : ∀ (m_36 : Mm), R_36 m_36 → mm_W d mc_223 36 [some (.ref 284), some (iv x1), some (iv x2), some (iv x3), some (iv v3)] [] (fm m_36) (XK Q) := by
    intro m_36  hR
    have H := HJ_36 m_36  hR
    refine f_int 0 rfl rfl ?_
    exact tl_37 0 m_36 (by unfold rg; decide) H
  refine z_lt rfl r_v3 (fun hq => ?_) (fun hq => ?_)
  · replace H := H.1 hq
    exact tl_36 m3  H
  · replace H := H.2 hq
    refine w_st (fun _ => rfl) ?_
    refine w_st (fun _ => rfl) ?_
    refine k_VK (as := [iv v3]) rfl mg_223 rfl rfl (by decide) rfl rfl H (fun m16 v16 r_v16 H => ?_)
    refine z_ne rfl r_v16 (fun hq => ?_) (fun hq => ?_)
    · replace H := H.1 hq
      exact tl_36 m16  H
    · replace H := H.2 hq
      refine w_st (fun _ => rfl) ?_
      refine w_st (fun _ => rfl) ?_
      refine w_st (fun _ => rfl) ?_
      refine k_VK (as := [iv x1, iv v3]) rfl mg_223 rfl rfl (by decide) rfl rfl H (fun m26 v26 r_v26 H => ?_)
      refine z_ne rfl r_v26 (fun hq => ?_) (fun hq => ?_)
      · replace H := H.1 hq
        exact tl_36 m26  H
      · replace H := H.2 hq
        refine f_int 1 rfl rfl ?_
        refine w_st (fun _ => rfl) ?_
        exact tl_37 1 m26 (by unfold rg; decide) H
/-- TippedCratesModel.canTip(II)Z -/
def P_224 (d : Nat) (m : Mm) (x1 : Int) (x2 : Int) (Q : Mm → Int → Prop) : Prop :=
  (((0 : Int) ≤ (wr (43 + x1)) ∧ (wr (43 + x1)) < 51) ∧ CK d 223 [.ref 284, iv x1, iv (rd m 323 (Int.toNat (wr (43 + x1)))), iv x2] m (fun m12 v12 =>
    ((v12 = 0 ∨ v12 = 1) ∧ Q m12 v12)))
set_option maxRecDepth 20000 in
theorem br_224 {d : Nat} {m : Mm} {x1 : Int} {x2 : Int} {Q : Mm → Int → Prop} (r_x1 : rg x1) (r_x2 : rg x2) (H : P_224 d m x1 x2 Q) : CK (d + 1) 224 [.ref 284, iv x1, iv x2] m Q := by
  unfold P_224 at H
  refine CK_of rfl ?_
  show mm_W d mc_224 0 [some (.ref 284), some (iv x1), some (iv x2)] [] (fm m) (XK Q)
  refine w_st (fun _ => rfl) ?_
  refine w_st (fun _ => rfl) ?_
  refine w_st (fun _ => rfl) ?_
  refine g_284_57 rfl ?_
  refine f_int 43 rfl rfl ?_
  refine w_st (fun _ => rfl) ?_
  refine f_add rfl ?_
  refine f_ld ir_323 rfl H.1 ?_
  replace H := H.2
  refine w_st (fun _ => rfl) ?_
  refine k_VK (as := [iv x1, iv (rd m 323 (Int.toNat (wr (43 + x1)))), iv x2]) rfl mg_224 rfl rfl (by decide) rfl rfl H (fun m12 v12 r_v12 H => ?_)
  exact f_zret rfl r_v12 H.1 H.2
/-- TippedCratesModel.lawTells(II)I -/
def P_225 (d : Nat) (m : Mm) (x1 : Int) (x2 : Int) (Q : Mm → Int → Prop) : Prop :=
  (∀ z3_8 : Int, z3_8 = (wr ((wr (4 * (rd m 284 18))) + x1)) → (((0 : Int) ≤ z3_8 ∧ z3_8 < 8) ∧ (((0 : Int) ≤ z3_8 ∧ z3_8 < 8) ∧ ((¬ (rd m 307 (Int.toNat z3_8)) = (rd m 308 (Int.toNat z3_8)) → (∀ m28 : Mm, m28 = wt m 284 51 0 → (((0 : Int) ≤ z3_8 ∧ z3_8 < 8) ∧ (∀ z4_37 : Int, z4_37 = (rd m28 307 (Int.toNat z3_8)) → (∃ (I_39 : Int → Mm → Prop) (mu_39 : Int → Mm → Nat), I_39 z4_37 m28 ∧
      ∀ (x4_39 : Int) (m_39 : Mm), rg x4_39 → I_39 x4_39 m_39 →
      (((0 : Int) ≤ z3_8 ∧ z3_8 < 8) ∧ (((rd m_39 308 (Int.toNat z3_8)) ≤ x4_39 → Q m_39 0) ∧
          (¬ (rd m_39 308 (Int.toNat z3_8)) ≤ x4_39 → (((0 : Int) ≤ x4_39 ∧ x4_39 < 260) ∧ (∃ R_119 : Mm → Prop,
            (((rd m_39 309 (Int.toNat x4_39)) = 0 → R_119 m_39) ∧
            (¬ (rd m_39 309 (Int.toNat x4_39)) = 0 → (((0 : Int) ≤ x4_39 ∧ x4_39 < 260) ∧ (((0 : Int) ≤ x4_39 ∧ x4_39 < 260) ∧ CK d 201 [.ref 284, iv (rd m_39 310 (Int.toNat x4_39)), iv (rd m_39 311 (Int.toNat x4_39))] m_39 (fun m75 v75 =>
              (((0 : Int) ≤ x4_39 ∧ x4_39 < 260) ∧ (((0 : Int) ≤ x4_39 ∧ x4_39 < 260) ∧ CK d 201 [.ref 284, iv (rd m75 311 (Int.toNat x4_39)), iv (rd m75 312 (Int.toNat x4_39))] m75 (fun m95 v95 =>
              (((rd m95 284 51) = 0 → ((v75 < v95 → R_119 m95) ∧
                (¬ v75 < v95 → (∀ z4_153 : Int, z4_153 = wr (x4_39 + 1) → (I_39 z4_153 m95 ∧ mu_39 z4_153 m95 < mu_39 x4_39 m_39))))) ∧
              (¬ (rd m95 284 51) = 0 → Q m95 0)))))))))) ∧
            (∀ (m_119 : Mm), R_119 m_119 →
            (((0 : Int) ≤ x4_39 ∧ x4_39 < 260) ∧ (((0 : Int) ≤ x4_39 ∧ x4_39 < 260) ∧ CK d 201 [.ref 284, iv (rd m_119 312 (Int.toNat x4_39)), iv (rd m_119 313 (Int.toNat x4_39))] m_119 (fun m134 v134 =>
              (∃ R_152 : Int → Prop,
              (((rd m134 284 51) = 0 → R_152 v134) ∧
              (¬ (rd m134 284 51) = 0 → R_152 0)) ∧
              (∀ (s0_152 : Int) , rg s0_152 → R_152 s0_152 →
              Q m134 s0_152)))))))))))))))) ∧
    ((rd m 307 (Int.toNat z3_8)) = (rd m 308 (Int.toNat z3_8)) → Q m x2)))))
set_option maxRecDepth 20000 in
theorem br_225 {d : Nat} {m : Mm} {x1 : Int} {x2 : Int} {Q : Mm → Int → Prop} (r_x1 : rg x1) (r_x2 : rg x2) (H : P_225 d m x1 x2 Q) : CK (d + 1) 225 [.ref 284, iv x1, iv x2] m Q := by
  unfold P_225 at H
  refine CK_of rfl ?_
  show mm_W d mc_225 0 [some (.ref 284), some (iv x1), some (iv x2), none, none, none, none] [] (fm m) (XK Q)
  refine f_int 4 rfl rfl ?_
  refine w_st (fun _ => rfl) ?_
  refine g_284_18 rfl ?_
  refine f_mul rfl ?_
  refine w_st (fun _ => rfl) ?_
  refine f_add rfl ?_
  obtain ⟨z3_8, e_z3_8⟩ : ∃ q : Int, q = (wr ((wr (4 * (rd m 284 18))) + x1)) := ⟨_, rfl⟩
  have r_z3_8 : rg z3_8 := by rw [e_z3_8]; exact (wr_rg _)
  replace H := H z3_8 e_z3_8
  refine f_nm e_z3_8 ?_
  refine w_st (ls2 := [some (.ref 284), some (iv x1), some (iv x2), some (iv z3_8), none, none, none]) (fun _ => rfl) ?_
  refine w_st (fun _ => rfl) ?_
  refine g_284_36 rfl ?_
  refine w_st (fun _ => rfl) ?_
  refine f_ld ir_307 rfl H.1 ?_
  replace H := H.2
  refine w_st (fun _ => rfl) ?_
  refine g_284_37 rfl ?_
  refine w_st (fun _ => rfl) ?_
  refine f_ld ir_308 rfl H.1 ?_
  replace H := H.2
  refine b_ne rfl (rd_rg _ _ _) (rd_rg _ _ _) (fun hq => ?_) (fun hq => ?_)
  · replace H := H.1 hq
    refine w_st (fun _ => rfl) ?_
    refine f_int 0 rfl rfl ?_
    obtain ⟨m28, e_m28⟩ : ∃ q : Mm, q = wt m 284 51 0 := ⟨_, rfl⟩
    replace H := H m28 e_m28
    refine p_284_51 rfl (Or.inl rfl) e_m28 ?_
    refine w_st (fun _ => rfl) ?_
    refine g_284_36 rfl ?_
    refine w_st (fun _ => rfl) ?_
    refine f_ld ir_307 rfl H.1 ?_
    replace H := H.2
    obtain ⟨z4_37, e_z4_37⟩ : ∃ q : Int, q = (rd m28 307 (Int.toNat z3_8)) := ⟨_, rfl⟩
    have r_z4_37 : rg z4_37 := by rw [e_z4_37]; exact (rd_rg _ _ _)
    replace H := H z4_37 e_z4_37
    refine f_nm e_z4_37 ?_
    refine w_st (ls2 := [some (.ref 284), some (iv x1), some (iv x2), some (iv z3_8), some (iv z4_37), none, none]) (fun _ => rfl) ?_
    obtain ⟨I_39, mu_39, H0_39, HB_39⟩ := H
    have lp_39 : ∀ (z : Nat) (x4_39 : Int) (m_39 : Mm) (g5_39 g6_39 : Option Value), mu_39 x4_39 m_39 < z → rg x4_39 → I_39 x4_39 m_39 → mm_W d mc_225 39 [some (.ref 284), some (iv x1), some (iv x2), some (iv z3_8), some (iv x4_39), g5_39, g6_39] [] (fm m_39) (XK Q) := by
      intro z
      induction z with
      | zero => intro x4_39 m_39 g5_39 g6_39 hz; exact absurd hz (Nat.not_lt_zero _)
      | succ z ih_39 =>
        intro x4_39 m_39 g5_39 g6_39 hz_39 r_x4_39 hI
        have H := HB_39 x4_39 m_39 r_x4_39 hI
        refine w_st (fun _ => rfl) ?_
        refine w_st (fun _ => rfl) ?_
        refine g_284_37 rfl ?_
        refine w_st (fun _ => rfl) ?_
        refine f_ld ir_308 rfl H.1 ?_
        replace H := H.2
        refine b_ge rfl r_x4_39 (rd_rg _ _ _) (fun hq => ?_) (fun hq => ?_)
        · replace H := H.1 hq
          refine f_int 0 rfl rfl ?_
          exact f_iret rfl (by unfold rg; decide) H
        · replace H := H.2 hq
          refine w_st (fun _ => rfl) ?_
          refine g_284_39 rfl ?_
          refine w_st (fun _ => rfl) ?_
          refine f_ldz (n := 260) (by decide) rfl (by decide) rfl H.1 ?_
          replace H := H.2
          obtain ⟨R_119, H, HJ_119⟩ := H
          have tl_119 : ∀ (m_119 : Mm) (g5_119 g6_119 : Option Value), R_119 m_119 → mm_W d mc_225 119 [some (.ref 284), some (iv x1), some (iv x2), some (iv z3_8), some (iv x4_39), g5_119, g6_119] [] (fm m_119) (XK Q) := by
            intro m_119 g5_119 g6_119  hR
            have H := HJ_119 m_119  hR
            refine w_st (fun _ => rfl) ?_
            refine w_st (fun _ => rfl) ?_
            refine g_284_42 rfl ?_
            refine w_st (fun _ => rfl) ?_
            refine f_ld ir_312 rfl H.1 ?_
            replace H := H.2
            refine w_st (fun _ => rfl) ?_
            refine g_284_43 rfl ?_
            refine w_st (fun _ => rfl) ?_
            refine f_ld ir_313 rfl H.1 ?_
            replace H := H.2
            refine k_VK (as := [iv (rd m_119 312 (Int.toNat x4_39)), iv (rd m_119 313 (Int.toNat x4_39))]) rfl mg_225 rfl rfl (by decide) rfl rfl H (fun m134 v134 r_v134 H => ?_)
            refine w_st (ls2 := [some (.ref 284), some (iv x1), some (iv x2), some (iv z3_8), some (iv x4_39), some (iv v134), g6_119]) (fun _ => rfl) ?_
            refine w_st (fun _ => rfl) ?_
            refine g_284_51 rfl ?_
            obtain ⟨R_152, H, HJ_152⟩ := H
            have tl_152 : ∀ (s0_152 : Int) , rg s0_152 → R_152 s0_152 → mm_W d mc_225 152 [some (.ref 284), some (iv x1), some (iv x2), some (iv z3_8), some (iv x4_39), some (iv v134), g6_119] [iv s0_152] (fm m134) (XK Q) := by
              intro s0_152 r_s0_152 hR
              have H := HJ_152 s0_152 r_s0_152 hR
              exact f_iret rfl r_s0_152 H
            refine z_eq rfl (rd_rg _ _ _) (fun hq => ?_) (fun hq => ?_)
            · replace H := H.1 hq
              refine w_st (fun _ => rfl) ?_
              exact tl_152 v134 r_v134 H
            · replace H := H.2 hq
              refine f_int 0 rfl rfl ?_
              refine w_st (fun _ => rfl) ?_
              exact tl_152 0 (by unfold rg; decide) H
          refine z_eq rfl (rd_rg _ _ _) (fun hq => ?_) (fun hq => ?_)
          · replace H := H.1 hq
            exact tl_119 m_39 g5_39 g6_39  H
          · replace H := H.2 hq
            refine w_st (fun _ => rfl) ?_
            refine w_st (fun _ => rfl) ?_
            refine g_284_40 rfl ?_
            refine w_st (fun _ => rfl) ?_
            refine f_ld ir_310 rfl H.1 ?_
            replace H := H.2
            refine w_st (fun _ => rfl) ?_
            refine g_284_41 rfl ?_
            refine w_st (fun _ => rfl) ?_
            refine f_ld ir_311 rfl H.1 ?_
            replace H := H.2
            refine k_VK (as := [iv (rd m_39 310 (Int.toNat x4_39)), iv (rd m_39 311 (Int.toNat x4_39))]) rfl mg_225 rfl rfl (by decide) rfl rfl H (fun m75 v75 r_v75 H => ?_)
            refine w_st (ls2 := [some (.ref 284), some (iv x1), some (iv x2), some (iv z3_8), some (iv x4_39), some (iv v75), g6_39]) (fun _ => rfl) ?_
            refine w_st (fun _ => rfl) ?_
            refine w_st (fun _ => rfl) ?_
            refine g_284_41 rfl ?_
            refine w_st (fun _ => rfl) ?_
            refine f_ld ir_311 rfl H.1 ?_
            replace H := H.2
            refine w_st (fun _ => rfl) ?_
            refine g_284_42 rfl ?_
            refine w_st (fun _ => rfl) ?_
            refine f_ld ir_312 rfl H.1 ?_
            replace H := H.2
            refine k_VK (as := [iv (rd m75 311 (Int.toNat x4_39)), iv (rd m75 312 (Int.toNat x4_39))]) rfl mg_225 rfl rfl (by decide) rfl rfl H (fun m95 v95 r_v95 H => ?_)
            refine w_st (ls2 := [some (.ref 284), some (iv x1), some (iv x2), some (iv z3_8), some (iv x4_39), some (iv v75), some (iv v95)]) (fun _ => rfl) ?_
            refine w_st (fun _ => rfl) ?_
            refine g_284_51 rfl ?_
            refine z_eq rfl (rd_rg _ _ _) (fun hq => ?_) (fun hq => ?_)
            · replace H := H.1 hq
              refine w_st (fun _ => rfl) ?_
              refine w_st (fun _ => rfl) ?_
              refine b_lt rfl r_v75 r_v95 (fun hq => ?_) (fun hq => ?_)
              · replace H := H.1 hq
                exact tl_119 m95 (some (iv v75)) (some (iv v95))  H
              · replace H := H.2 hq
                refine w_st (fun _ => rfl) ?_
                obtain ⟨z4_153, e_z4_153⟩ : ∃ q : Int, q = wr (x4_39 + 1) := ⟨_, rfl⟩
                have r_z4_153 : rg z4_153 := by rw [e_z4_153]; exact wr_rg _
                replace H := H z4_153 e_z4_153
                refine f_iinc (ls2 := [some (.ref 284), some (iv x1), some (iv x2), some (iv z3_8), some (iv z4_153), some (iv v75), some (iv v95)]) 1 rfl rfl rfl e_z4_153 rfl ?_
                refine w_st (fun _ => rfl) ?_
                exact ih_39 z4_153 m95 (some (iv v75)) (some (iv v95)) (Nat.lt_of_lt_of_le H.2 (Nat.le_of_lt_succ hz_39)) r_z4_153 H.1
            · replace H := H.2 hq
              refine f_int 0 rfl rfl ?_
              exact f_iret rfl (by unfold rg; decide) H
    exact lp_39 _ z4_37 m28 none none (Nat.lt_succ_self _) r_z4_37 H0_39
  · replace H := H.2 hq
    refine w_st (fun _ => rfl) ?_
    exact f_iret rfl r_x2 H
