/-- TippedCrates$Reader.readLaw(I)V -/
def P_46 (d : Nat) (m : Mm) (x1 : Int) (Q : Mm → Prop) : Prop :=
  CK d 166 [iv x1, iv 4, iv 7] m (fun m4 v4 =>
    ((¬ v4 = 0 → CK d 39 [.ref 19, iv x1] m4 (fun m18 v18 =>
      CK d 39 [.ref 19, iv 61] m18 (fun m25 v25 =>
      CV d 14 [.ref 20, iv (wr (x1 - 4))] m25 (fun m36 =>
      (∃ (I_41 : Int → Mm → Prop) (mu_41 : Int → Mm → Nat), I_41 0 m36 ∧
      ∀ (x2_41 : Int) (m_41 : Mm), rg x2_41 → I_41 x2_41 m_41 →
      (∃ R_139 : Mm → Prop,
          ((4 ≤ x2_41 → R_139 m_41) ∧
          (¬ 4 ≤ x2_41 → ((¬ (rd m_41 19 5) = 0 → R_139 m_41) ∧
            ((rd m_41 19 5) = 0 → CK d 36 [.ref 19] m_41 (fun m54 v54 =>
              ((¬ v54 = 9 → R_139 m54) ∧
              (v54 = 9 → CK d 39 [.ref 19, iv 9] m54 (fun m65 v65 =>
                CV d 47 [.ref 19, iv 0] m65 (fun m71 =>
                CK d 39 [.ref 19, iv 60] m71 (fun m77 v77 =>
                CV d 47 [.ref 19, iv 0] m77 (fun m83 =>
                CK d 15 [.ref 20, iv 3, iv 0] m83 (fun m92 v92 =>
                CK d 39 [.ref 19, iv 10] m92 (fun m99 v99 =>
                CV d 47 [.ref 19, iv 0] m99 (fun m105 =>
                CK d 15 [.ref 20, iv 2, iv 0] m105 (fun m114 v114 =>
                CV d 16 [.ref 20, iv v92] m114 (fun m123 =>
                CK d 39 [.ref 19, iv 11] m123 (fun m129 v129 =>
                (∀ z2_133 : Int, z2_133 = wr (x2_41 + 1) → (I_41 z2_133 m129 ∧ mu_41 z2_133 m129 < mu_41 x2_41 m_41))))))))))))))))))) ∧
          (∀ (m_139 : Mm), R_139 m_139 →
          CK d 36 [.ref 19] m_139 (fun m140 v140 =>
            (∃ R_153 : Mm → Prop,
            ((¬ v140 = 9 → R_153 m140) ∧
            (v140 = 9 → CV d 37 [.ref 19, iv 2] m140 (fun m150 =>
              R_153 m150))) ∧
            (∀ (m_153 : Mm), R_153 m_153 →
            CV d 47 [.ref 19, iv 0] m_153 (fun m155 =>
              CK d 15 [.ref 20, iv 2, iv 0] m155 (fun m164 v164 =>
              Q m164)))))))))))) ∧
    (v4 = 0 → CV d 37 [.ref 19, iv 1] m4 (fun m12 =>
      Q m12))))
set_option maxRecDepth 20000 in
theorem br_46 {d : Nat} {m : Mm} {x1 : Int} {Q : Mm → Prop} (r_x1 : rg x1) (H : P_46 d m x1 Q) : CV (d + 1) 46 [.ref 19, iv x1] m Q := by
  unfold P_46 at H
  refine CV_of rfl ?_
  show mm_W d mc_46 0 [some (.ref 19), some (iv x1), none, none] [] (fm m) (XV Q)
  refine w_st (fun _ => rfl) ?_
  refine f_int 4 rfl rfl ?_
  refine f_int 7 rfl rfl ?_
  refine k_SK (as := [iv x1, iv 4, iv 7]) rfl mg_46 rfl rfl rfl H (fun m4 v4 r_v4 H => ?_)
  refine z_ne rfl r_v4 (fun hq => ?_) (fun hq => ?_)
  · replace H := H.1 hq
    refine w_st (fun _ => rfl) ?_
    refine w_st (fun _ => rfl) ?_
    refine k_VK (as := [iv x1]) rfl mg_46 rfl rfl (by decide) rfl rfl H (fun m18 v18 r_v18 H => ?_)
    refine w_st (fun _ => rfl) ?_
    refine w_st (fun _ => rfl) ?_
    refine f_int 61 rfl rfl ?_
    refine k_VK (as := [iv 61]) rfl mg_46 rfl rfl (by decide) rfl rfl H (fun m25 v25 r_v25 H => ?_)
    refine w_st (fun _ => rfl) ?_
    refine w_st (fun _ => rfl) ?_
    refine g_19_3 rfl ?_
    refine w_st (fun _ => rfl) ?_
    refine f_int 4 rfl rfl ?_
    refine f_sub rfl ?_
    refine k_VV (as := [iv (wr (x1 - 4))]) rfl mg_46 rfl rfl (lw_l0 lw_20) (lw_ck lw_20 _ _).1 rfl H (fun m36 H => ?_)
    refine f_int 0 rfl rfl ?_
    refine w_st (ls2 := [some (.ref 19), some (iv x1), some (iv 0), none]) (fun _ => rfl) ?_
    obtain ⟨I_41, mu_41, H0_41, HB_41⟩ := H
    have lp_41 : ∀ (z : Nat) (x2_41 : Int) (m_41 : Mm) (g3_41 : Option Value), mu_41 x2_41 m_41 < z → rg x2_41 → I_41 x2_41 m_41 → mm_W d mc_46 41 [some (.ref 19), some (iv x1), some (iv x2_41), g3_41] [] (fm m_41) (XV Q) := by
      intro z
      induction z with
      | zero => intro x2_41 m_41 g3_41 hz; exact absurd hz (Nat.not_lt_zero _)
      | succ z ih_41 =>
        intro x2_41 m_41 g3_41 hz_41 r_x2_41 hI
        have H := HB_41 x2_41 m_41 r_x2_41 hI
        refine w_st (fun _ => rfl) ?_
        refine f_int 4 rfl rfl ?_
        obtain ⟨R_139, H, HJ_139⟩ := H
        have tl_139 : ∀ (m_139 : Mm), R_139 m_139 → mm_W d mc_46 139 [some (.ref 19), some (iv x1), some (iv x2_41), g3_41] [] (fm m_139) (XV Q) := by
          intro m_139  hR
          have H := HJ_139 m_139  hR
          refine w_st (fun _ => rfl) ?_
          refine k_VK (as := []) rfl mg_46 rfl rfl (by decide) rfl rfl H (fun m140 v140 r_v140 H => ?_)
          refine f_int 9 rfl rfl ?_
          obtain ⟨R_153, H, HJ_153⟩ := H
          have tl_153 : ∀ (m_153 : Mm), R_153 m_153 → mm_W d mc_46 153 [some (.ref 19), some (iv x1), some (iv x2_41), g3_41] [] (fm m_153) (XV Q) := by
            intro m_153  hR
            have H := HJ_153 m_153  hR
            refine w_st (fun _ => rfl) ?_
            refine f_int 0 rfl rfl ?_
            refine k_VV (as := [iv 0]) rfl mg_46 rfl rfl (by decide) rfl rfl H (fun m155 H => ?_)
            refine w_st (fun _ => rfl) ?_
            refine g_19_3 rfl ?_
            refine f_int 2 rfl rfl ?_
            refine f_int 0 rfl rfl ?_
            refine k_VK (as := [iv 2, iv 0]) rfl mg_46 rfl rfl (lw_l0 lw_20) (lw_ck lw_20 _ _).1 rfl H (fun m164 v164 r_v164 H => ?_)
            refine w_st (fun _ => rfl) ?_
            exact f_ret rfl H
          refine b_ne rfl r_v140 (by unfold rg; decide) (fun hq => ?_) (fun hq => ?_)
          · replace H := H.1 hq
            exact tl_153 m140  H
          · replace H := H.2 hq
            refine w_st (fun _ => rfl) ?_
            refine f_int 2 rfl rfl ?_
            refine k_VV (as := [iv 2]) rfl mg_46 rfl rfl (by decide) rfl rfl H (fun m150 H => ?_)
            exact tl_153 m150  H
        refine b_ge rfl r_x2_41 (by unfold rg; decide) (fun hq => ?_) (fun hq => ?_)
        · replace H := H.1 hq
          exact tl_139 m_41  H
        · replace H := H.2 hq
          refine w_st (fun _ => rfl) ?_
          refine g_19_5 rfl ?_
          refine z_ne rfl (rd_rg _ _ _) (fun hq => ?_) (fun hq => ?_)
          · replace H := H.1 hq
            exact tl_139 m_41  H
          · replace H := H.2 hq
            refine w_st (fun _ => rfl) ?_
            refine k_VK (as := []) rfl mg_46 rfl rfl (by decide) rfl rfl H (fun m54 v54 r_v54 H => ?_)
            refine f_int 9 rfl rfl ?_
            refine b_ne rfl r_v54 (by unfold rg; decide) (fun hq => ?_) (fun hq => ?_)
            · replace H := H.1 hq
              exact tl_139 m54  H
            · replace H := H.2 hq
              refine w_st (fun _ => rfl) ?_
              refine f_int 9 rfl rfl ?_
              refine k_VK (as := [iv 9]) rfl mg_46 rfl rfl (by decide) rfl rfl H (fun m65 v65 r_v65 H => ?_)
              refine w_st (fun _ => rfl) ?_
              refine w_st (fun _ => rfl) ?_
              refine f_int 0 rfl rfl ?_
              refine k_VV (as := [iv 0]) rfl mg_46 rfl rfl (by decide) rfl rfl H (fun m71 H => ?_)
              refine w_st (fun _ => rfl) ?_
              refine f_int 60 rfl rfl ?_
              refine k_VK (as := [iv 60]) rfl mg_46 rfl rfl (by decide) rfl rfl H (fun m77 v77 r_v77 H => ?_)
              refine w_st (fun _ => rfl) ?_
              refine w_st (fun _ => rfl) ?_
              refine f_int 0 rfl rfl ?_
              refine k_VV (as := [iv 0]) rfl mg_46 rfl rfl (by decide) rfl rfl H (fun m83 H => ?_)
              refine w_st (fun _ => rfl) ?_
              refine g_19_3 rfl ?_
              refine f_int 3 rfl rfl ?_
              refine f_int 0 rfl rfl ?_
              refine k_VK (as := [iv 3, iv 0]) rfl mg_46 rfl rfl (lw_l0 lw_20) (lw_ck lw_20 _ _).1 rfl H (fun m92 v92 r_v92 H => ?_)
              refine w_st (ls2 := [some (.ref 19), some (iv x1), some (iv x2_41), some (iv v92)]) (fun _ => rfl) ?_
              refine w_st (fun _ => rfl) ?_
              refine f_int 10 rfl rfl ?_
              refine k_VK (as := [iv 10]) rfl mg_46 rfl rfl (by decide) rfl rfl H (fun m99 v99 r_v99 H => ?_)
              refine w_st (fun _ => rfl) ?_
              refine w_st (fun _ => rfl) ?_
              refine f_int 0 rfl rfl ?_
              refine k_VV (as := [iv 0]) rfl mg_46 rfl rfl (by decide) rfl rfl H (fun m105 H => ?_)
              refine w_st (fun _ => rfl) ?_
              refine g_19_3 rfl ?_
              refine f_int 2 rfl rfl ?_
              refine f_int 0 rfl rfl ?_
              refine k_VK (as := [iv 2, iv 0]) rfl mg_46 rfl rfl (lw_l0 lw_20) (lw_ck lw_20 _ _).1 rfl H (fun m114 v114 r_v114 H => ?_)
              refine w_st (fun _ => rfl) ?_
              refine w_st (fun _ => rfl) ?_
              refine g_19_3 rfl ?_
              refine w_st (fun _ => rfl) ?_
              refine k_VV (as := [iv v92]) rfl mg_46 rfl rfl (lw_l0 lw_20) (lw_ck lw_20 _ _).1 rfl H (fun m123 H => ?_)
              refine w_st (fun _ => rfl) ?_
              refine f_int 11 rfl rfl ?_
              refine k_VK (as := [iv 11]) rfl mg_46 rfl rfl (by decide) rfl rfl H (fun m129 v129 r_v129 H => ?_)
              refine w_st (fun _ => rfl) ?_
              obtain ⟨z2_133, e_z2_133⟩ : ∃ q : Int, q = wr (x2_41 + 1) := ⟨_, rfl⟩
              have r_z2_133 : rg z2_133 := by rw [e_z2_133]; exact wr_rg _
              replace H := H z2_133 e_z2_133
              refine f_iinc (ls2 := [some (.ref 19), some (iv x1), some (iv z2_133), some (iv v92)]) 1 rfl rfl rfl e_z2_133 rfl ?_
              refine w_st (fun _ => rfl) ?_
              exact ih_41 z2_133 m129 (some (iv v92)) (Nat.lt_of_lt_of_le H.2 (Nat.le_of_lt_succ hz_41)) r_z2_133 H.1
    exact lp_41 _ 0 m36 none (Nat.lt_succ_self _) (by unfold rg; decide) H0_41
  · replace H := H.2 hq
    refine w_st (fun _ => rfl) ?_
    refine f_int 1 rfl rfl ?_
    refine k_VV (as := [iv 1]) rfl mg_46 rfl rfl (by decide) rfl rfl H (fun m12 H => ?_)
    exact f_ret rfl H
/-- TippedCrates$Reader.readSum(I)V -/
def P_47 (d : Nat) (m : Mm) (x1 : Int) (Q : Mm → Prop) : Prop :=
  CV d 48 [.ref 19, iv x1] m (fun m2 =>
    (∃ (I_7 : Int → Mm → Prop) (mu_7 : Int → Mm → Nat), I_7 0 m2 ∧
    ∀ (x2_7 : Int) (m_7 : Mm), rg x2_7 → I_7 x2_7 m_7 →
    (∃ R_77 : Mm → Prop,
        ((400 ≤ x2_7 → R_77 m_7) ∧
        (¬ 400 ≤ x2_7 → ((¬ (rd m_7 19 5) = 0 → R_77 m_7) ∧
          ((rd m_7 19 5) = 0 → CK d 50 [.ref 19, iv 43, iv 45] m_7 (fun m26 v26 =>
            ((v26 = 0 → R_77 m26) ∧
            (¬ v26 = 0 → CK d 36 [.ref 19] m26 (fun m33 v33 =>
              (∃ R_46 : Int → Prop,
              ((¬ v33 = 43 → R_46 5) ∧
              (v33 = 43 → R_46 4)) ∧
              (∀ (s0_46 : Int) , rg s0_46 → R_46 s0_46 →
              CK d 36 [.ref 19] m33 (fun m49 v49 =>
                CK d 39 [.ref 19, iv v49] m49 (fun m52 v52 =>
                CV d 48 [.ref 19, iv x1] m52 (fun m58 =>
                CK d 15 [.ref 20, iv s0_46, iv 0] m58 (fun m67 v67 =>
                (∀ z2_71 : Int, z2_71 = wr (x2_7 + 1) → (I_7 z2_71 m67 ∧ mu_7 z2_71 m67 < mu_7 x2_7 m_7)))))))))))))))) ∧
        (∀ (m_77 : Mm), R_77 m_77 →
        Q m_77))))
set_option maxRecDepth 20000 in
theorem br_47 {d : Nat} {m : Mm} {x1 : Int} {Q : Mm → Prop} (r_x1 : rg x1) (H : P_47 d m x1 Q) : CV (d + 1) 47 [.ref 19, iv x1] m Q := by
  unfold P_47 at H
  refine CV_of rfl ?_
  show mm_W d mc_47 0 [some (.ref 19), some (iv x1), none, none] [] (fm m) (XV Q)
  refine w_st (fun _ => rfl) ?_
  refine w_st (fun _ => rfl) ?_
  refine k_VV (as := [iv x1]) rfl mg_47 rfl rfl (by decide) rfl rfl H (fun m2 H => ?_)
  refine f_int 0 rfl rfl ?_
  refine w_st (ls2 := [some (.ref 19), some (iv x1), some (iv 0), none]) (fun _ => rfl) ?_
  obtain ⟨I_7, mu_7, H0_7, HB_7⟩ := H
  have lp_7 : ∀ (z : Nat) (x2_7 : Int) (m_7 : Mm) (g3_7 : Option Value), mu_7 x2_7 m_7 < z → rg x2_7 → I_7 x2_7 m_7 → mm_W d mc_47 7 [some (.ref 19), some (iv x1), some (iv x2_7), g3_7] [] (fm m_7) (XV Q) := by
    intro z
    induction z with
    | zero => intro x2_7 m_7 g3_7 hz; exact absurd hz (Nat.not_lt_zero _)
    | succ z ih_7 =>
      intro x2_7 m_7 g3_7 hz_7 r_x2_7 hI
      have H := HB_7 x2_7 m_7 r_x2_7 hI
      refine w_st (fun _ => rfl) ?_
      refine f_int 400 rfl rfl ?_
      obtain ⟨R_77, H, HJ_77⟩ := H
      have tl_77 : ∀ (m_77 : Mm), R_77 m_77 → mm_W d mc_47 77 [some (.ref 19), some (iv x1), some (iv x2_7), g3_7] [] (fm m_77) (XV Q) := by
        intro m_77  hR
        have H := HJ_77 m_77  hR
        exact f_ret rfl H
      refine b_ge rfl r_x2_7 (by unfold rg; decide) (fun hq => ?_) (fun hq => ?_)
      · replace H := H.1 hq
        exact tl_77 m_7  H
      · replace H := H.2 hq
        refine w_st (fun _ => rfl) ?_
        refine g_19_5 rfl ?_
        refine z_ne rfl (rd_rg _ _ _) (fun hq => ?_) (fun hq => ?_)
        · replace H := H.1 hq
          exact tl_77 m_7  H
        · replace H := H.2 hq
          refine w_st (fun _ => rfl) ?_
          refine f_int 43 rfl rfl ?_
          refine f_int 45 rfl rfl ?_
          refine k_VK (as := [iv 43, iv 45]) rfl mg_47 rfl rfl (by decide) rfl rfl H (fun m26 v26 r_v26 H => ?_)
          refine z_eq rfl r_v26 (fun hq => ?_) (fun hq => ?_)
          · replace H := H.1 hq
            exact tl_77 m26  H
          · replace H := H.2 hq
            refine w_st (fun _ => rfl) ?_
            refine k_VK (as := []) rfl mg_47 rfl rfl (by decide) rfl rfl H (fun m33 v33 r_v33 H => ?_)
            refine f_int 43 rfl rfl ?_
            obtain ⟨R_46, H, HJ_46⟩ := H
            have tl_46 : ∀ (s0_46 : Int) , rg s0_46 → R_46 s0_46 → mm_W d mc_47 46 [some (.ref 19), some (iv x1), some (iv x2_7), g3_7] [iv s0_46] (fm m33) (XV Q) := by
              intro s0_46 r_s0_46 hR
              have H := HJ_46 s0_46 r_s0_46 hR
              refine w_st (ls2 := [some (.ref 19), some (iv x1), some (iv x2_7), some (iv s0_46)]) (fun _ => rfl) ?_
              refine w_st (fun _ => rfl) ?_
              refine w_st (fun _ => rfl) ?_
              refine k_VK (as := []) rfl mg_47 rfl rfl (by decide) rfl rfl H (fun m49 v49 r_v49 H => ?_)
              refine k_VK (as := [iv v49]) rfl mg_47 rfl rfl (by decide) rfl rfl H (fun m52 v52 r_v52 H => ?_)
              refine w_st (fun _ => rfl) ?_
              refine w_st (fun _ => rfl) ?_
              refine w_st (fun _ => rfl) ?_
              refine k_VV (as := [iv x1]) rfl mg_47 rfl rfl (by decide) rfl rfl H (fun m58 H => ?_)
              refine w_st (fun _ => rfl) ?_
              refine g_19_3 rfl ?_
              refine w_st (fun _ => rfl) ?_
              refine f_int 0 rfl rfl ?_
              refine k_VK (as := [iv s0_46, iv 0]) rfl mg_47 rfl rfl (lw_l0 lw_20) (lw_ck lw_20 _ _).1 rfl H (fun m67 v67 r_v67 H => ?_)
              refine w_st (fun _ => rfl) ?_
              obtain ⟨z2_71, e_z2_71⟩ : ∃ q : Int, q = wr (x2_7 + 1) := ⟨_, rfl⟩
              have r_z2_71 : rg z2_71 := by rw [e_z2_71]; exact wr_rg _
              replace H := H z2_71 e_z2_71
              refine f_iinc (ls2 := [some (.ref 19), some (iv x1), some (iv z2_71), some (iv s0_46)]) 1 rfl rfl rfl e_z2_71 rfl ?_
              refine w_st (fun _ => rfl) ?_
              exact ih_7 z2_71 m67 (some (iv s0_46)) (Nat.lt_of_lt_of_le H.2 (Nat.le_of_lt_succ hz_7)) r_z2_71 H.1
            refine b_ne rfl r_v33 (by unfold rg; decide) (fun hq => ?_) (fun hq => ?_)
            · replace H := H.1 hq
              refine f_int 5 rfl rfl ?_
              exact tl_46 5 (by unfold rg; decide) H
            · replace H := H.2 hq
              refine f_int 4 rfl rfl ?_
              refine w_st (fun _ => rfl) ?_
              exact tl_46 4 (by unfold rg; decide) H
  exact lp_7 _ 0 m2 none (Nat.lt_succ_self _) (by unfold rg; decide) H0_7
/-- TippedCrates$Reader.readProduct(I)V -/
def P_48 (d : Nat) (m : Mm) (x1 : Int) (Q : Mm → Prop) : Prop :=
  CV d 49 [.ref 19, iv x1] m (fun m2 =>
    (∃ (I_7 : Int → Mm → Prop) (mu_7 : Int → Mm → Nat), I_7 0 m2 ∧
    ∀ (x2_7 : Int) (m_7 : Mm), rg x2_7 → I_7 x2_7 m_7 →
    (∃ R_79 : Mm → Prop,
        ((400 ≤ x2_7 → R_79 m_7) ∧
        (¬ 400 ≤ x2_7 → ((¬ (rd m_7 19 5) = 0 → R_79 m_7) ∧
          ((rd m_7 19 5) = 0 → CK d 50 [.ref 19, iv 42, iv 47] m_7 (fun m26 v26 =>
            ((v26 = 0 → R_79 m26) ∧
            (¬ v26 = 0 → CK d 36 [.ref 19] m26 (fun m33 v33 =>
              (∃ R_48 : Int → Prop,
              ((¬ v33 = 42 → R_48 7) ∧
              (v33 = 42 → R_48 6)) ∧
              (∀ (s0_48 : Int) , rg s0_48 → R_48 s0_48 →
              CK d 36 [.ref 19] m33 (fun m51 v51 =>
                CK d 39 [.ref 19, iv v51] m51 (fun m54 v54 =>
                CV d 49 [.ref 19, iv x1] m54 (fun m60 =>
                CK d 15 [.ref 20, iv s0_48, iv 0] m60 (fun m69 v69 =>
                (∀ z2_73 : Int, z2_73 = wr (x2_7 + 1) → (I_7 z2_73 m69 ∧ mu_7 z2_73 m69 < mu_7 x2_7 m_7)))))))))))))))) ∧
        (∀ (m_79 : Mm), R_79 m_79 →
        Q m_79))))
set_option maxRecDepth 20000 in
theorem br_48 {d : Nat} {m : Mm} {x1 : Int} {Q : Mm → Prop} (r_x1 : rg x1) (H : P_48 d m x1 Q) : CV (d + 1) 48 [.ref 19, iv x1] m Q := by
  unfold P_48 at H
  refine CV_of rfl ?_
  show mm_W d mc_48 0 [some (.ref 19), some (iv x1), none, none] [] (fm m) (XV Q)
  refine w_st (fun _ => rfl) ?_
  refine w_st (fun _ => rfl) ?_
  refine k_VV (as := [iv x1]) rfl mg_48 rfl rfl (by decide) rfl rfl H (fun m2 H => ?_)
  refine f_int 0 rfl rfl ?_
  refine w_st (ls2 := [some (.ref 19), some (iv x1), some (iv 0), none]) (fun _ => rfl) ?_
  obtain ⟨I_7, mu_7, H0_7, HB_7⟩ := H
  have lp_7 : ∀ (z : Nat) (x2_7 : Int) (m_7 : Mm) (g3_7 : Option Value), mu_7 x2_7 m_7 < z → rg x2_7 → I_7 x2_7 m_7 → mm_W d mc_48 7 [some (.ref 19), some (iv x1), some (iv x2_7), g3_7] [] (fm m_7) (XV Q) := by
    intro z
    induction z with
    | zero => intro x2_7 m_7 g3_7 hz; exact absurd hz (Nat.not_lt_zero _)
    | succ z ih_7 =>
      intro x2_7 m_7 g3_7 hz_7 r_x2_7 hI
      have H := HB_7 x2_7 m_7 r_x2_7 hI
      refine w_st (fun _ => rfl) ?_
      refine f_int 400 rfl rfl ?_
      obtain ⟨R_79, H, HJ_79⟩ := H
      have tl_79 : ∀ (m_79 : Mm), R_79 m_79 → mm_W d mc_48 79 [some (.ref 19), some (iv x1), some (iv x2_7), g3_7] [] (fm m_79) (XV Q) := by
        intro m_79  hR
        have H := HJ_79 m_79  hR
        exact f_ret rfl H
      refine b_ge rfl r_x2_7 (by unfold rg; decide) (fun hq => ?_) (fun hq => ?_)
      · replace H := H.1 hq
        exact tl_79 m_7  H
      · replace H := H.2 hq
        refine w_st (fun _ => rfl) ?_
        refine g_19_5 rfl ?_
        refine z_ne rfl (rd_rg _ _ _) (fun hq => ?_) (fun hq => ?_)
        · replace H := H.1 hq
          exact tl_79 m_7  H
        · replace H := H.2 hq
          refine w_st (fun _ => rfl) ?_
          refine f_int 42 rfl rfl ?_
          refine f_int 47 rfl rfl ?_
          refine k_VK (as := [iv 42, iv 47]) rfl mg_48 rfl rfl (by decide) rfl rfl H (fun m26 v26 r_v26 H => ?_)
          refine z_eq rfl r_v26 (fun hq => ?_) (fun hq => ?_)
          · replace H := H.1 hq
            exact tl_79 m26  H
          · replace H := H.2 hq
            refine w_st (fun _ => rfl) ?_
            refine k_VK (as := []) rfl mg_48 rfl rfl (by decide) rfl rfl H (fun m33 v33 r_v33 H => ?_)
            refine f_int 42 rfl rfl ?_
            obtain ⟨R_48, H, HJ_48⟩ := H
            have tl_48 : ∀ (s0_48 : Int) , rg s0_48 → R_48 s0_48 → mm_W d mc_48 48 [some (.ref 19), some (iv x1), some (iv x2_7), g3_7] [iv s0_48] (fm m33) (XV Q) := by
              intro s0_48 r_s0_48 hR
              have H := HJ_48 s0_48 r_s0_48 hR
              refine w_st (ls2 := [some (.ref 19), some (iv x1), some (iv x2_7), some (iv s0_48)]) (fun _ => rfl) ?_
              refine w_st (fun _ => rfl) ?_
              refine w_st (fun _ => rfl) ?_
              refine k_VK (as := []) rfl mg_48 rfl rfl (by decide) rfl rfl H (fun m51 v51 r_v51 H => ?_)
              refine k_VK (as := [iv v51]) rfl mg_48 rfl rfl (by decide) rfl rfl H (fun m54 v54 r_v54 H => ?_)
              refine w_st (fun _ => rfl) ?_
              refine w_st (fun _ => rfl) ?_
              refine w_st (fun _ => rfl) ?_
              refine k_VV (as := [iv x1]) rfl mg_48 rfl rfl (by decide) rfl rfl H (fun m60 H => ?_)
              refine w_st (fun _ => rfl) ?_
              refine g_19_3 rfl ?_
              refine w_st (fun _ => rfl) ?_
              refine f_int 0 rfl rfl ?_
              refine k_VK (as := [iv s0_48, iv 0]) rfl mg_48 rfl rfl (lw_l0 lw_20) (lw_ck lw_20 _ _).1 rfl H (fun m69 v69 r_v69 H => ?_)
              refine w_st (fun _ => rfl) ?_
              obtain ⟨z2_73, e_z2_73⟩ : ∃ q : Int, q = wr (x2_7 + 1) := ⟨_, rfl⟩
              have r_z2_73 : rg z2_73 := by rw [e_z2_73]; exact wr_rg _
              replace H := H z2_73 e_z2_73
              refine f_iinc (ls2 := [some (.ref 19), some (iv x1), some (iv z2_73), some (iv s0_48)]) 1 rfl rfl rfl e_z2_73 rfl ?_
              refine w_st (fun _ => rfl) ?_
              exact ih_7 z2_73 m69 (some (iv s0_48)) (Nat.lt_of_lt_of_le H.2 (Nat.le_of_lt_succ hz_7)) r_z2_73 H.1
            refine b_ne rfl r_v33 (by unfold rg; decide) (fun hq => ?_) (fun hq => ?_)
            · replace H := H.1 hq
              refine f_int 7 rfl rfl ?_
              exact tl_48 7 (by unfold rg; decide) H
            · replace H := H.2 hq
              refine f_int 6 rfl rfl ?_
              refine w_st (fun _ => rfl) ?_
              exact tl_48 6 (by unfold rg; decide) H
  exact lp_7 _ 0 m2 none (Nat.lt_succ_self _) (by unfold rg; decide) H0_7
/-- TippedCrates$Reader.readUnit(I)V -/
def P_49 (d : Nat) (m : Mm) (x1 : Int) (Q : Mm → Prop) : Prop :=
  (((rd m 19 5) = 0 → CK d 36 [.ref 19] m (fun m9 v9 =>
      (∃ R_135 : Mm → Prop,
      ((¬ v9 = 22 → CK d 36 [.ref 19] m9 (fun m50 v50 =>
        CK d 166 [iv v50, iv 12, iv 20] m50 (fun m57 v57 =>
        ((v57 = 0 → CK d 36 [.ref 19] m57 (fun m92 v92 =>
          (∃ R_114 : Prop,
          ((¬ v92 = 40 → R_114) ∧
          (v92 = 40 → ((x1 < 6 → R_114) ∧
            (¬ x1 < 6 → CV d 37 [.ref 19, iv 2] m92 (fun m108 =>
              R_135 m108))))) ∧
          (R_114 →
          CK d 39 [.ref 19, iv 40] m92 (fun m117 v117 =>
            CV d 47 [.ref 19, iv (wr (x1 + 1))] m117 (fun m125 =>
            CK d 39 [.ref 19, iv 41] m125 (fun m131 v131 =>
            R_135 m131))))))) ∧
        (¬ v57 = 0 → CK d 36 [.ref 19] m57 (fun m69 v69 =>
          CK d 15 [.ref 20, iv 1, iv (wr (v69 - 12))] m69 (fun m75 v75 =>
          CK d 36 [.ref 19] m75 (fun m81 v81 =>
          CK d 39 [.ref 19, iv v81] m81 (fun m84 v84 =>
          R_135 m84))))))))) ∧
      (v9 = 22 → (((0 : Int) ≤ (rd m9 19 4) ∧ (rd m9 19 4) < 401) ∧ CK d 15 [.ref 20, iv 0, iv (wr (ld m9 4 (Int.toNat (rd m9 19 4))))] m9 (fun m35 v35 =>
        CK d 39 [.ref 19, iv 22] m35 (fun m42 v42 =>
        R_135 m42))))) ∧
      (∀ (m_135 : Mm), R_135 m_135 →
      Q m_135)))) ∧
    (¬ (rd m 19 5) = 0 → Q m))
set_option maxRecDepth 20000 in
theorem br_49 {d : Nat} {m : Mm} {x1 : Int} {Q : Mm → Prop} (r_x1 : rg x1) (H : P_49 d m x1 Q) : CV (d + 1) 49 [.ref 19, iv x1] m Q := by
  unfold P_49 at H
  refine CV_of rfl ?_
  show mm_W d mc_49 0 [some (.ref 19), some (iv x1)] [] (fm m) (XV Q)
  refine w_st (fun _ => rfl) ?_
  refine g_19_5 rfl ?_
  refine z_eq rfl (rd_rg _ _ _) (fun hq => ?_) (fun hq => ?_)
  · replace H := H.1 hq
    refine w_st (fun _ => rfl) ?_
    refine k_VK (as := []) rfl mg_49 rfl rfl (by decide) rfl rfl H (fun m9 v9 r_v9 H => ?_)
    refine f_int 22 rfl rfl ?_
    obtain ⟨R_135, H, HJ_135⟩ := H
    have tl_135 : ∀ (m_135 : Mm), R_135 m_135 → mm_W d mc_49 135 [some (.ref 19), some (iv x1)] [] (fm m_135) (XV Q) := by
      intro m_135  hR
      have H := HJ_135 m_135  hR
      exact f_ret rfl H
    refine b_ne rfl r_v9 (by unfold rg; decide) (fun hq => ?_) (fun hq => ?_)
    · replace H := H.1 hq
      refine w_st (fun _ => rfl) ?_
      refine k_VK (as := []) rfl mg_49 rfl rfl (by decide) rfl rfl H (fun m50 v50 r_v50 H => ?_)
      refine f_int 12 rfl rfl ?_
      refine f_int 20 rfl rfl ?_
      refine k_SK (as := [iv v50, iv 12, iv 20]) rfl mg_49 rfl rfl rfl H (fun m57 v57 r_v57 H => ?_)
      refine z_eq rfl r_v57 (fun hq => ?_) (fun hq => ?_)
      · replace H := H.1 hq
        refine w_st (fun _ => rfl) ?_
        refine k_VK (as := []) rfl mg_49 rfl rfl (by decide) rfl rfl H (fun m92 v92 r_v92 H => ?_)
        refine f_int 40 rfl rfl ?_
        obtain ⟨R_114, H, HJ_114⟩ := H
        have tl_114 : R_114 → mm_W d mc_49 114 [some (.ref 19), some (iv x1)] [] (fm m92) (XV Q) := by
          intro   hR
          have H := HJ_114   hR
          refine w_st (fun _ => rfl) ?_
          refine f_int 40 rfl rfl ?_
          refine k_VK (as := [iv 40]) rfl mg_49 rfl rfl (by decide) rfl rfl H (fun m117 v117 r_v117 H => ?_)
          refine w_st (fun _ => rfl) ?_
          refine w_st (fun _ => rfl) ?_
          refine w_st (fun _ => rfl) ?_
          refine f_int 1 rfl rfl ?_
          refine f_add rfl ?_
          refine k_VV (as := [iv (wr (x1 + 1))]) rfl mg_49 rfl rfl (by decide) rfl rfl H (fun m125 H => ?_)
          refine w_st (fun _ => rfl) ?_
          refine f_int 41 rfl rfl ?_
          refine k_VK (as := [iv 41]) rfl mg_49 rfl rfl (by decide) rfl rfl H (fun m131 v131 r_v131 H => ?_)
          refine w_st (fun _ => rfl) ?_
          exact tl_135 m131  H
        refine b_ne rfl r_v92 (by unfold rg; decide) (fun hq => ?_) (fun hq => ?_)
        · replace H := H.1 hq
          exact tl_114   H
        · replace H := H.2 hq
          refine w_st (fun _ => rfl) ?_
          refine f_int 6 rfl rfl ?_
          refine b_lt rfl r_x1 (by unfold rg; decide) (fun hq => ?_) (fun hq => ?_)
          · replace H := H.1 hq
            exact tl_114   H
          · replace H := H.2 hq
            refine w_st (fun _ => rfl) ?_
            refine f_int 2 rfl rfl ?_
            refine k_VV (as := [iv 2]) rfl mg_49 rfl rfl (by decide) rfl rfl H (fun m108 H => ?_)
            refine w_st (fun _ => rfl) ?_
            exact tl_135 m108  H
      · replace H := H.2 hq
        refine w_st (fun _ => rfl) ?_
        refine g_19_3 rfl ?_
        refine f_int 1 rfl rfl ?_
        refine w_st (fun _ => rfl) ?_
        refine k_VK (as := []) rfl mg_49 rfl rfl (by decide) rfl rfl H (fun m69 v69 r_v69 H => ?_)
        refine f_int 12 rfl rfl ?_
        refine f_sub rfl ?_
        refine k_VK (as := [iv 1, iv (wr (v69 - 12))]) rfl mg_49 rfl rfl (lw_l0 lw_20) (lw_ck lw_20 _ _).1 rfl H (fun m75 v75 r_v75 H => ?_)
        refine w_st (fun _ => rfl) ?_
        refine w_st (fun _ => rfl) ?_
        refine w_st (fun _ => rfl) ?_
        refine k_VK (as := []) rfl mg_49 rfl rfl (by decide) rfl rfl H (fun m81 v81 r_v81 H => ?_)
        refine k_VK (as := [iv v81]) rfl mg_49 rfl rfl (by decide) rfl rfl H (fun m84 v84 r_v84 H => ?_)
        refine w_st (fun _ => rfl) ?_
        refine w_st (fun _ => rfl) ?_
        exact tl_135 m84  H
    · replace H := H.2 hq
      refine w_st (fun _ => rfl) ?_
      refine g_19_3 rfl ?_
      refine f_int 0 rfl rfl ?_
      refine w_st (fun _ => rfl) ?_
      refine g_19_1 rfl ?_
      refine g_1_3 rfl ?_
      refine w_st (fun _ => rfl) ?_
      refine g_19_4 rfl ?_
      refine f_ldl (n := 401) (by decide) rfl (by decide) rfl H.1 ?_
      replace H := H.2
      refine f_l2i rfl ?_
      refine k_VK (as := [iv 0, iv (wr (ld m9 4 (Int.toNat (rd m9 19 4))))]) rfl mg_49 rfl rfl (lw_l0 lw_20) (lw_ck lw_20 _ _).1 rfl H (fun m35 v35 r_v35 H => ?_)
      refine w_st (fun _ => rfl) ?_
      refine w_st (fun _ => rfl) ?_
      refine f_int 22 rfl rfl ?_
      refine k_VK (as := [iv 22]) rfl mg_49 rfl rfl (by decide) rfl rfl H (fun m42 v42 r_v42 H => ?_)
      refine w_st (fun _ => rfl) ?_
      refine w_st (fun _ => rfl) ?_
      exact tl_135 m42  H
  · replace H := H.2 hq
    exact f_ret rfl H
/-- TippedCrates$Reader.isEither(II)Z -/
def P_50 (d : Nat) (m : Mm) (x1 : Int) (x2 : Int) (Q : Mm → Int → Prop) : Prop :=
  (((0 : Int) ≤ (rd m 19 4) ∧ (rd m 19 4) < 401) ∧ (∃ R_37 : Int → Prop,
    (∃ R_32 : Prop,
    (((rd m 2 (Int.toNat (rd m 19 4))) = x1 → R_32) ∧
    (¬ (rd m 2 (Int.toNat (rd m 19 4))) = x1 → (((0 : Int) ≤ (rd m 19 4) ∧ (rd m 19 4) < 401) ∧ ((¬ (rd m 2 (Int.toNat (rd m 19 4))) = x2 → R_37 0) ∧
      ((rd m 2 (Int.toNat (rd m 19 4))) = x2 → R_32))))) ∧
    (R_32 →
    R_37 1)) ∧
    (∀ (s0_37 : Int) , rg s0_37 → R_37 s0_37 →
    ((s0_37 = 0 ∨ s0_37 = 1) ∧ Q m s0_37))))
set_option maxRecDepth 20000 in
theorem br_50 {d : Nat} {m : Mm} {x1 : Int} {x2 : Int} {Q : Mm → Int → Prop} (r_x1 : rg x1) (r_x2 : rg x2) (H : P_50 d m x1 x2 Q) : CK (d + 1) 50 [.ref 19, iv x1, iv x2] m Q := by
  unfold P_50 at H
  refine CK_of rfl ?_
  show mm_W d mc_50 0 [some (.ref 19), some (iv x1), some (iv x2)] [] (fm m) (XK Q)
  refine w_st (fun _ => rfl) ?_
  refine g_19_1 rfl ?_
  refine g_1_1 rfl ?_
  refine w_st (fun _ => rfl) ?_
  refine g_19_4 rfl ?_
  refine f_ld ir_2 rfl H.1 ?_
  replace H := H.2
  refine w_st (fun _ => rfl) ?_
  obtain ⟨R_37, H, HJ_37⟩ := H
  have tl_37 : ∀ (s0_37 : Int) , rg s0_37 → R_37 s0_37 → mm_W d mc_50 37 [some (.ref 19), some (iv x1), some (iv x2)] [iv s0_37] (fm m) (XK Q) := by
    intro s0_37 r_s0_37 hR
    have H := HJ_37 s0_37 r_s0_37 hR
    exact f_zret rfl r_s0_37 H.1 H.2
  obtain ⟨R_32, H, HJ_32⟩ := H
  have tl_32 : R_32 → mm_W d mc_50 32 [some (.ref 19), some (iv x1), some (iv x2)] [] (fm m) (XK Q) := by
    intro   hR
    have H := HJ_32   hR
    refine f_int 1 rfl rfl ?_
    refine w_st (fun _ => rfl) ?_
    exact tl_37 1 (by unfold rg; decide) H
  refine b_eq rfl (rd_rg _ _ _) r_x1 (fun hq => ?_) (fun hq => ?_)
  · replace H := H.1 hq
    exact tl_32   H
  · replace H := H.2 hq
    refine w_st (fun _ => rfl) ?_
    refine g_19_1 rfl ?_
    refine g_1_1 rfl ?_
    refine w_st (fun _ => rfl) ?_
    refine g_19_4 rfl ?_
    refine f_ld ir_2 rfl H.1 ?_
    replace H := H.2
    refine w_st (fun _ => rfl) ?_
    refine b_ne rfl (rd_rg _ _ _) r_x2 (fun hq => ?_) (fun hq => ?_)
    · replace H := H.1 hq
      refine f_int 0 rfl rfl ?_
      exact tl_37 0 (by unfold rg; decide) H
    · replace H := H.2 hq
      exact tl_32   H
/-- TippedCrates$Reader.fitsYard()Z -/
def P_51 (d : Nat) (m : Mm)  (Q : Mm → Int → Prop) : Prop :=
  (∃ (I_4 : Int → Int → Mm → Prop) (mu_4 : Int → Int → Mm → Nat), I_4 1 0 m ∧
    ∀ (x1_4 x2_4 : Int) (m_4 : Mm), rg x1_4 → rg x2_4 → I_4 x1_4 x2_4 m_4 →
    (((rd m_4 19 11) ≤ x2_4 → (∃ (I_45 : Int → Int → Mm → Prop) (mu_45 : Int → Int → Mm → Nat), I_45 x1_4 0 m_4 ∧
          ∀ (x1_45 x2_45 : Int) (m_45 : Mm), rg x1_45 → rg x2_45 → I_45 x1_45 x2_45 m_45 →
          (((rd m_45 19 12) ≤ x2_45 → (∃ (I_86 : Int → Int → Mm → Prop) (mu_86 : Int → Int → Mm → Nat), I_86 x1_45 0 m_45 ∧
                ∀ (x1_86 x2_86 : Int) (m_86 : Mm), rg x1_86 → rg x2_86 → I_86 x1_86 x2_86 m_86 →
                (((rd m_86 19 13) ≤ x2_86 → ((x1_86 = 0 ∨ x1_86 = 1) ∧ Q m_86 x1_86)) ∧
                    (¬ (rd m_86 19 13) ≤ x2_86 → (((0 : Int) ≤ (wr (x2_86 * 2)) ∧ (wr (x2_86 * 2)) < 6) ∧ (((0 : Int) ≤ (wr ((wr (x2_86 * 2)) + 1)) ∧ (wr ((wr (x2_86 * 2)) + 1)) < 6) ∧ CK d 52 [.ref 19, iv (rd m_86 27 (Int.toNat (wr (x2_86 * 2)))), iv (rd m_86 27 (Int.toNat (wr ((wr (x2_86 * 2)) + 1))))] m_86 (fun m114 v114 =>
                      (∀ z1_118 : Int, z1_118 = (anI x1_86 v114) → CK d 53 [.ref 19, .ref 25, iv (rd m114 19 11), iv x2_86] m114 (fun m130 v130 =>
                      (∃ R_154 : Int → Mm → Prop,
                      (∃ R_153 : Mm → Prop,
                      ((¬ v130 = 0 → R_153 m130) ∧
                      (v130 = 0 → CK d 53 [.ref 19, .ref 27, iv x2_86, iv x2_86] m130 (fun m143 v143 =>
                        ((¬ v143 = 0 → R_153 m143) ∧
                        (v143 = 0 → R_154 1 m143))))) ∧
                      (∀ (m_153 : Mm), R_153 m_153 →
                      R_154 0 m_153)) ∧
                      (∀ (s1_154 : Int) (m_154 : Mm), rg s1_154 → R_154 s1_154 m_154 →
                      (∀ z1_155 : Int, z1_155 = (anI z1_118 s1_154) → (∀ z2_156 : Int, z2_156 = wr (x2_86 + 1) → (I_86 z1_155 z2_156 m_154 ∧ mu_86 z1_155 z2_156 m_154 < mu_86 x1_86 x2_86 m_86)))))))))))))) ∧
              (¬ (rd m_45 19 12) ≤ x2_45 → (((0 : Int) ≤ (wr (x2_45 * 3)) ∧ (wr (x2_45 * 3)) < 30) ∧ (((0 : Int) ≤ (wr ((wr (x2_45 * 3)) + 1)) ∧ (wr ((wr (x2_45 * 3)) + 1)) < 30) ∧ CK d 52 [.ref 19, iv (rd m_45 26 (Int.toNat (wr (x2_45 * 3)))), iv (rd m_45 26 (Int.toNat (wr ((wr (x2_45 * 3)) + 1))))] m_45 (fun m73 v73 =>
                (∀ z1_77 : Int, z1_77 = (anI x1_45 v73) → (∀ z2_78 : Int, z2_78 = wr (x2_45 + 1) → (I_45 z1_77 z2_78 m73 ∧ mu_45 z1_77 z2_78 m73 < mu_45 x1_45 x2_45 m_45)))))))))) ∧
        (¬ (rd m_4 19 11) ≤ x2_4 → (((0 : Int) ≤ (wr (x2_4 * 2)) ∧ (wr (x2_4 * 2)) < 16) ∧ (((0 : Int) ≤ (wr ((wr (x2_4 * 2)) + 1)) ∧ (wr ((wr (x2_4 * 2)) + 1)) < 16) ∧ CK d 52 [.ref 19, iv (rd m_4 25 (Int.toNat (wr (x2_4 * 2)))), iv (rd m_4 25 (Int.toNat (wr ((wr (x2_4 * 2)) + 1))))] m_4 (fun m32 v32 =>
          (∀ z1_36 : Int, z1_36 = (anI x1_4 v32) → (∀ z2_37 : Int, z2_37 = wr (x2_4 + 1) → (I_4 z1_36 z2_37 m32 ∧ mu_4 z1_36 z2_37 m32 < mu_4 x1_4 x2_4 m_4)))))))))
set_option maxRecDepth 20000 in
theorem br_51 {d : Nat} {m : Mm}  {Q : Mm → Int → Prop}  (H : P_51 d m  Q) : CK (d + 1) 51 [.ref 19] m Q := by
  unfold P_51 at H
  refine CK_of rfl ?_
  show mm_W d mc_51 0 [some (.ref 19), none, none] [] (fm m) (XK Q)
  refine f_int 1 rfl rfl ?_
  refine w_st (ls2 := [some (.ref 19), some (iv 1), none]) (fun _ => rfl) ?_
  refine f_int 0 rfl rfl ?_
  refine w_st (ls2 := [some (.ref 19), some (iv 1), some (iv 0)]) (fun _ => rfl) ?_
  obtain ⟨I_4, mu_4, H0_4, HB_4⟩ := H
  have lp_4 : ∀ (z : Nat) (x1_4 x2_4 : Int) (m_4 : Mm), mu_4 x1_4 x2_4 m_4 < z → rg x1_4 → rg x2_4 → I_4 x1_4 x2_4 m_4 → mm_W d mc_51 4 [some (.ref 19), some (iv x1_4), some (iv x2_4)] [] (fm m_4) (XK Q) := by
    intro z
    induction z with
    | zero => intro x1_4 x2_4 m_4 hz; exact absurd hz (Nat.not_lt_zero _)
    | succ z ih_4 =>
      intro x1_4 x2_4 m_4 hz_4 r_x1_4 r_x2_4 hI
      have H := HB_4 x1_4 x2_4 m_4 r_x1_4 r_x2_4 hI
      refine w_st (fun _ => rfl) ?_
      refine w_st (fun _ => rfl) ?_
      refine g_19_11 rfl ?_
      refine b_ge rfl r_x2_4 (rd_rg _ _ _) (fun hq => ?_) (fun hq => ?_)
      · replace H := H.1 hq
        refine f_int 0 rfl rfl ?_
        refine w_st (ls2 := [some (.ref 19), some (iv x1_4), some (iv 0)]) (fun _ => rfl) ?_
        obtain ⟨I_45, mu_45, H0_45, HB_45⟩ := H
        have lp_45 : ∀ (z : Nat) (x1_45 x2_45 : Int) (m_45 : Mm), mu_45 x1_45 x2_45 m_45 < z → rg x1_45 → rg x2_45 → I_45 x1_45 x2_45 m_45 → mm_W d mc_51 45 [some (.ref 19), some (iv x1_45), some (iv x2_45)] [] (fm m_45) (XK Q) := by
          intro z
          induction z with
          | zero => intro x1_45 x2_45 m_45 hz; exact absurd hz (Nat.not_lt_zero _)
          | succ z ih_45 =>
            intro x1_45 x2_45 m_45 hz_45 r_x1_45 r_x2_45 hI
            have H := HB_45 x1_45 x2_45 m_45 r_x1_45 r_x2_45 hI
            refine w_st (fun _ => rfl) ?_
            refine w_st (fun _ => rfl) ?_
            refine g_19_12 rfl ?_
            refine b_ge rfl r_x2_45 (rd_rg _ _ _) (fun hq => ?_) (fun hq => ?_)
            · replace H := H.1 hq
              refine f_int 0 rfl rfl ?_
              refine w_st (ls2 := [some (.ref 19), some (iv x1_45), some (iv 0)]) (fun _ => rfl) ?_
              obtain ⟨I_86, mu_86, H0_86, HB_86⟩ := H
              have lp_86 : ∀ (z : Nat) (x1_86 x2_86 : Int) (m_86 : Mm), mu_86 x1_86 x2_86 m_86 < z → rg x1_86 → rg x2_86 → I_86 x1_86 x2_86 m_86 → mm_W d mc_51 86 [some (.ref 19), some (iv x1_86), some (iv x2_86)] [] (fm m_86) (XK Q) := by
                intro z
                induction z with
                | zero => intro x1_86 x2_86 m_86 hz; exact absurd hz (Nat.not_lt_zero _)
                | succ z ih_86 =>
                  intro x1_86 x2_86 m_86 hz_86 r_x1_86 r_x2_86 hI
                  have H := HB_86 x1_86 x2_86 m_86 r_x1_86 r_x2_86 hI
                  refine w_st (fun _ => rfl) ?_
                  refine w_st (fun _ => rfl) ?_
                  refine g_19_13 rfl ?_
                  refine b_ge rfl r_x2_86 (rd_rg _ _ _) (fun hq => ?_) (fun hq => ?_)
                  · replace H := H.1 hq
                    refine w_st (fun _ => rfl) ?_
                    exact f_zret rfl r_x1_86 H.1 H.2
                  · replace H := H.2 hq
                    refine w_st (fun _ => rfl) ?_
                    refine w_st (fun _ => rfl) ?_
                    refine w_st (fun _ => rfl) ?_
                    refine g_19_16 rfl ?_
                    refine w_st (fun _ => rfl) ?_
                    refine f_int 2 rfl rfl ?_
                    refine f_mul rfl ?_
                    refine f_ld ir_27 rfl H.1 ?_
                    replace H := H.2
                    refine w_st (fun _ => rfl) ?_
                    refine g_19_16 rfl ?_
                    refine w_st (fun _ => rfl) ?_
                    refine f_int 2 rfl rfl ?_
                    refine f_mul rfl ?_
                    refine f_int 1 rfl rfl ?_
                    refine f_add rfl ?_
                    refine f_ld ir_27 rfl H.1 ?_
                    replace H := H.2
                    refine k_VK (as := [iv (rd m_86 27 (Int.toNat (wr (x2_86 * 2)))), iv (rd m_86 27 (Int.toNat (wr ((wr (x2_86 * 2)) + 1))))]) rfl mg_51 rfl rfl (by decide) rfl rfl H (fun m114 v114 r_v114 H => ?_)
                    refine f_anI rfl ?_
                    obtain ⟨z1_118, e_z1_118⟩ : ∃ q : Int, q = (anI x1_86 v114) := ⟨_, rfl⟩
                    have r_z1_118 : rg z1_118 := by rw [e_z1_118]; exact (io_rg _ _ _)
                    replace H := H z1_118 e_z1_118
                    refine f_nm e_z1_118 ?_
                    refine w_st (ls2 := [some (.ref 19), some (iv z1_118), some (iv x2_86)]) (fun _ => rfl) ?_
                    refine w_st (fun _ => rfl) ?_
                    refine w_st (fun _ => rfl) ?_
                    refine w_st (fun _ => rfl) ?_
                    refine g_19_14 rfl ?_
                    refine w_st (fun _ => rfl) ?_
                    refine g_19_11 rfl ?_
                    refine w_st (fun _ => rfl) ?_
                    refine k_VK (as := [.ref 25, iv (rd m114 19 11), iv x2_86]) rfl mg_51 rfl rfl (by decide) rfl rfl H (fun m130 v130 r_v130 H => ?_)
                    obtain ⟨R_154, H, HJ_154⟩ := H
                    have tl_154 : ∀ (s1_154 : Int) (m_154 : Mm), rg s1_154 → R_154 s1_154 m_154 → mm_W d mc_51 154 [some (.ref 19), some (iv z1_118), some (iv x2_86)] [iv s1_154, iv z1_118] (fm m_154) (XK Q) := by
                      intro s1_154 m_154 r_s1_154 hR
                      have H := HJ_154 s1_154 m_154 r_s1_154 hR
                      refine f_anI rfl ?_
                      obtain ⟨z1_155, e_z1_155⟩ : ∃ q : Int, q = (anI z1_118 s1_154) := ⟨_, rfl⟩
                      have r_z1_155 : rg z1_155 := by rw [e_z1_155]; exact (io_rg _ _ _)
                      replace H := H z1_155 e_z1_155
                      refine f_nm e_z1_155 ?_
                      refine w_st (ls2 := [some (.ref 19), some (iv z1_155), some (iv x2_86)]) (fun _ => rfl) ?_
                      obtain ⟨z2_156, e_z2_156⟩ : ∃ q : Int, q = wr (x2_86 + 1) := ⟨_, rfl⟩
                      have r_z2_156 : rg z2_156 := by rw [e_z2_156]; exact wr_rg _
                      replace H := H z2_156 e_z2_156
                      refine f_iinc (ls2 := [some (.ref 19), some (iv z1_155), some (iv z2_156)]) 1 rfl rfl rfl e_z2_156 rfl ?_
                      refine w_st (fun _ => rfl) ?_
                      exact ih_86 z1_155 z2_156 m_154 (Nat.lt_of_lt_of_le H.2 (Nat.le_of_lt_succ hz_86)) r_z1_155 r_z2_156 H.1
                    obtain ⟨R_153, H, HJ_153⟩ := H
                    have tl_153 : ∀ (m_153 : Mm), R_153 m_153 → mm_W d mc_51 153 [some (.ref 19), some (iv z1_118), some (iv x2_86)] [iv z1_118] (fm m_153) (XK Q) := by
                      intro m_153  hR
                      have H := HJ_153 m_153  hR
                      refine f_int 0 rfl rfl ?_
                      exact tl_154 0 m_153 (by unfold rg; decide) H
                    refine z_ne rfl r_v130 (fun hq => ?_) (fun hq => ?_)
                    · replace H := H.1 hq
                      exact tl_153 m130  H
                    · replace H := H.2 hq
                      refine w_st (fun _ => rfl) ?_
                      refine w_st (fun _ => rfl) ?_
                      refine g_19_16 rfl ?_
                      refine w_st (fun _ => rfl) ?_
                      refine w_st (fun _ => rfl) ?_
                      refine k_VK (as := [.ref 27, iv x2_86, iv x2_86]) rfl mg_51 rfl rfl (by decide) rfl rfl H (fun m143 v143 r_v143 H => ?_)
                      refine z_ne rfl r_v143 (fun hq => ?_) (fun hq => ?_)
                      · replace H := H.1 hq
                        exact tl_153 m143  H
                      · replace H := H.2 hq
                        refine f_int 1 rfl rfl ?_
                        refine w_st (fun _ => rfl) ?_
                        exact tl_154 1 m143 (by unfold rg; decide) H
              exact lp_86 _ x1_45 0 m_45 (Nat.lt_succ_self _) r_x1_45 (by unfold rg; decide) H0_86
            · replace H := H.2 hq
              refine w_st (fun _ => rfl) ?_
              refine w_st (fun _ => rfl) ?_
              refine w_st (fun _ => rfl) ?_
              refine g_19_15 rfl ?_
              refine w_st (fun _ => rfl) ?_
              refine f_int 3 rfl rfl ?_
              refine f_mul rfl ?_
              refine f_ld ir_26 rfl H.1 ?_
              replace H := H.2
              refine w_st (fun _ => rfl) ?_
              refine g_19_15 rfl ?_
              refine w_st (fun _ => rfl) ?_
              refine f_int 3 rfl rfl ?_
              refine f_mul rfl ?_
              refine f_int 1 rfl rfl ?_
              refine f_add rfl ?_
              refine f_ld ir_26 rfl H.1 ?_
              replace H := H.2
              refine k_VK (as := [iv (rd m_45 26 (Int.toNat (wr (x2_45 * 3)))), iv (rd m_45 26 (Int.toNat (wr ((wr (x2_45 * 3)) + 1))))]) rfl mg_51 rfl rfl (by decide) rfl rfl H (fun m73 v73 r_v73 H => ?_)
              refine f_anI rfl ?_
              obtain ⟨z1_77, e_z1_77⟩ : ∃ q : Int, q = (anI x1_45 v73) := ⟨_, rfl⟩
              have r_z1_77 : rg z1_77 := by rw [e_z1_77]; exact (io_rg _ _ _)
              replace H := H z1_77 e_z1_77
              refine f_nm e_z1_77 ?_
              refine w_st (ls2 := [some (.ref 19), some (iv z1_77), some (iv x2_45)]) (fun _ => rfl) ?_
              obtain ⟨z2_78, e_z2_78⟩ : ∃ q : Int, q = wr (x2_45 + 1) := ⟨_, rfl⟩
              have r_z2_78 : rg z2_78 := by rw [e_z2_78]; exact wr_rg _
              replace H := H z2_78 e_z2_78
              refine f_iinc (ls2 := [some (.ref 19), some (iv z1_77), some (iv z2_78)]) 1 rfl rfl rfl e_z2_78 rfl ?_
              refine w_st (fun _ => rfl) ?_
              exact ih_45 z1_77 z2_78 m73 (Nat.lt_of_lt_of_le H.2 (Nat.le_of_lt_succ hz_45)) r_z1_77 r_z2_78 H.1
        exact lp_45 _ x1_4 0 m_4 (Nat.lt_succ_self _) r_x1_4 (by unfold rg; decide) H0_45
      · replace H := H.2 hq
        refine w_st (fun _ => rfl) ?_
        refine w_st (fun _ => rfl) ?_
        refine w_st (fun _ => rfl) ?_
        refine g_19_14 rfl ?_
        refine w_st (fun _ => rfl) ?_
        refine f_int 2 rfl rfl ?_
        refine f_mul rfl ?_
        refine f_ld ir_25 rfl H.1 ?_
        replace H := H.2
        refine w_st (fun _ => rfl) ?_
        refine g_19_14 rfl ?_
        refine w_st (fun _ => rfl) ?_
        refine f_int 2 rfl rfl ?_
        refine f_mul rfl ?_
        refine f_int 1 rfl rfl ?_
        refine f_add rfl ?_
        refine f_ld ir_25 rfl H.1 ?_
        replace H := H.2
        refine k_VK (as := [iv (rd m_4 25 (Int.toNat (wr (x2_4 * 2)))), iv (rd m_4 25 (Int.toNat (wr ((wr (x2_4 * 2)) + 1))))]) rfl mg_51 rfl rfl (by decide) rfl rfl H (fun m32 v32 r_v32 H => ?_)
        refine f_anI rfl ?_
        obtain ⟨z1_36, e_z1_36⟩ : ∃ q : Int, q = (anI x1_4 v32) := ⟨_, rfl⟩
        have r_z1_36 : rg z1_36 := by rw [e_z1_36]; exact (io_rg _ _ _)
        replace H := H z1_36 e_z1_36
        refine f_nm e_z1_36 ?_
        refine w_st (ls2 := [some (.ref 19), some (iv z1_36), some (iv x2_4)]) (fun _ => rfl) ?_
        obtain ⟨z2_37, e_z2_37⟩ : ∃ q : Int, q = wr (x2_4 + 1) := ⟨_, rfl⟩
        have r_z2_37 : rg z2_37 := by rw [e_z2_37]; exact wr_rg _
        replace H := H z2_37 e_z2_37
        refine f_iinc (ls2 := [some (.ref 19), some (iv z1_36), some (iv z2_37)]) 1 rfl rfl rfl e_z2_37 rfl ?_
        refine w_st (fun _ => rfl) ?_
        exact ih_4 z1_36 z2_37 m32 (Nat.lt_of_lt_of_le H.2 (Nat.le_of_lt_succ hz_4)) r_z1_36 r_z2_37 H.1
  exact lp_4 _ 1 0 m (Nat.lt_succ_self _) (by unfold rg; decide) (by unfold rg; decide) H0_4
/-- TippedCrates$Reader.isInYard(II)Z -/
def P_52 (d : Nat) (m : Mm) (x1 : Int) (x2 : Int) (Q : Mm → Int → Prop) : Prop :=
  CK d 166 [iv x1, iv 0, iv (wr ((rd m 19 8) - 1))] m (fun m8 v8 =>
    (∃ R_33 : Int → Mm → Prop,
    (∃ R_32 : Mm → Prop,
    ((v8 = 0 → R_32 m8) ∧
    (¬ v8 = 0 → CK d 166 [iv x2, iv 0, iv (wr ((rd m8 19 9) - 1))] m8 (fun m22 v22 =>
      ((v22 = 0 → R_32 m22) ∧
      (¬ v22 = 0 → R_33 1 m22))))) ∧
    (∀ (m_32 : Mm), R_32 m_32 →
    R_33 0 m_32)) ∧
    (∀ (s0_33 : Int) (m_33 : Mm), rg s0_33 → R_33 s0_33 m_33 →
    ((s0_33 = 0 ∨ s0_33 = 1) ∧ Q m_33 s0_33))))
set_option maxRecDepth 20000 in
theorem br_52 {d : Nat} {m : Mm} {x1 : Int} {x2 : Int} {Q : Mm → Int → Prop} (r_x1 : rg x1) (r_x2 : rg x2) (H : P_52 d m x1 x2 Q) : CK (d + 1) 52 [.ref 19, iv x1, iv x2] m Q := by
  unfold P_52 at H
  refine CK_of rfl ?_
  show mm_W d mc_52 0 [some (.ref 19), some (iv x1), some (iv x2)] [] (fm m) (XK Q)
  refine w_st (fun _ => rfl) ?_
  refine f_int 0 rfl rfl ?_
  refine w_st (fun _ => rfl) ?_
  refine g_19_8 rfl ?_
  refine f_int 1 rfl rfl ?_
  refine f_sub rfl ?_
  refine k_SK (as := [iv x1, iv 0, iv (wr ((rd m 19 8) - 1))]) rfl mg_52 rfl rfl rfl H (fun m8 v8 r_v8 H => ?_)
  obtain ⟨R_33, H, HJ_33⟩ := H
  have tl_33 : ∀ (s0_33 : Int) (m_33 : Mm), rg s0_33 → R_33 s0_33 m_33 → mm_W d mc_52 33 [some (.ref 19), some (iv x1), some (iv x2)] [iv s0_33] (fm m_33) (XK Q) := by
    intro s0_33 m_33 r_s0_33 hR
    have H := HJ_33 s0_33 m_33 r_s0_33 hR
    exact f_zret rfl r_s0_33 H.1 H.2
  obtain ⟨R_32, H, HJ_32⟩ := H
  have tl_32 : ∀ (m_32 : Mm), R_32 m_32 → mm_W d mc_52 32 [some (.ref 19), some (iv x1), some (iv x2)] [] (fm m_32) (XK Q) := by
    intro m_32  hR
    have H := HJ_32 m_32  hR
    refine f_int 0 rfl rfl ?_
    exact tl_33 0 m_32 (by unfold rg; decide) H
  refine z_eq rfl r_v8 (fun hq => ?_) (fun hq => ?_)
  · replace H := H.1 hq
    exact tl_32 m8  H
  · replace H := H.2 hq
    refine w_st (fun _ => rfl) ?_
    refine f_int 0 rfl rfl ?_
    refine w_st (fun _ => rfl) ?_
    refine g_19_9 rfl ?_
    refine f_int 1 rfl rfl ?_
    refine f_sub rfl ?_
    refine k_SK (as := [iv x2, iv 0, iv (wr ((rd m8 19 9) - 1))]) rfl mg_52 rfl rfl rfl H (fun m22 v22 r_v22 H => ?_)
    refine z_eq rfl r_v22 (fun hq => ?_) (fun hq => ?_)
    · replace H := H.1 hq
      exact tl_32 m22  H
    · replace H := H.2 hq
      refine f_int 1 rfl rfl ?_
      refine w_st (fun _ => rfl) ?_
      exact tl_33 1 m22 (by unfold rg; decide) H
/-- TippedCrates$Reader.isPairIn([III)Z -/
def P_53 (d : Nat) (m : Mm) (b n : Nat) (x2 : Int) (x3 : Int) (Q : Mm → Int → Prop) : Prop :=
  (∃ (I_3 : Int → Prop) (mu_3 : Int → Nat), I_3 0 ∧
    ∀ (x4_3 : Int) , rg x4_3 → I_3 x4_3 →
    ((x2 ≤ x4_3 → Q m 0) ∧
        (¬ x2 ≤ x4_3 → (((0 : Int) ≤ (wr (x4_3 * 2)) ∧ (wr (x4_3 * 2)) < n) ∧ (((0 : Int) ≤ (wr (x3 * 2)) ∧ (wr (x3 * 2)) < 6) ∧ (∃ R_49 : Prop,
          ((¬ (rd m b (Int.toNat (wr (x4_3 * 2)))) = (rd m 27 (Int.toNat (wr (x3 * 2)))) → R_49) ∧
          ((rd m b (Int.toNat (wr (x4_3 * 2)))) = (rd m 27 (Int.toNat (wr (x3 * 2)))) → (((0 : Int) ≤ (wr ((wr (x4_3 * 2)) + 1)) ∧ (wr ((wr (x4_3 * 2)) + 1)) < n) ∧ (((0 : Int) ≤ (wr ((wr (x3 * 2)) + 1)) ∧ (wr ((wr (x3 * 2)) + 1)) < 6) ∧ ((¬ (rd m b (Int.toNat (wr ((wr (x4_3 * 2)) + 1)))) = (rd m 27 (Int.toNat (wr ((wr (x3 * 2)) + 1)))) → R_49) ∧
            ((rd m b (Int.toNat (wr ((wr (x4_3 * 2)) + 1)))) = (rd m 27 (Int.toNat (wr ((wr (x3 * 2)) + 1)))) → Q m 1)))))) ∧
          (R_49 →
          (∀ z4_49 : Int, z4_49 = wr (x4_3 + 1) → (I_3 z4_49 ∧ mu_3 z4_49 < mu_3 x4_3)))))))))
set_option maxRecDepth 20000 in
theorem br_53 {d : Nat} {m : Mm} {b n : Nat} {x2 : Int} {x3 : Int} {Q : Mm → Int → Prop} (h_b : isR n b) (r_x2 : rg x2) (r_x3 : rg x3) (H : P_53 d m b n x2 x3 Q) : CK (d + 1) 53 [.ref 19, .ref b, iv x2, iv x3] m Q := by
  unfold P_53 at H
  refine CK_of rfl ?_
  show mm_W d mc_53 0 [some (.ref 19), some (.ref b), some (iv x2), some (iv x3), none] [] (fm m) (XK Q)
  refine f_int 0 rfl rfl ?_
  refine w_st (ls2 := [some (.ref 19), some (.ref b), some (iv x2), some (iv x3), some (iv 0)]) (fun _ => rfl) ?_
  obtain ⟨I_3, mu_3, H0_3, HB_3⟩ := H
  have lp_3 : ∀ (z : Nat) (x4_3 : Int) , mu_3 x4_3 < z → rg x4_3 → I_3 x4_3 → mm_W d mc_53 3 [some (.ref 19), some (.ref b), some (iv x2), some (iv x3), some (iv x4_3)] [] (fm m) (XK Q) := by
    intro z
    induction z with
    | zero => intro x4_3 hz; exact absurd hz (Nat.not_lt_zero _)
    | succ z ih_3 =>
      intro x4_3 hz_3 r_x4_3 hI
      have H := HB_3 x4_3 r_x4_3 hI
      refine w_st (fun _ => rfl) ?_
      refine w_st (fun _ => rfl) ?_
      refine b_ge rfl r_x4_3 r_x2 (fun hq => ?_) (fun hq => ?_)
      · replace H := H.1 hq
        refine f_int 0 rfl rfl ?_
        exact f_zret rfl (by unfold rg; decide) (Or.inl rfl) H
      · replace H := H.2 hq
        refine w_st (fun _ => rfl) ?_
        refine w_st (fun _ => rfl) ?_
        refine f_int 2 rfl rfl ?_
        refine f_mul rfl ?_
        refine f_ld h_b rfl H.1 ?_
        replace H := H.2
        refine w_st (fun _ => rfl) ?_
        refine g_19_16 rfl ?_
        refine w_st (fun _ => rfl) ?_
        refine f_int 2 rfl rfl ?_
        refine f_mul rfl ?_
        refine f_ld ir_27 rfl H.1 ?_
        replace H := H.2
        obtain ⟨R_49, H, HJ_49⟩ := H
        have tl_49 : R_49 → mm_W d mc_53 49 [some (.ref 19), some (.ref b), some (iv x2), some (iv x3), some (iv x4_3)] [] (fm m) (XK Q) := by
          intro   hR
          have H := HJ_49   hR
          obtain ⟨z4_49, e_z4_49⟩ : ∃ q : Int, q = wr (x4_3 + 1) := ⟨_, rfl⟩
          have r_z4_49 : rg z4_49 := by rw [e_z4_49]; exact wr_rg _
          replace H := H z4_49 e_z4_49
          refine f_iinc (ls2 := [some (.ref 19), some (.ref b), some (iv x2), some (iv x3), some (iv z4_49)]) 1 rfl rfl rfl e_z4_49 rfl ?_
          refine w_st (fun _ => rfl) ?_
          exact ih_3 z4_49 (Nat.lt_of_lt_of_le H.2 (Nat.le_of_lt_succ hz_3)) r_z4_49 H.1
        refine b_ne rfl (rd_rg _ _ _) (rd_rg _ _ _) (fun hq => ?_) (fun hq => ?_)
        · replace H := H.1 hq
          exact tl_49   H
        · replace H := H.2 hq
          refine w_st (fun _ => rfl) ?_
          refine w_st (fun _ => rfl) ?_
          refine f_int 2 rfl rfl ?_
          refine f_mul rfl ?_
          refine f_int 1 rfl rfl ?_
          refine f_add rfl ?_
          refine f_ld h_b rfl H.1 ?_
          replace H := H.2
          refine w_st (fun _ => rfl) ?_
          refine g_19_16 rfl ?_
          refine w_st (fun _ => rfl) ?_
          refine f_int 2 rfl rfl ?_
          refine f_mul rfl ?_
          refine f_int 1 rfl rfl ?_
          refine f_add rfl ?_
          refine f_ld ir_27 rfl H.1 ?_
          replace H := H.2
          refine b_ne rfl (rd_rg _ _ _) (rd_rg _ _ _) (fun hq => ?_) (fun hq => ?_)
          · replace H := H.1 hq
            exact tl_49   H
          · replace H := H.2 hq
            refine f_int 1 rfl rfl ?_
            exact f_zret rfl (by unfold rg; decide) (Or.inr rfl) H
  exact lp_3 _ 0 (Nat.lt_succ_self _) (by unfold rg; decide) H0_3
/-- TippedCrates$Reader.fillPlan()V -/
def P_54 (d : Nat) (m : Mm)  (Q : Mm → Prop) : Prop :=
  CV d 27 [.ref 7, iv (rd m 19 8), iv (rd m 19 9)] m (fun m12 =>
    (∀ m23 : Mm, m23 = wt m12 7 2 (rd m12 19 10) → (∀ m34 : Mm, m34 = wt m23 7 3 (rd m23 19 13) → CV d 17 [.ref 11, .ref 20] m34 (fun m48 =>
    (∃ (I_53 : Int → Mm → Prop) (mu_53 : Int → Mm → Nat), I_53 0 m48 ∧
    ∀ (x1_53 : Int) (m_53 : Mm), rg x1_53 → I_53 x1_53 m_53 →
    (((rd m_53 19 11) ≤ x1_53 → (∃ (I_108 : Int → Mm → Prop) (mu_108 : Int → Mm → Nat), I_108 0 m_53 ∧
          ∀ (x1_108 : Int) (m_108 : Mm), rg x1_108 → I_108 x1_108 m_108 →
          (((rd m_108 19 12) ≤ x1_108 → (∃ (I_167 : Int → Mm → Prop) (mu_167 : Int → Mm → Nat), I_167 0 m_108 ∧
                ∀ (x1_167 : Int) (m_167 : Mm), rg x1_167 → I_167 x1_167 m_167 →
                (((rd m_167 19 13) ≤ x1_167 → (∀ m233 : Mm, m233 = cpm m_167 28 0 10 0 18 → Q m233)) ∧
                    (¬ (rd m_167 19 13) ≤ x1_167 → (((0 : Int) ≤ (wr (x1_167 * 2)) ∧ (wr (x1_167 * 2)) < 6) ∧ (((0 : Int) ≤ (wr ((wr (x1_167 * 2)) + 1)) ∧ (wr ((wr (x1_167 * 2)) + 1)) < 6) ∧ CK d 29 [.ref 7, iv (rd m_167 27 (Int.toNat (wr (x1_167 * 2)))), iv (rd m_167 27 (Int.toNat (wr ((wr (x1_167 * 2)) + 1))))] m_167 (fun m205 v205 =>
                      (((0 : Int) ≤ x1_167 ∧ x1_167 < 3) ∧ (∀ m208 : Mm, m208 = wt m205 9 (Int.toNat x1_167) v205 → (∀ z1_209 : Int, z1_209 = wr (x1_167 + 1) → (I_167 z1_209 m208 ∧ mu_167 z1_209 m208 < mu_167 x1_167 m_167))))))))))) ∧
              (¬ (rd m_108 19 12) ≤ x1_108 → (((0 : Int) ≤ (wr (x1_108 * 3)) ∧ (wr (x1_108 * 3)) < 30) ∧ (((0 : Int) ≤ (wr ((wr (x1_108 * 3)) + 1)) ∧ (wr ((wr (x1_108 * 3)) + 1)) < 30) ∧ CK d 29 [.ref 7, iv (rd m_108 26 (Int.toNat (wr (x1_108 * 3)))), iv (rd m_108 26 (Int.toNat (wr ((wr (x1_108 * 3)) + 1))))] m_108 (fun m145 v145 =>
                (((0 : Int) ≤ (wr ((wr (x1_108 * 3)) + 2)) ∧ (wr ((wr (x1_108 * 3)) + 2)) < 30) ∧ (((0 : Int) ≤ v145 ∧ v145 < 25) ∧ (∀ m158 : Mm, m158 = wt m145 8 (Int.toNat v145) (rd m145 26 (Int.toNat (wr ((wr (x1_108 * 3)) + 2)))) → (∀ z1_159 : Int, z1_159 = wr (x1_108 + 1) → (I_108 z1_159 m158 ∧ mu_108 z1_159 m158 < mu_108 x1_108 m_108)))))))))))) ∧
        (¬ (rd m_53 19 11) ≤ x1_53 → (((0 : Int) ≤ (wr (x1_53 * 2)) ∧ (wr (x1_53 * 2)) < 16) ∧ (((0 : Int) ≤ (wr ((wr (x1_53 * 2)) + 1)) ∧ (wr ((wr (x1_53 * 2)) + 1)) < 16) ∧ CK d 29 [.ref 7, iv (rd m_53 25 (Int.toNat (wr (x1_53 * 2)))), iv (rd m_53 25 (Int.toNat (wr ((wr (x1_53 * 2)) + 1))))] m_53 (fun m92 v92 =>
          (∀ m97 : Mm, m97 = wt m92 7 4 (orI (rd m_53 7 4) (slI 1 v92)) → (∀ z1_100 : Int, z1_100 = wr (x1_53 + 1) → (I_53 z1_100 m97 ∧ mu_53 z1_100 m97 < mu_53 x1_53 m_53)))))))))))))
set_option maxRecDepth 20000 in
theorem br_54 {d : Nat} {m : Mm}  {Q : Mm → Prop}  (H : P_54 d m  Q) : CV (d + 1) 54 [.ref 19] m Q := by
  unfold P_54 at H
  refine CV_of rfl ?_
  show mm_W d mc_54 0 [some (.ref 19), none] [] (fm m) (XV Q)
  refine w_st (fun _ => rfl) ?_
  refine g_19_2 rfl ?_
  refine w_st (fun _ => rfl) ?_
  refine g_19_8 rfl ?_
  refine w_st (fun _ => rfl) ?_
  refine g_19_9 rfl ?_
  refine k_VV (as := [iv (rd m 19 8), iv (rd m 19 9)]) rfl mg_54 rfl rfl (by decide) rfl rfl H (fun m12 H => ?_)
  refine w_st (fun _ => rfl) ?_
  refine g_19_2 rfl ?_
  refine w_st (fun _ => rfl) ?_
  refine g_19_10 rfl ?_
  obtain ⟨m23, e_m23⟩ : ∃ q : Mm, q = wt m12 7 2 (rd m12 19 10) := ⟨_, rfl⟩
  replace H := H m23 e_m23
  refine p_7_2 rfl e_m23 ?_
  refine w_st (fun _ => rfl) ?_
  refine g_19_2 rfl ?_
  refine w_st (fun _ => rfl) ?_
  refine g_19_13 rfl ?_
  obtain ⟨m34, e_m34⟩ : ∃ q : Mm, q = wt m23 7 3 (rd m23 19 13) := ⟨_, rfl⟩
  replace H := H m34 e_m34
  refine p_7_3 rfl e_m34 ?_
  refine w_st (fun _ => rfl) ?_
  refine g_19_2 rfl ?_
  refine g_7_8 rfl ?_
  refine w_st (fun _ => rfl) ?_
  refine g_19_3 rfl ?_
  refine k_VV (as := [.ref 20]) rfl mg_54 rfl rfl (lw_l0 lw_11) (lw_ck lw_11 _ _).1 rfl H (fun m48 H => ?_)
  refine f_int 0 rfl rfl ?_
  refine w_st (ls2 := [some (.ref 19), some (iv 0)]) (fun _ => rfl) ?_
  obtain ⟨I_53, mu_53, H0_53, HB_53⟩ := H
  have lp_53 : ∀ (z : Nat) (x1_53 : Int) (m_53 : Mm), mu_53 x1_53 m_53 < z → rg x1_53 → I_53 x1_53 m_53 → mm_W d mc_54 53 [some (.ref 19), some (iv x1_53)] [] (fm m_53) (XV Q) := by
    intro z
    induction z with
    | zero => intro x1_53 m_53 hz; exact absurd hz (Nat.not_lt_zero _)
    | succ z ih_53 =>
      intro x1_53 m_53 hz_53 r_x1_53 hI
      have H := HB_53 x1_53 m_53 r_x1_53 hI
      refine w_st (fun _ => rfl) ?_
      refine w_st (fun _ => rfl) ?_
      refine g_19_11 rfl ?_
      refine b_ge rfl r_x1_53 (rd_rg _ _ _) (fun hq => ?_) (fun hq => ?_)
      · replace H := H.1 hq
        refine f_int 0 rfl rfl ?_
        refine w_st (ls2 := [some (.ref 19), some (iv 0)]) (fun _ => rfl) ?_
        obtain ⟨I_108, mu_108, H0_108, HB_108⟩ := H
        have lp_108 : ∀ (z : Nat) (x1_108 : Int) (m_108 : Mm), mu_108 x1_108 m_108 < z → rg x1_108 → I_108 x1_108 m_108 → mm_W d mc_54 108 [some (.ref 19), some (iv x1_108)] [] (fm m_108) (XV Q) := by
          intro z
          induction z with
          | zero => intro x1_108 m_108 hz; exact absurd hz (Nat.not_lt_zero _)
          | succ z ih_108 =>
            intro x1_108 m_108 hz_108 r_x1_108 hI
            have H := HB_108 x1_108 m_108 r_x1_108 hI
            refine w_st (fun _ => rfl) ?_
            refine w_st (fun _ => rfl) ?_
            refine g_19_12 rfl ?_
            refine b_ge rfl r_x1_108 (rd_rg _ _ _) (fun hq => ?_) (fun hq => ?_)
            · replace H := H.1 hq
              refine f_int 0 rfl rfl ?_
              refine w_st (ls2 := [some (.ref 19), some (iv 0)]) (fun _ => rfl) ?_
              obtain ⟨I_167, mu_167, H0_167, HB_167⟩ := H
              have lp_167 : ∀ (z : Nat) (x1_167 : Int) (m_167 : Mm), mu_167 x1_167 m_167 < z → rg x1_167 → I_167 x1_167 m_167 → mm_W d mc_54 167 [some (.ref 19), some (iv x1_167)] [] (fm m_167) (XV Q) := by
                intro z
                induction z with
                | zero => intro x1_167 m_167 hz; exact absurd hz (Nat.not_lt_zero _)
                | succ z ih_167 =>
                  intro x1_167 m_167 hz_167 r_x1_167 hI
                  have H := HB_167 x1_167 m_167 r_x1_167 hI
                  refine w_st (fun _ => rfl) ?_
                  refine w_st (fun _ => rfl) ?_
                  refine g_19_13 rfl ?_
                  refine b_ge rfl r_x1_167 (rd_rg _ _ _) (fun hq => ?_) (fun hq => ?_)
                  · replace H := H.1 hq
                    refine w_st (fun _ => rfl) ?_
                    refine g_19_17 rfl ?_
                    refine f_int 0 rfl rfl ?_
                    refine w_st (fun _ => rfl) ?_
                    refine g_19_2 rfl ?_
                    refine g_7_7 rfl ?_
                    refine f_int 0 rfl rfl ?_
                    refine w_st (fun _ => rfl) ?_
                    refine g_19_17 rfl ?_
                    refine f_len ir_28 rfl ?_
                    obtain ⟨m233, e_m233⟩ : ∃ q : Mm, q = cpm m_167 28 0 10 0 18 := ⟨_, rfl⟩
                    refine f_ac ir_28 ir_10 rfl ⟨by decide, by decide, by decide, by decide, by decide⟩ rfl e_m233 ?_
                    replace H := H m233 e_m233
                    exact f_ret rfl H
                  · replace H := H.2 hq
                    refine w_st (fun _ => rfl) ?_
                    refine g_19_2 rfl ?_
                    refine g_7_6 rfl ?_
                    refine w_st (fun _ => rfl) ?_
                    refine w_st (fun _ => rfl) ?_
                    refine g_19_2 rfl ?_
                    refine w_st (fun _ => rfl) ?_
                    refine g_19_16 rfl ?_
                    refine w_st (fun _ => rfl) ?_
                    refine f_int 2 rfl rfl ?_
                    refine f_mul rfl ?_
                    refine f_ld ir_27 rfl H.1 ?_
                    replace H := H.2
                    refine w_st (fun _ => rfl) ?_
                    refine g_19_16 rfl ?_
                    refine w_st (fun _ => rfl) ?_
                    refine f_int 2 rfl rfl ?_
                    refine f_mul rfl ?_
                    refine f_int 1 rfl rfl ?_
                    refine f_add rfl ?_
                    refine f_ld ir_27 rfl H.1 ?_
                    replace H := H.2
                    refine k_VK (as := [iv (rd m_167 27 (Int.toNat (wr (x1_167 * 2)))), iv (rd m_167 27 (Int.toNat (wr ((wr (x1_167 * 2)) + 1))))]) rfl mg_54 rfl rfl (by decide) rfl rfl H (fun m205 v205 r_v205 H => ?_)
                    obtain ⟨m208, e_m208⟩ : ∃ q : Mm, q = wt m205 9 (Int.toNat x1_167) v205 := ⟨_, rfl⟩
                    refine f_st ir_9 rfl H.1 e_m208 ?_
                    replace H := H.2 m208 e_m208
                    obtain ⟨z1_209, e_z1_209⟩ : ∃ q : Int, q = wr (x1_167 + 1) := ⟨_, rfl⟩
                    have r_z1_209 : rg z1_209 := by rw [e_z1_209]; exact wr_rg _
                    replace H := H z1_209 e_z1_209
                    refine f_iinc (ls2 := [some (.ref 19), some (iv z1_209)]) 1 rfl rfl rfl e_z1_209 rfl ?_
                    refine w_st (fun _ => rfl) ?_
                    exact ih_167 z1_209 m208 (Nat.lt_of_lt_of_le H.2 (Nat.le_of_lt_succ hz_167)) r_z1_209 H.1
              exact lp_167 _ 0 m_108 (Nat.lt_succ_self _) (by unfold rg; decide) H0_167
            · replace H := H.2 hq
              refine w_st (fun _ => rfl) ?_
              refine g_19_2 rfl ?_
              refine g_7_5 rfl ?_
              refine w_st (fun _ => rfl) ?_
              refine g_19_2 rfl ?_
              refine w_st (fun _ => rfl) ?_
              refine g_19_15 rfl ?_
              refine w_st (fun _ => rfl) ?_
              refine f_int 3 rfl rfl ?_
              refine f_mul rfl ?_
              refine f_ld ir_26 rfl H.1 ?_
              replace H := H.2
              refine w_st (fun _ => rfl) ?_
              refine g_19_15 rfl ?_
              refine w_st (fun _ => rfl) ?_
              refine f_int 3 rfl rfl ?_
              refine f_mul rfl ?_
              refine f_int 1 rfl rfl ?_
              refine f_add rfl ?_
              refine f_ld ir_26 rfl H.1 ?_
              replace H := H.2
              refine k_VK (as := [iv (rd m_108 26 (Int.toNat (wr (x1_108 * 3)))), iv (rd m_108 26 (Int.toNat (wr ((wr (x1_108 * 3)) + 1))))]) rfl mg_54 rfl rfl (by decide) rfl rfl H (fun m145 v145 r_v145 H => ?_)
              refine w_st (fun _ => rfl) ?_
              refine g_19_15 rfl ?_
              refine w_st (fun _ => rfl) ?_
              refine f_int 3 rfl rfl ?_
              refine f_mul rfl ?_
              refine f_int 2 rfl rfl ?_
              refine f_add rfl ?_
              refine f_ld ir_26 rfl H.1 ?_
              replace H := H.2
              obtain ⟨m158, e_m158⟩ : ∃ q : Mm, q = wt m145 8 (Int.toNat v145) (rd m145 26 (Int.toNat (wr ((wr (x1_108 * 3)) + 2)))) := ⟨_, rfl⟩
              refine f_st ir_8 rfl H.1 e_m158 ?_
              replace H := H.2 m158 e_m158
              obtain ⟨z1_159, e_z1_159⟩ : ∃ q : Int, q = wr (x1_108 + 1) := ⟨_, rfl⟩
              have r_z1_159 : rg z1_159 := by rw [e_z1_159]; exact wr_rg _
              replace H := H z1_159 e_z1_159
              refine f_iinc (ls2 := [some (.ref 19), some (iv z1_159)]) 1 rfl rfl rfl e_z1_159 rfl ?_
              refine w_st (fun _ => rfl) ?_
              exact ih_108 z1_159 m158 (Nat.lt_of_lt_of_le H.2 (Nat.le_of_lt_succ hz_108)) r_z1_159 H.1
        exact lp_108 _ 0 m_53 (Nat.lt_succ_self _) (by unfold rg; decide) H0_108
      · replace H := H.2 hq
        refine w_st (fun _ => rfl) ?_
        refine g_19_2 rfl ?_
        refine w_st (fun _ => rfl) ?_
        refine g_7_4 rfl ?_
        refine f_int 1 rfl rfl ?_
        refine w_st (fun _ => rfl) ?_
        refine g_19_2 rfl ?_
        refine w_st (fun _ => rfl) ?_
        refine g_19_14 rfl ?_
        refine w_st (fun _ => rfl) ?_
        refine f_int 2 rfl rfl ?_
        refine f_mul rfl ?_
        refine f_ld ir_25 rfl H.1 ?_
        replace H := H.2
        refine w_st (fun _ => rfl) ?_
        refine g_19_14 rfl ?_
        refine w_st (fun _ => rfl) ?_
        refine f_int 2 rfl rfl ?_
        refine f_mul rfl ?_
        refine f_int 1 rfl rfl ?_
        refine f_add rfl ?_
        refine f_ld ir_25 rfl H.1 ?_
        replace H := H.2
        refine k_VK (as := [iv (rd m_53 25 (Int.toNat (wr (x1_53 * 2)))), iv (rd m_53 25 (Int.toNat (wr ((wr (x1_53 * 2)) + 1))))]) rfl mg_54 rfl rfl (by decide) rfl rfl H (fun m92 v92 r_v92 H => ?_)
        refine f_slI rfl ?_
        refine f_orI rfl ?_
        obtain ⟨m97, e_m97⟩ : ∃ q : Mm, q = wt m92 7 4 (orI (rd m_53 7 4) (slI 1 v92)) := ⟨_, rfl⟩
        replace H := H m97 e_m97
        refine p_7_4 rfl e_m97 ?_
        obtain ⟨z1_100, e_z1_100⟩ : ∃ q : Int, q = wr (x1_53 + 1) := ⟨_, rfl⟩
        have r_z1_100 : rg z1_100 := by rw [e_z1_100]; exact wr_rg _
        replace H := H z1_100 e_z1_100
        refine f_iinc (ls2 := [some (.ref 19), some (iv z1_100)]) 1 rfl rfl rfl e_z1_100 rfl ?_
        refine w_st (fun _ => rfl) ?_
        exact ih_53 z1_100 m97 (Nat.lt_of_lt_of_le H.2 (Nat.le_of_lt_succ hz_53)) r_z1_100 H.1
  exact lp_53 _ 0 m48 (Nat.lt_succ_self _) (by unfold rg; decide) H0_53
/-- TippedCrates$Rows.addTold(IIZ)I -/
def P_56 (d : Nat) (m : Mm) (x1 : Int) (x2 : Int) (x3 : Int) (Q : Mm → Int → Prop) : Prop :=
  (((rd m 49 0) < 20 → (((0 : Int) ≤ (rd m 49 0) ∧ (rd m 49 0) < 20) ∧ (∀ m20 : Mm, m20 = wt m 50 (Int.toNat (rd m 49 0)) x1 → (((0 : Int) ≤ (rd m20 49 0) ∧ (rd m20 49 0) < 20) ∧ (∀ m30 : Mm, m30 = wt m20 51 (Int.toNat (rd m20 49 0)) x2 → (((0 : Int) ≤ (rd m30 49 0) ∧ (rd m30 49 0) < 20) ∧ (∀ m40 : Mm, m40 = wt m30 52 (Int.toNat (rd m30 49 0)) (nz x3) → (∀ m48 : Mm, m48 = wt m40 49 0 (wr ((rd m40 49 0) + 1)) → Q m48 (wr ((rd m48 49 0) - 1)))))))))) ∧
    (¬ (rd m 49 0) < 20 → Q m (-1)))
set_option maxRecDepth 20000 in
theorem br_56 {d : Nat} {m : Mm} {x1 : Int} {x2 : Int} {x3 : Int} {Q : Mm → Int → Prop} (r_x1 : rg x1) (r_x2 : rg x2) (r_x3 : rg x3) (H : P_56 d m x1 x2 x3 Q) : CK (d + 1) 56 [.ref 49, iv x1, iv x2, iv x3] m Q := by
  unfold P_56 at H
  refine CK_of rfl ?_
  show mm_W d mc_56 0 [some (.ref 49), some (iv x1), some (iv x2), some (iv x3)] [] (fm m) (XK Q)
  refine w_st (fun _ => rfl) ?_
  refine g_49_0 rfl ?_
  refine f_int 20 rfl rfl ?_
  refine b_lt rfl (rd_rg _ _ _) (by unfold rg; decide) (fun hq => ?_) (fun hq => ?_)
  · replace H := H.1 hq
    refine w_st (fun _ => rfl) ?_
    refine g_49_4 rfl ?_
    refine w_st (fun _ => rfl) ?_
    refine g_49_0 rfl ?_
    refine w_st (fun _ => rfl) ?_
    obtain ⟨m20, e_m20⟩ : ∃ q : Mm, q = wt m 50 (Int.toNat (rd m 49 0)) x1 := ⟨_, rfl⟩
    refine f_st ir_50 rfl H.1 e_m20 ?_
    replace H := H.2 m20 e_m20
    refine w_st (fun _ => rfl) ?_
    refine g_49_5 rfl ?_
    refine w_st (fun _ => rfl) ?_
    refine g_49_0 rfl ?_
    refine w_st (fun _ => rfl) ?_
    obtain ⟨m30, e_m30⟩ : ∃ q : Mm, q = wt m20 51 (Int.toNat (rd m20 49 0)) x2 := ⟨_, rfl⟩
    refine f_st ir_51 rfl H.1 e_m30 ?_
    replace H := H.2 m30 e_m30
    refine w_st (fun _ => rfl) ?_
    refine g_49_6 rfl ?_
    refine w_st (fun _ => rfl) ?_
    refine g_49_0 rfl ?_
    refine w_st (fun _ => rfl) ?_
    obtain ⟨m40, e_m40⟩ : ∃ q : Mm, q = wt m30 52 (Int.toNat (rd m30 49 0)) (nz x3) := ⟨_, rfl⟩
    refine f_stz (n := 20) (by decide) (fun _ => rfl) (by decide) rfl H.1 e_m40 ?_
    replace H := H.2 m40 e_m40
    refine w_st (fun _ => rfl) ?_
    refine w_st (fun _ => rfl) ?_
    refine g_49_0 rfl ?_
    refine f_int 1 rfl rfl ?_
    refine f_add rfl ?_
    obtain ⟨m48, e_m48⟩ : ∃ q : Mm, q = wt m40 49 0 (wr ((rd m40 49 0) + 1)) := ⟨_, rfl⟩
    replace H := H m48 e_m48
    refine p_49_0 rfl e_m48 ?_
    refine w_st (fun _ => rfl) ?_
    refine g_49_0 rfl ?_
    refine f_int 1 rfl rfl ?_
    refine f_sub rfl ?_
    exact f_iret rfl (wr_rg _) H
  · replace H := H.2 hq
    refine f_int (-1) rfl rfl ?_
    exact f_iret rfl (by unfold rg; decide) H
/-- TippedCrates$Rows.clearTold()I -/
def P_57 (d : Nat) (m : Mm)  (Q : Mm → Int → Prop) : Prop :=
  (∀ z1_4 : Int, z1_4 = (rd m 49 0) → (∀ m7 : Mm, m7 = wt m 49 0 0 → Q m7 z1_4))
set_option maxRecDepth 20000 in
theorem br_57 {d : Nat} {m : Mm}  {Q : Mm → Int → Prop}  (H : P_57 d m  Q) : CK (d + 1) 57 [.ref 49] m Q := by
  unfold P_57 at H
  refine CK_of rfl ?_
  show mm_W d mc_57 0 [some (.ref 49), none] [] (fm m) (XK Q)
  refine w_st (fun _ => rfl) ?_
  refine g_49_0 rfl ?_
  obtain ⟨z1_4, e_z1_4⟩ : ∃ q : Int, q = (rd m 49 0) := ⟨_, rfl⟩
  have r_z1_4 : rg z1_4 := by rw [e_z1_4]; exact (rd_rg _ _ _)
  replace H := H z1_4 e_z1_4
  refine f_nm e_z1_4 ?_
  refine w_st (ls2 := [some (.ref 49), some (iv z1_4)]) (fun _ => rfl) ?_
  refine w_st (fun _ => rfl) ?_
  refine f_int 0 rfl rfl ?_
  obtain ⟨m7, e_m7⟩ : ∃ q : Mm, q = wt m 49 0 0 := ⟨_, rfl⟩
  replace H := H m7 e_m7
  refine p_49_0 rfl e_m7 ?_
  refine w_st (fun _ => rfl) ?_
  exact f_iret rfl r_z1_4 H
/-- TippedCrates$Rows.findRows(II)V -/
def P_58 (d : Nat) (m : Mm) (x1 : Int) (x2 : Int) (Q : Mm → Prop) : Prop :=
  (∀ m2 : Mm, m2 = wt m 49 9 x1 → (∀ m7 : Mm, m7 = wt m2 49 10 x2 → (∀ m12 : Mm, m12 = wt m7 49 1 0 → (∀ m18 : Mm, m18 = wt m12 49 2 (-2) → CV d 299 [.ref 54, iv 0] m18 (fun m26 =>
    (∃ (I_31 : Int → Prop) (mu_31 : Int → Nat), I_31 0 ∧
    ∀ (x3_31 : Int) , rg x3_31 → I_31 x3_31 →
    (((rd m26 49 9) ≤ x3_31 → CV d 59 [.ref 49, iv (rd m26 36 1), iv 0, iv 0] m26 (fun m69 =>
          Q m69)) ∧
        (¬ (rd m26 49 9) ≤ x3_31 → (((0 : Int) ≤ x3_31 ∧ x3_31 < 20) ∧ (((rd m26 50 (Int.toNat x3_31)) ≤ (rd m26 49 10) → (∀ z3_53 : Int, z3_53 = wr (x3_31 + 1) → (I_31 z3_53 ∧ mu_31 z3_53 < mu_31 x3_31))) ∧
          (¬ (rd m26 50 (Int.toNat x3_31)) ≤ (rd m26 49 10) → Q m26)))))))))))
set_option maxRecDepth 20000 in
theorem br_58 {d : Nat} {m : Mm} {x1 : Int} {x2 : Int} {Q : Mm → Prop} (r_x1 : rg x1) (r_x2 : rg x2) (H : P_58 d m x1 x2 Q) : CV (d + 1) 58 [.ref 49, iv x1, iv x2] m Q := by
  unfold P_58 at H
  refine CV_of rfl ?_
  show mm_W d mc_58 0 [some (.ref 49), some (iv x1), some (iv x2), none] [] (fm m) (XV Q)
  refine w_st (fun _ => rfl) ?_
  refine w_st (fun _ => rfl) ?_
  obtain ⟨m2, e_m2⟩ : ∃ q : Mm, q = wt m 49 9 x1 := ⟨_, rfl⟩
  replace H := H m2 e_m2
  refine p_49_9 rfl e_m2 ?_
  refine w_st (fun _ => rfl) ?_
  refine w_st (fun _ => rfl) ?_
  obtain ⟨m7, e_m7⟩ : ∃ q : Mm, q = wt m2 49 10 x2 := ⟨_, rfl⟩
  replace H := H m7 e_m7
  refine p_49_10 rfl e_m7 ?_
  refine w_st (fun _ => rfl) ?_
  refine f_int 0 rfl rfl ?_
  obtain ⟨m12, e_m12⟩ : ∃ q : Mm, q = wt m7 49 1 0 := ⟨_, rfl⟩
  replace H := H m12 e_m12
  refine p_49_1 rfl e_m12 ?_
  refine w_st (fun _ => rfl) ?_
  refine f_int (-2) rfl rfl ?_
  obtain ⟨m18, e_m18⟩ : ∃ q : Mm, q = wt m12 49 2 (-2) := ⟨_, rfl⟩
  replace H := H m18 e_m18
  refine p_49_2 rfl e_m18 ?_
  refine w_st (fun _ => rfl) ?_
  refine g_49_8 rfl ?_
  refine f_int 0 rfl rfl ?_
  refine k_SV (as := [.ref 54, iv 0]) rfl mg_58 rfl rfl rfl H (fun m26 H => ?_)
  refine f_int 0 rfl rfl ?_
  refine w_st (ls2 := [some (.ref 49), some (iv x1), some (iv x2), some (iv 0)]) (fun _ => rfl) ?_
  obtain ⟨I_31, mu_31, H0_31, HB_31⟩ := H
  have lp_31 : ∀ (z : Nat) (x3_31 : Int) , mu_31 x3_31 < z → rg x3_31 → I_31 x3_31 → mm_W d mc_58 31 [some (.ref 49), some (iv x1), some (iv x2), some (iv x3_31)] [] (fm m26) (XV Q) := by
    intro z
    induction z with
    | zero => intro x3_31 hz; exact absurd hz (Nat.not_lt_zero _)
    | succ z ih_31 =>
      intro x3_31 hz_31 r_x3_31 hI
      have H := HB_31 x3_31 r_x3_31 hI
      refine w_st (fun _ => rfl) ?_
      refine w_st (fun _ => rfl) ?_
      refine g_49_9 rfl ?_
      refine b_ge rfl r_x3_31 (rd_rg _ _ _) (fun hq => ?_) (fun hq => ?_)
      · replace H := H.1 hq
        refine w_st (fun _ => rfl) ?_
        refine w_st (fun _ => rfl) ?_
        refine g_49_3 rfl ?_
        refine g_36_1 rfl ?_
        refine f_int 0 rfl rfl ?_
        refine f_int 0 rfl rfl ?_
        refine k_VV (as := [iv (rd m26 36 1), iv 0, iv 0]) rfl mg_58 rfl rfl (by decide) rfl rfl H (fun m69 H => ?_)
        exact f_ret rfl H
      · replace H := H.2 hq
        refine w_st (fun _ => rfl) ?_
        refine g_49_4 rfl ?_
        refine w_st (fun _ => rfl) ?_
        refine f_ld ir_50 rfl H.1 ?_
        replace H := H.2
        refine w_st (fun _ => rfl) ?_
        refine g_49_10 rfl ?_
        refine b_le rfl (rd_rg _ _ _) (rd_rg _ _ _) (fun hq => ?_) (fun hq => ?_)
        · replace H := H.1 hq
          obtain ⟨z3_53, e_z3_53⟩ : ∃ q : Int, q = wr (x3_31 + 1) := ⟨_, rfl⟩
          have r_z3_53 : rg z3_53 := by rw [e_z3_53]; exact wr_rg _
          replace H := H z3_53 e_z3_53
          refine f_iinc (ls2 := [some (.ref 49), some (iv x1), some (iv x2), some (iv z3_53)]) 1 rfl rfl rfl e_z3_53 rfl ?_
          refine w_st (fun _ => rfl) ?_
          exact ih_31 z3_53 (Nat.lt_of_lt_of_le H.2 (Nat.le_of_lt_succ hz_31)) r_z3_53 H.1
        · replace H := H.2 hq
          exact f_ret rfl H
  exact lp_31 _ 0 (Nat.lt_succ_self _) (by unfold rg; decide) H0_31
/-- TippedCrates$Rows.tryRows(III)V -/
def P_59 (d : Nat) (m : Mm) (x1 : Int) (x2 : Int) (x3 : Int) (Q : Mm → Prop) : Prop :=
  (∃ R_13 : Prop,
    (((rd m 49 10) ≤ x2 → R_13) ∧
    (¬ (rd m 49 10) ≤ x2 → ((x2 < 5 → (∃ (I_22 : Int → Mm → Prop) (mu_22 : Int → Mm → Nat), I_22 0 m ∧
        ∀ (x4_22 : Int) (m_22 : Mm), rg x4_22 → I_22 x4_22 m_22 →
        ((4 ≤ x4_22 → Q m_22) ∧
            (¬ 4 ≤ x4_22 → CK d 71 [.ref 36, iv x1, iv x4_22] m_22 (fun m35 v35 =>
              (∃ R_95 : Mm → Prop,
              ((¬ v35 = (-1) → CK d 73 [.ref 36, iv v35] m35 (fun m60 v60 =>
                (((0 : Int) ≤ x2 ∧ x2 < 5) ∧ (∀ m63 : Mm, m63 = wt m60 53 (Int.toNat x2) v60 → (((0 : Int) ≤ x2 ∧ x2 < 5) ∧ CK d 60 [.ref 49, iv (wr (x2 + 1)), iv (rd m63 53 (Int.toNat x2))] m63 (fun m74 v74 =>
                ((v74 = 0 → R_95 m74) ∧
                (¬ v74 = 0 → CV d 59 [.ref 49, iv v35, iv (wr (x2 + 1)), iv (wr ((wr (x3 * 4)) + x4_22))] m74 (fun m92 =>
                  R_95 m92))))))))) ∧
              (v35 = (-1) → R_95 m35)) ∧
              (∀ (m_95 : Mm), R_95 m_95 →
              (∀ z4_95 : Int, z4_95 = wr (x4_22 + 1) → (I_22 z4_95 m_95 ∧ mu_22 z4_95 m_95 < mu_22 x4_22 m_22))))))))) ∧
      (¬ x2 < 5 → R_13)))) ∧
    (R_13 →
    CV d 61 [.ref 49, iv x3] m (fun m15 =>
      Q m15)))
set_option maxRecDepth 20000 in
theorem br_59 {d : Nat} {m : Mm} {x1 : Int} {x2 : Int} {x3 : Int} {Q : Mm → Prop} (r_x1 : rg x1) (r_x2 : rg x2) (r_x3 : rg x3) (H : P_59 d m x1 x2 x3 Q) : CV (d + 1) 59 [.ref 49, iv x1, iv x2, iv x3] m Q := by
  unfold P_59 at H
  refine CV_of rfl ?_
  show mm_W d mc_59 0 [some (.ref 49), some (iv x1), some (iv x2), some (iv x3), none, none] [] (fm m) (XV Q)
  refine w_st (fun _ => rfl) ?_
  refine w_st (fun _ => rfl) ?_
  refine g_49_10 rfl ?_
  obtain ⟨R_13, H, HJ_13⟩ := H
  have tl_13 : R_13 → mm_W d mc_59 13 [some (.ref 49), some (iv x1), some (iv x2), some (iv x3), none, none] [] (fm m) (XV Q) := by
    intro   hR
    have H := HJ_13   hR
    refine w_st (fun _ => rfl) ?_
    refine w_st (fun _ => rfl) ?_
    refine k_VV (as := [iv x3]) rfl mg_59 rfl rfl (by decide) rfl rfl H (fun m15 H => ?_)
    exact f_ret rfl H
  refine b_ge rfl r_x2 (rd_rg _ _ _) (fun hq => ?_) (fun hq => ?_)
  · replace H := H.1 hq
    exact tl_13   H
  · replace H := H.2 hq
    refine w_st (fun _ => rfl) ?_
    refine f_int 5 rfl rfl ?_
    refine b_lt rfl r_x2 (by unfold rg; decide) (fun hq => ?_) (fun hq => ?_)
    · replace H := H.1 hq
      refine f_int 0 rfl rfl ?_
      refine w_st (ls2 := [some (.ref 49), some (iv x1), some (iv x2), some (iv x3), some (iv 0), none]) (fun _ => rfl) ?_
      obtain ⟨I_22, mu_22, H0_22, HB_22⟩ := H
      have lp_22 : ∀ (z : Nat) (x4_22 : Int) (m_22 : Mm) (g5_22 : Option Value), mu_22 x4_22 m_22 < z → rg x4_22 → I_22 x4_22 m_22 → mm_W d mc_59 22 [some (.ref 49), some (iv x1), some (iv x2), some (iv x3), some (iv x4_22), g5_22] [] (fm m_22) (XV Q) := by
        intro z
        induction z with
        | zero => intro x4_22 m_22 g5_22 hz; exact absurd hz (Nat.not_lt_zero _)
        | succ z ih_22 =>
          intro x4_22 m_22 g5_22 hz_22 r_x4_22 hI
          have H := HB_22 x4_22 m_22 r_x4_22 hI
          refine w_st (fun _ => rfl) ?_
          refine f_int 4 rfl rfl ?_
          refine b_ge rfl r_x4_22 (by unfold rg; decide) (fun hq => ?_) (fun hq => ?_)
          · replace H := H.1 hq
            exact f_ret rfl H
          · replace H := H.2 hq
            refine w_st (fun _ => rfl) ?_
            refine g_49_3 rfl ?_
            refine w_st (fun _ => rfl) ?_
            refine w_st (fun _ => rfl) ?_
            refine k_VK (as := [iv x1, iv x4_22]) rfl mg_59 rfl rfl (by decide) rfl rfl H (fun m35 v35 r_v35 H => ?_)
            refine w_st (ls2 := [some (.ref 49), some (iv x1), some (iv x2), some (iv x3), some (iv x4_22), some (iv v35)]) (fun _ => rfl) ?_
            refine w_st (fun _ => rfl) ?_
            refine f_int (-1) rfl rfl ?_
            obtain ⟨R_95, H, HJ_95⟩ := H
            have tl_95 : ∀ (m_95 : Mm), R_95 m_95 → mm_W d mc_59 95 [some (.ref 49), some (iv x1), some (iv x2), some (iv x3), some (iv x4_22), some (iv v35)] [] (fm m_95) (XV Q) := by
              intro m_95  hR
              have H := HJ_95 m_95  hR
              obtain ⟨z4_95, e_z4_95⟩ : ∃ q : Int, q = wr (x4_22 + 1) := ⟨_, rfl⟩
              have r_z4_95 : rg z4_95 := by rw [e_z4_95]; exact wr_rg _
              replace H := H z4_95 e_z4_95
              refine f_iinc (ls2 := [some (.ref 49), some (iv x1), some (iv x2), some (iv x3), some (iv z4_95), some (iv v35)]) 1 rfl rfl rfl e_z4_95 rfl ?_
              refine w_st (fun _ => rfl) ?_
              exact ih_22 z4_95 m_95 (some (iv v35)) (Nat.lt_of_lt_of_le H.2 (Nat.le_of_lt_succ hz_22)) r_z4_95 H.1
            refine b_ne rfl r_v35 (by unfold rg; decide) (fun hq => ?_) (fun hq => ?_)
            · replace H := H.1 hq
              refine w_st (fun _ => rfl) ?_
              refine g_49_7 rfl ?_
              refine w_st (fun _ => rfl) ?_
              refine w_st (fun _ => rfl) ?_
              refine g_49_3 rfl ?_
              refine w_st (fun _ => rfl) ?_
              refine k_VK (as := [iv v35]) rfl mg_59 rfl rfl (by decide) rfl rfl H (fun m60 v60 r_v60 H => ?_)
              obtain ⟨m63, e_m63⟩ : ∃ q : Mm, q = wt m60 53 (Int.toNat x2) v60 := ⟨_, rfl⟩
              refine f_st ir_53 rfl H.1 e_m63 ?_
              replace H := H.2 m63 e_m63
              refine w_st (fun _ => rfl) ?_
              refine w_st (fun _ => rfl) ?_
              refine f_int 1 rfl rfl ?_
              refine f_add rfl ?_
              refine w_st (fun _ => rfl) ?_
              refine g_49_7 rfl ?_
              refine w_st (fun _ => rfl) ?_
              refine f_ld ir_53 rfl H.1 ?_
              replace H := H.2
              refine k_VK (as := [iv (wr (x2 + 1)), iv (rd m63 53 (Int.toNat x2))]) rfl mg_59 rfl rfl (by decide) rfl rfl H (fun m74 v74 r_v74 H => ?_)
              refine z_eq rfl r_v74 (fun hq => ?_) (fun hq => ?_)
              · replace H := H.1 hq
                exact tl_95 m74  H
              · replace H := H.2 hq
                refine w_st (fun _ => rfl) ?_
                refine w_st (fun _ => rfl) ?_
                refine w_st (fun _ => rfl) ?_
                refine f_int 1 rfl rfl ?_
                refine f_add rfl ?_
                refine w_st (fun _ => rfl) ?_
                refine f_int 4 rfl rfl ?_
                refine f_mul rfl ?_
                refine w_st (fun _ => rfl) ?_
                refine f_add rfl ?_
                refine k_VV (as := [iv v35, iv (wr (x2 + 1)), iv (wr ((wr (x3 * 4)) + x4_22))]) rfl mg_59 rfl rfl (by decide) rfl rfl H (fun m92 H => ?_)
                exact tl_95 m92  H
            · replace H := H.2 hq
              refine w_st (fun _ => rfl) ?_
              exact tl_95 m35  H
      exact lp_22 _ 0 m none (Nat.lt_succ_self _) (by unfold rg; decide) H0_22
    · replace H := H.2 hq
      exact tl_13   H
/-- TippedCrates$Rows.isAsKnown(II)Z -/
def P_60 (d : Nat) (m : Mm) (x1 : Int) (x2 : Int) (Q : Mm → Int → Prop) : Prop :=
  (∃ (I_2 : Int → Prop) (mu_2 : Int → Nat), I_2 0 ∧
    ∀ (x3_2 : Int) , rg x3_2 → I_2 x3_2 →
    (((rd m 49 9) ≤ x3_2 → Q m 1) ∧
        (¬ (rd m 49 9) ≤ x3_2 → (((0 : Int) ≤ x3_2 ∧ x3_2 < 20) ∧ (∃ R_46 : Prop,
          ((¬ (rd m 50 (Int.toNat x3_2)) = x1 → R_46) ∧
          ((rd m 50 (Int.toNat x3_2)) = x1 → (((0 : Int) ≤ x3_2 ∧ x3_2 < 20) ∧ (((0 : Int) ≤ x3_2 ∧ x3_2 < 20) ∧ (∃ R_41 : Int → Prop,
            ((¬ (rd m 51 (Int.toNat x3_2)) = x2 → R_41 0) ∧
            ((rd m 51 (Int.toNat x3_2)) = x2 → R_41 1)) ∧
            (∀ (s1_41 : Int) , rg s1_41 → R_41 s1_41 →
            (((rd m 52 (Int.toNat x3_2)) = s1_41 → R_46) ∧
              (¬ (rd m 52 (Int.toNat x3_2)) = s1_41 → Q m 0)))))))) ∧
          (R_46 →
          (∀ z3_46 : Int, z3_46 = wr (x3_2 + 1) → (I_2 z3_46 ∧ mu_2 z3_46 < mu_2 x3_2))))))))
set_option maxRecDepth 20000 in
theorem br_60 {d : Nat} {m : Mm} {x1 : Int} {x2 : Int} {Q : Mm → Int → Prop} (r_x1 : rg x1) (r_x2 : rg x2) (H : P_60 d m x1 x2 Q) : CK (d + 1) 60 [.ref 49, iv x1, iv x2] m Q := by
  unfold P_60 at H
  refine CK_of rfl ?_
  show mm_W d mc_60 0 [some (.ref 49), some (iv x1), some (iv x2), none] [] (fm m) (XK Q)
  refine f_int 0 rfl rfl ?_
  refine w_st (ls2 := [some (.ref 49), some (iv x1), some (iv x2), some (iv 0)]) (fun _ => rfl) ?_
  obtain ⟨I_2, mu_2, H0_2, HB_2⟩ := H
  have lp_2 : ∀ (z : Nat) (x3_2 : Int) , mu_2 x3_2 < z → rg x3_2 → I_2 x3_2 → mm_W d mc_60 2 [some (.ref 49), some (iv x1), some (iv x2), some (iv x3_2)] [] (fm m) (XK Q) := by
    intro z
    induction z with
    | zero => intro x3_2 hz; exact absurd hz (Nat.not_lt_zero _)
    | succ z ih_2 =>
      intro x3_2 hz_2 r_x3_2 hI
      have H := HB_2 x3_2 r_x3_2 hI
      refine w_st (fun _ => rfl) ?_
      refine w_st (fun _ => rfl) ?_
      refine g_49_9 rfl ?_
      refine b_ge rfl r_x3_2 (rd_rg _ _ _) (fun hq => ?_) (fun hq => ?_)
      · replace H := H.1 hq
        refine f_int 1 rfl rfl ?_
        exact f_zret rfl (by unfold rg; decide) (Or.inr rfl) H
      · replace H := H.2 hq
        refine w_st (fun _ => rfl) ?_
        refine g_49_4 rfl ?_
        refine w_st (fun _ => rfl) ?_
        refine f_ld ir_50 rfl H.1 ?_
        replace H := H.2
        refine w_st (fun _ => rfl) ?_
        obtain ⟨R_46, H, HJ_46⟩ := H
        have tl_46 : R_46 → mm_W d mc_60 46 [some (.ref 49), some (iv x1), some (iv x2), some (iv x3_2)] [] (fm m) (XK Q) := by
          intro   hR
          have H := HJ_46   hR
          obtain ⟨z3_46, e_z3_46⟩ : ∃ q : Int, q = wr (x3_2 + 1) := ⟨_, rfl⟩
          have r_z3_46 : rg z3_46 := by rw [e_z3_46]; exact wr_rg _
          replace H := H z3_46 e_z3_46
          refine f_iinc (ls2 := [some (.ref 49), some (iv x1), some (iv x2), some (iv z3_46)]) 1 rfl rfl rfl e_z3_46 rfl ?_
          refine w_st (fun _ => rfl) ?_
          exact ih_2 z3_46 (Nat.lt_of_lt_of_le H.2 (Nat.le_of_lt_succ hz_2)) r_z3_46 H.1
        refine b_ne rfl (rd_rg _ _ _) r_x1 (fun hq => ?_) (fun hq => ?_)
        · replace H := H.1 hq
          exact tl_46   H
        · replace H := H.2 hq
          refine w_st (fun _ => rfl) ?_
          refine g_49_6 rfl ?_
          refine w_st (fun _ => rfl) ?_
          refine f_ldz (n := 20) (by decide) rfl (by decide) rfl H.1 ?_
          replace H := H.2
          refine w_st (fun _ => rfl) ?_
          refine g_49_5 rfl ?_
          refine w_st (fun _ => rfl) ?_
          refine f_ld ir_51 rfl H.1 ?_
          replace H := H.2
          refine w_st (fun _ => rfl) ?_
          obtain ⟨R_41, H, HJ_41⟩ := H
          have tl_41 : ∀ (s1_41 : Int) , rg s1_41 → R_41 s1_41 → mm_W d mc_60 41 [some (.ref 49), some (iv x1), some (iv x2), some (iv x3_2)] [iv s1_41, iv (rd m 52 (Int.toNat x3_2))] (fm m) (XK Q) := by
            intro s1_41 r_s1_41 hR
            have H := HJ_41 s1_41 r_s1_41 hR
            refine b_eq rfl (rd_rg _ _ _) r_s1_41 (fun hq => ?_) (fun hq => ?_)
            · replace H := H.1 hq
              exact tl_46   H
            · replace H := H.2 hq
              refine f_int 0 rfl rfl ?_
              exact f_zret rfl (by unfold rg; decide) (Or.inl rfl) H
          refine b_ne rfl (rd_rg _ _ _) r_x2 (fun hq => ?_) (fun hq => ?_)
          · replace H := H.1 hq
            refine f_int 0 rfl rfl ?_
            exact tl_41 0 (by unfold rg; decide) H
          · replace H := H.2 hq
            refine f_int 1 rfl rfl ?_
            refine w_st (fun _ => rfl) ?_
            exact tl_41 1 (by unfold rg; decide) H
  exact lp_2 _ 0 (Nat.lt_succ_self _) (by unfold rg; decide) H0_2
/-- TippedCrates$Rows.noteRow(I)V -/
def P_61 (d : Nat) (m : Mm) (x1 : Int) (Q : Mm → Prop) : Prop :=
  (∃ R_12 : Mm → Prop,
    ((¬ (rd m 49 1) = 0 → R_12 m) ∧
    ((rd m 49 1) = 0 → (∀ m9 : Mm, m9 = wt m 49 2 x1 → R_12 m9))) ∧
    (∀ (m_12 : Mm), R_12 m_12 →
    (∀ m19 : Mm, m19 = wt m_12 49 1 (wr ((rd m_12 49 1) + 1)) → (∃ (I_24 : Int → Mm → Prop) (mu_24 : Int → Mm → Nat), I_24 0 m19 ∧
      ∀ (x2_24 : Int) (m_24 : Mm), rg x2_24 → I_24 x2_24 m_24 →
      (((rd m_24 49 10) ≤ x2_24 → Q m_24) ∧
          (¬ (rd m_24 49 10) ≤ x2_24 → (((0 : Int) ≤ x2_24 ∧ x2_24 < 5) ∧ (((0 : Int) ≤ (wr ((wr (x2_24 * 10)) + (rd m_24 53 (Int.toNat x2_24)))) ∧ (wr ((wr (x2_24 * 10)) + (rd m_24 53 (Int.toNat x2_24)))) < 50) ∧ (((0 : Int) ≤ (wr ((wr (x2_24 * 10)) + (rd m_24 53 (Int.toNat x2_24)))) ∧ (wr ((wr (x2_24 * 10)) + (rd m_24 53 (Int.toNat x2_24)))) < 50) ∧ (∀ m51 : Mm, m51 = wt m_24 54 (Int.toNat (wr ((wr (x2_24 * 10)) + (rd m_24 53 (Int.toNat x2_24))))) (wr ((rd m_24 54 (Int.toNat (wr ((wr (x2_24 * 10)) + (rd m_24 53 (Int.toNat x2_24)))))) + 1)) → (∀ z2_52 : Int, z2_52 = wr (x2_24 + 1) → (I_24 z2_52 m51 ∧ mu_24 z2_52 m51 < mu_24 x2_24 m_24))))))))))))
set_option maxRecDepth 20000 in
theorem br_61 {d : Nat} {m : Mm} {x1 : Int} {Q : Mm → Prop} (r_x1 : rg x1) (H : P_61 d m x1 Q) : CV (d + 1) 61 [.ref 49, iv x1] m Q := by
  unfold P_61 at H
  refine CV_of rfl ?_
  show mm_W d mc_61 0 [some (.ref 49), some (iv x1), none] [] (fm m) (XV Q)
  refine w_st (fun _ => rfl) ?_
  refine g_49_1 rfl ?_
  obtain ⟨R_12, H, HJ_12⟩ := H
  have tl_12 : ∀ (m_12 : Mm), R_12 m_12 → mm_W d mc_61 12 [some (.ref 49), some (iv x1), none] [] (fm m_12) (XV Q) := by
    intro m_12  hR
    have H := HJ_12 m_12  hR
    refine w_st (fun _ => rfl) ?_
    refine w_st (fun _ => rfl) ?_
    refine g_49_1 rfl ?_
    refine f_int 1 rfl rfl ?_
    refine f_add rfl ?_
    obtain ⟨m19, e_m19⟩ : ∃ q : Mm, q = wt m_12 49 1 (wr ((rd m_12 49 1) + 1)) := ⟨_, rfl⟩
    replace H := H m19 e_m19
    refine p_49_1 rfl e_m19 ?_
    refine f_int 0 rfl rfl ?_
    refine w_st (ls2 := [some (.ref 49), some (iv x1), some (iv 0)]) (fun _ => rfl) ?_
    obtain ⟨I_24, mu_24, H0_24, HB_24⟩ := H
    have lp_24 : ∀ (z : Nat) (x2_24 : Int) (m_24 : Mm), mu_24 x2_24 m_24 < z → rg x2_24 → I_24 x2_24 m_24 → mm_W d mc_61 24 [some (.ref 49), some (iv x1), some (iv x2_24)] [] (fm m_24) (XV Q) := by
      intro z
      induction z with
      | zero => intro x2_24 m_24 hz; exact absurd hz (Nat.not_lt_zero _)
      | succ z ih_24 =>
        intro x2_24 m_24 hz_24 r_x2_24 hI
        have H := HB_24 x2_24 m_24 r_x2_24 hI
        refine w_st (fun _ => rfl) ?_
        refine w_st (fun _ => rfl) ?_
        refine g_49_10 rfl ?_
        refine b_ge rfl r_x2_24 (rd_rg _ _ _) (fun hq => ?_) (fun hq => ?_)
        · replace H := H.1 hq
          exact f_ret rfl H
        · replace H := H.2 hq
          refine w_st (fun _ => rfl) ?_
          refine g_49_8 rfl ?_
          refine w_st (fun _ => rfl) ?_
          refine f_int 10 rfl rfl ?_
          refine f_mul rfl ?_
          refine w_st (fun _ => rfl) ?_
          refine g_49_7 rfl ?_
          refine w_st (fun _ => rfl) ?_
          refine f_ld ir_53 rfl H.1 ?_
          replace H := H.2
          refine f_add rfl ?_
          refine w_st (fun _ => rfl) ?_
          refine f_ld ir_54 rfl H.1 ?_
          replace H := H.2
          refine f_int 1 rfl rfl ?_
          refine f_add rfl ?_
          obtain ⟨m51, e_m51⟩ : ∃ q : Mm, q = wt m_24 54 (Int.toNat (wr ((wr (x2_24 * 10)) + (rd m_24 53 (Int.toNat x2_24))))) (wr ((rd m_24 54 (Int.toNat (wr ((wr (x2_24 * 10)) + (rd m_24 53 (Int.toNat x2_24)))))) + 1)) := ⟨_, rfl⟩
          refine f_st ir_54 rfl H.1 e_m51 ?_
          replace H := H.2 m51 e_m51
          obtain ⟨z2_52, e_z2_52⟩ : ∃ q : Int, q = wr (x2_24 + 1) := ⟨_, rfl⟩
          have r_z2_52 : rg z2_52 := by rw [e_z2_52]; exact wr_rg _
          replace H := H z2_52 e_z2_52
          refine f_iinc (ls2 := [some (.ref 49), some (iv x1), some (iv z2_52)]) 1 rfl rfl rfl e_z2_52 rfl ?_
          refine w_st (fun _ => rfl) ?_
          exact ih_24 z2_52 m51 (Nat.lt_of_lt_of_le H.2 (Nat.le_of_lt_succ hz_24)) r_z2_52 H.1
    exact lp_24 _ 0 m19 (Nat.lt_succ_self _) (by unfold rg; decide) H0_24
  refine z_ne rfl (rd_rg _ _ _) (fun hq => ?_) (fun hq => ?_)
  · replace H := H.1 hq
    exact tl_12 m  H
  · replace H := H.2 hq
    refine w_st (fun _ => rfl) ?_
    refine w_st (fun _ => rfl) ?_
    obtain ⟨m9, e_m9⟩ : ∃ q : Mm, q = wt m 49 2 x1 := ⟨_, rfl⟩
    replace H := H m9 e_m9
    refine p_49_2 rfl e_m9 ?_
    exact tl_12 m9  H
/-- TippedCrates$Rows.bestToHear(I)I -/
def P_62 (d : Nat) (m : Mm) (x1 : Int) (Q : Mm → Int → Prop) : Prop :=
  ((¬ (rd m 49 1) = 0 → (∃ (I_19 : Int → Int → Int → Mm → Prop) (mu_19 : Int → Int → Int → Mm → Nat), I_19 (-1) 1025 1 m ∧
      ∀ (x2_19 x3_19 x4_19 : Int) (m_19 : Mm), rg x2_19 → rg x3_19 → rg x4_19 → I_19 x2_19 x3_19 x4_19 m_19 →
      ((x1 < x4_19 → Q m_19 x2_19) ∧
          (¬ x1 < x4_19 → CK d 63 [.ref 49, iv x4_19] m_19 (fun m28 v28 =>
            (∃ R_45 : Int → Int → Prop,
            ((x3_19 ≤ v28 → R_45 x2_19 x3_19) ∧
            (¬ x3_19 ≤ v28 → R_45 x4_19 v28)) ∧
            (∀ (y2_45 y3_45 : Int) , rg y2_45 → rg y3_45 → R_45 y2_45 y3_45 →
            (∀ z4_45 : Int, z4_45 = wr (x4_19 + 1) → (I_19 y2_45 y3_45 z4_45 m28 ∧ mu_19 y2_45 y3_45 z4_45 m28 < mu_19 x2_19 x3_19 x4_19 m_19))))))))) ∧
    ((rd m 49 1) = 0 → Q m (-2)))
set_option maxRecDepth 20000 in
theorem br_62 {d : Nat} {m : Mm} {x1 : Int} {Q : Mm → Int → Prop} (r_x1 : rg x1) (H : P_62 d m x1 Q) : CK (d + 1) 62 [.ref 49, iv x1] m Q := by
  unfold P_62 at H
  refine CK_of rfl ?_
  show mm_W d mc_62 0 [some (.ref 49), some (iv x1), none, none, none, none] [] (fm m) (XK Q)
  refine w_st (fun _ => rfl) ?_
  refine g_49_1 rfl ?_
  refine z_ne rfl (rd_rg _ _ _) (fun hq => ?_) (fun hq => ?_)
  · replace H := H.1 hq
    refine f_int (-1) rfl rfl ?_
    refine w_st (ls2 := [some (.ref 49), some (iv x1), some (iv (-1)), none, none, none]) (fun _ => rfl) ?_
    refine f_int 1025 rfl rfl ?_
    refine w_st (ls2 := [some (.ref 49), some (iv x1), some (iv (-1)), some (iv 1025), none, none]) (fun _ => rfl) ?_
    refine f_int 1 rfl rfl ?_
    refine w_st (ls2 := [some (.ref 49), some (iv x1), some (iv (-1)), some (iv 1025), some (iv 1), none]) (fun _ => rfl) ?_
    obtain ⟨I_19, mu_19, H0_19, HB_19⟩ := H
    have lp_19 : ∀ (z : Nat) (x2_19 x3_19 x4_19 : Int) (m_19 : Mm) (g5_19 : Option Value), mu_19 x2_19 x3_19 x4_19 m_19 < z → rg x2_19 → rg x3_19 → rg x4_19 → I_19 x2_19 x3_19 x4_19 m_19 → mm_W d mc_62 19 [some (.ref 49), some (iv x1), some (iv x2_19), some (iv x3_19), some (iv x4_19), g5_19] [] (fm m_19) (XK Q) := by
      intro z
      induction z with
      | zero => intro x2_19 x3_19 x4_19 m_19 g5_19 hz; exact absurd hz (Nat.not_lt_zero _)
      | succ z ih_19 =>
        intro x2_19 x3_19 x4_19 m_19 g5_19 hz_19 r_x2_19 r_x3_19 r_x4_19 hI
        have H := HB_19 x2_19 x3_19 x4_19 m_19 r_x2_19 r_x3_19 r_x4_19 hI
        refine w_st (fun _ => rfl) ?_
        refine w_st (fun _ => rfl) ?_
        refine b_gt rfl r_x4_19 r_x1 (fun hq => ?_) (fun hq => ?_)
        · replace H := H.1 hq
          refine w_st (fun _ => rfl) ?_
          exact f_iret rfl r_x2_19 H
        · replace H := H.2 hq
          refine w_st (fun _ => rfl) ?_
          refine w_st (fun _ => rfl) ?_
          refine k_VK (as := [iv x4_19]) rfl mg_62 rfl rfl (by decide) rfl rfl H (fun m28 v28 r_v28 H => ?_)
          refine w_st (ls2 := [some (.ref 49), some (iv x1), some (iv x2_19), some (iv x3_19), some (iv x4_19), some (iv v28)]) (fun _ => rfl) ?_
          refine w_st (fun _ => rfl) ?_
          refine w_st (fun _ => rfl) ?_
          obtain ⟨R_45, H, HJ_45⟩ := H
          have tl_45 : ∀ (y2_45 y3_45 : Int) , rg y2_45 → rg y3_45 → R_45 y2_45 y3_45 → mm_W d mc_62 45 [some (.ref 49), some (iv x1), some (iv y2_45), some (iv y3_45), some (iv x4_19), some (iv v28)] [] (fm m28) (XK Q) := by
            intro y2_45 y3_45 r_y2_45 r_y3_45 hR
            have H := HJ_45 y2_45 y3_45 r_y2_45 r_y3_45 hR
            obtain ⟨z4_45, e_z4_45⟩ : ∃ q : Int, q = wr (x4_19 + 1) := ⟨_, rfl⟩
            have r_z4_45 : rg z4_45 := by rw [e_z4_45]; exact wr_rg _
            replace H := H z4_45 e_z4_45
            refine f_iinc (ls2 := [some (.ref 49), some (iv x1), some (iv y2_45), some (iv y3_45), some (iv z4_45), some (iv v28)]) 1 rfl rfl rfl e_z4_45 rfl ?_
            refine w_st (fun _ => rfl) ?_
            exact ih_19 y2_45 y3_45 z4_45 m28 (some (iv v28)) (Nat.lt_of_lt_of_le H.2 (Nat.le_of_lt_succ hz_19)) r_y2_45 r_y3_45 r_z4_45 H.1
          refine b_ge rfl r_v28 r_x3_19 (fun hq => ?_) (fun hq => ?_)
          · replace H := H.1 hq
            exact tl_45 x2_19 x3_19 r_x2_19 r_x3_19 H
          · replace H := H.2 hq
            refine w_st (fun _ => rfl) ?_
            refine w_st (ls2 := [some (.ref 49), some (iv x1), some (iv x2_19), some (iv v28), some (iv x4_19), some (iv v28)]) (fun _ => rfl) ?_
            refine w_st (fun _ => rfl) ?_
            refine w_st (ls2 := [some (.ref 49), some (iv x1), some (iv x4_19), some (iv v28), some (iv x4_19), some (iv v28)]) (fun _ => rfl) ?_
            exact tl_45 x4_19 v28 r_x4_19 r_v28 H
    exact lp_19 _ (-1) 1025 1 m none (Nat.lt_succ_self _) (by unfold rg; decide) (by unfold rg; decide) (by unfold rg; decide) H0_19
  · replace H := H.2 hq
    refine f_int (-2) rfl rfl ?_
    exact f_iret rfl (by unfold rg; decide) H
/-- TippedCrates$Rows.worstLeft(I)I -/
def P_63 (d : Nat) (m : Mm) (x1 : Int) (Q : Mm → Int → Prop) : Prop :=
  (∃ (I_4 : Int → Int → Prop) (mu_4 : Int → Int → Nat), I_4 0 0 ∧
    ∀ (x2_4 x3_4 : Int) , rg x2_4 → rg x3_4 → I_4 x2_4 x3_4 →
    ((9 < x3_4 → Q m x2_4) ∧
        (¬ 9 < x3_4 → (((0 : Int) ≤ (wr ((wr ((wr (x1 - 1)) * 10)) + x3_4)) ∧ (wr ((wr ((wr (x1 - 1)) * 10)) + x3_4)) < 50) ∧ (∀ z2_27 : Int, z2_27 = (max x2_4 (rd m 54 (Int.toNat (wr ((wr ((wr (x1 - 1)) * 10)) + x3_4))))) → (∀ z3_28 : Int, z3_28 = wr (x3_4 + 1) → (I_4 z2_27 z3_28 ∧ mu_4 z2_27 z3_28 < mu_4 x2_4 x3_4)))))))
set_option maxRecDepth 20000 in
theorem br_63 {d : Nat} {m : Mm} {x1 : Int} {Q : Mm → Int → Prop} (r_x1 : rg x1) (H : P_63 d m x1 Q) : CK (d + 1) 63 [.ref 49, iv x1] m Q := by
  unfold P_63 at H
  refine CK_of rfl ?_
  show mm_W d mc_63 0 [some (.ref 49), some (iv x1), none, none] [] (fm m) (XK Q)
  refine f_int 0 rfl rfl ?_
  refine w_st (ls2 := [some (.ref 49), some (iv x1), some (iv 0), none]) (fun _ => rfl) ?_
  refine f_int 0 rfl rfl ?_
  refine w_st (ls2 := [some (.ref 49), some (iv x1), some (iv 0), some (iv 0)]) (fun _ => rfl) ?_
  obtain ⟨I_4, mu_4, H0_4, HB_4⟩ := H
  have lp_4 : ∀ (z : Nat) (x2_4 x3_4 : Int) , mu_4 x2_4 x3_4 < z → rg x2_4 → rg x3_4 → I_4 x2_4 x3_4 → mm_W d mc_63 4 [some (.ref 49), some (iv x1), some (iv x2_4), some (iv x3_4)] [] (fm m) (XK Q) := by
    intro z
    induction z with
    | zero => intro x2_4 x3_4 hz; exact absurd hz (Nat.not_lt_zero _)
    | succ z ih_4 =>
      intro x2_4 x3_4 hz_4 r_x2_4 r_x3_4 hI
      have H := HB_4 x2_4 x3_4 r_x2_4 r_x3_4 hI
      refine w_st (fun _ => rfl) ?_
      refine f_int 9 rfl rfl ?_
      refine b_gt rfl r_x3_4 (by unfold rg; decide) (fun hq => ?_) (fun hq => ?_)
      · replace H := H.1 hq
        refine w_st (fun _ => rfl) ?_
        exact f_iret rfl r_x2_4 H
      · replace H := H.2 hq
        refine w_st (fun _ => rfl) ?_
        refine w_st (fun _ => rfl) ?_
        refine g_49_8 rfl ?_
        refine w_st (fun _ => rfl) ?_
        refine f_int 1 rfl rfl ?_
        refine f_sub rfl ?_
        refine f_int 10 rfl rfl ?_
        refine f_mul rfl ?_
        refine w_st (fun _ => rfl) ?_
        refine f_add rfl ?_
        refine f_ld ir_54 rfl H.1 ?_
        replace H := H.2
        refine f_max rfl r_x2_4 (rd_rg _ _ _) rfl ?_
        obtain ⟨z2_27, e_z2_27⟩ : ∃ q : Int, q = (max x2_4 (rd m 54 (Int.toNat (wr ((wr ((wr (x1 - 1)) * 10)) + x3_4))))) := ⟨_, rfl⟩
        have r_z2_27 : rg z2_27 := by rw [e_z2_27]; exact (mx_rg r_x2_4 (rd_rg _ _ _))
        replace H := H z2_27 e_z2_27
        refine f_nm e_z2_27 ?_
        refine w_st (ls2 := [some (.ref 49), some (iv x1), some (iv z2_27), some (iv x3_4)]) (fun _ => rfl) ?_
        obtain ⟨z3_28, e_z3_28⟩ : ∃ q : Int, q = wr (x3_4 + 1) := ⟨_, rfl⟩
        have r_z3_28 : rg z3_28 := by rw [e_z3_28]; exact wr_rg _
        replace H := H z3_28 e_z3_28
        refine f_iinc (ls2 := [some (.ref 49), some (iv x1), some (iv z2_27), some (iv z3_28)]) 1 rfl rfl rfl e_z3_28 rfl ?_
        refine w_st (fun _ => rfl) ?_
        exact ih_4 z2_27 z3_28 (Nat.lt_of_lt_of_le H.2 (Nat.le_of_lt_succ hz_4)) r_z2_27 r_z3_28 H.1
  exact lp_4 _ 0 0 (Nat.lt_succ_self _) (by unfold rg; decide) (by unfold rg; decide) H0_4
/-- TippedCrates$Rows.spellings(II)I -/
def P_64 (d : Nat) (m : Mm) (x1 : Int) (x2 : Int) (Q : Mm → Int → Prop) : Prop :=
  CK d 65 [.ref 49, iv (rd m 36 1), iv x1, iv x2] m (fun m10 v10 =>
    Q m10 v10)
set_option maxRecDepth 20000 in
theorem br_64 {d : Nat} {m : Mm} {x1 : Int} {x2 : Int} {Q : Mm → Int → Prop} (r_x1 : rg x1) (r_x2 : rg x2) (H : P_64 d m x1 x2 Q) : CK (d + 1) 64 [.ref 49, iv x1, iv x2] m Q := by
  unfold P_64 at H
  refine CK_of rfl ?_
  show mm_W d mc_64 0 [some (.ref 49), some (iv x1), some (iv x2)] [] (fm m) (XK Q)
  refine w_st (fun _ => rfl) ?_
  refine w_st (fun _ => rfl) ?_
  refine g_49_3 rfl ?_
  refine g_36_1 rfl ?_
  refine w_st (fun _ => rfl) ?_
  refine w_st (fun _ => rfl) ?_
  refine k_VK (as := [iv (rd m 36 1), iv x1, iv x2]) rfl mg_64 rfl rfl (by decide) rfl rfl H (fun m10 v10 r_v10 H => ?_)
  exact f_iret rfl r_v10 H
/-- TippedCrates$Rows.spellFrom(III)I -/
def P_65 (d : Nat) (m : Mm) (x1 : Int) (x2 : Int) (x3 : Int) (Q : Mm → Int → Prop) : Prop :=
  (∃ R_11 : Prop,
    ((x3 < 1 → R_11) ∧
    (¬ x3 < 1 → ((x3 ≤ 6 → (((0 : Int) ≤ (wr (x3 - 1)) ∧ (wr (x3 - 1)) < 7) ∧ (¬ (sx 4 (wr (x3 - 1))) = 0 ∧ (∀ z4_22 : Int, z4_22 = (dvI x2 (sx 4 (wr (x3 - 1)))) → (((0 : Int) ≤ (wr (x3 - 1)) ∧ (wr (x3 - 1)) < 7) ∧ (¬ (sx 4 (wr (x3 - 1))) = 0 ∧ (∀ z5_33 : Int, z5_33 = (rmI x2 (sx 4 (wr (x3 - 1)))) → (∃ (I_41 : Int → Int → Mm → Prop) (mu_41 : Int → Int → Mm → Nat), I_41 0 0 m ∧
        ∀ (x6_41 x7_41 : Int) (m_41 : Mm), rg x6_41 → rg x7_41 → I_41 x6_41 x7_41 m_41 →
        ((4 ≤ x7_41 → Q m_41 x6_41) ∧
            (¬ 4 ≤ x7_41 → CK d 71 [.ref 36, iv x1, iv x7_41] m_41 (fun m54 v54 =>
              (∃ R_95 : Int → Mm → Prop,
              ((v54 = (-1) → R_95 x6_41 m54) ∧
              (¬ v54 = (-1) → CK d 73 [.ref 36, iv v54] m54 (fun m71 v71 =>
                ((¬ v71 = z4_22 → R_95 x6_41 m71) ∧
                (v71 = z4_22 → CK d 65 [.ref 49, iv v54, iv z5_33, iv (wr (x3 - 1))] m71 (fun m89 v89 =>
                  (∀ z6_93 : Int, z6_93 = (wr (x6_41 + v89)) → R_95 z6_93 m89))))))) ∧
              (∀ (y6_95 : Int) (m_95 : Mm), rg y6_95 → R_95 y6_95 m_95 →
              (∀ z7_95 : Int, z7_95 = wr (x7_41 + 1) → (I_41 y6_95 z7_95 m_95 ∧ mu_41 y6_95 z7_95 m_95 < mu_41 x6_41 x7_41 m_41))))))))))))))) ∧
      (¬ x3 ≤ 6 → R_11)))) ∧
    (R_11 →
    Q m 1))
set_option maxRecDepth 20000 in
theorem br_65 {d : Nat} {m : Mm} {x1 : Int} {x2 : Int} {x3 : Int} {Q : Mm → Int → Prop} (r_x1 : rg x1) (r_x2 : rg x2) (r_x3 : rg x3) (H : P_65 d m x1 x2 x3 Q) : CK (d + 1) 65 [.ref 49, iv x1, iv x2, iv x3] m Q := by
  unfold P_65 at H
  refine CK_of rfl ?_
  show mm_W d mc_65 0 [some (.ref 49), some (iv x1), some (iv x2), some (iv x3), none, none, none, none, none] [] (fm m) (XK Q)
  refine w_st (fun _ => rfl) ?_
  refine f_int 1 rfl rfl ?_
  obtain ⟨R_11, H, HJ_11⟩ := H
  have tl_11 : R_11 → mm_W d mc_65 11 [some (.ref 49), some (iv x1), some (iv x2), some (iv x3), none, none, none, none, none] [] (fm m) (XK Q) := by
    intro   hR
    have H := HJ_11   hR
    refine f_int 1 rfl rfl ?_
    exact f_iret rfl (by unfold rg; decide) H
  refine b_lt rfl r_x3 (by unfold rg; decide) (fun hq => ?_) (fun hq => ?_)
  · replace H := H.1 hq
    exact tl_11   H
  · replace H := H.2 hq
    refine w_st (fun _ => rfl) ?_
    refine f_int 6 rfl rfl ?_
    refine b_le rfl r_x3 (by unfold rg; decide) (fun hq => ?_) (fun hq => ?_)
    · replace H := H.1 hq
      refine w_st (fun _ => rfl) ?_
      refine w_st (fun _ => rfl) ?_
      refine w_st (fun _ => rfl) ?_
      refine f_int 1 rfl rfl ?_
      refine f_sub rfl ?_
      refine f_sx (n := 7) 4 (by decide) rfl rfl H.1 ?_
      replace H := H.2
      refine f_dvI rfl (sx_rg _ _) H.1 ?_
      replace H := H.2
      obtain ⟨z4_22, e_z4_22⟩ : ∃ q : Int, q = (dvI x2 (sx 4 (wr (x3 - 1)))) := ⟨_, rfl⟩
      have r_z4_22 : rg z4_22 := by rw [e_z4_22]; exact (io_rg _ _ _)
      replace H := H z4_22 e_z4_22
      refine f_nm e_z4_22 ?_
      refine w_st (ls2 := [some (.ref 49), some (iv x1), some (iv x2), some (iv x3), some (iv z4_22), none, none, none, none]) (fun _ => rfl) ?_
      refine w_st (fun _ => rfl) ?_
      refine w_st (fun _ => rfl) ?_
      refine w_st (fun _ => rfl) ?_
      refine f_int 1 rfl rfl ?_
      refine f_sub rfl ?_
      refine f_sx (n := 7) 4 (by decide) rfl rfl H.1 ?_
      replace H := H.2
      refine f_rmI rfl (sx_rg _ _) H.1 ?_
      replace H := H.2
      obtain ⟨z5_33, e_z5_33⟩ : ∃ q : Int, q = (rmI x2 (sx 4 (wr (x3 - 1)))) := ⟨_, rfl⟩
      have r_z5_33 : rg z5_33 := by rw [e_z5_33]; exact (io_rg _ _ _)
      replace H := H z5_33 e_z5_33
      refine f_nm e_z5_33 ?_
      refine w_st (ls2 := [some (.ref 49), some (iv x1), some (iv x2), some (iv x3), some (iv z4_22), some (iv z5_33), none, none, none]) (fun _ => rfl) ?_
      refine f_int 0 rfl rfl ?_
      refine w_st (ls2 := [some (.ref 49), some (iv x1), some (iv x2), some (iv x3), some (iv z4_22), some (iv z5_33), some (iv 0), none, none]) (fun _ => rfl) ?_
      refine f_int 0 rfl rfl ?_
      refine w_st (ls2 := [some (.ref 49), some (iv x1), some (iv x2), some (iv x3), some (iv z4_22), some (iv z5_33), some (iv 0), some (iv 0), none]) (fun _ => rfl) ?_
      obtain ⟨I_41, mu_41, H0_41, HB_41⟩ := H
      have lp_41 : ∀ (z : Nat) (x6_41 x7_41 : Int) (m_41 : Mm) (g8_41 : Option Value), mu_41 x6_41 x7_41 m_41 < z → rg x6_41 → rg x7_41 → I_41 x6_41 x7_41 m_41 → mm_W d mc_65 41 [some (.ref 49), some (iv x1), some (iv x2), some (iv x3), some (iv z4_22), some (iv z5_33), some (iv x6_41), some (iv x7_41), g8_41] [] (fm m_41) (XK Q) := by
        intro z
        induction z with
        | zero => intro x6_41 x7_41 m_41 g8_41 hz; exact absurd hz (Nat.not_lt_zero _)
        | succ z ih_41 =>
          intro x6_41 x7_41 m_41 g8_41 hz_41 r_x6_41 r_x7_41 hI
          have H := HB_41 x6_41 x7_41 m_41 r_x6_41 r_x7_41 hI
          refine w_st (fun _ => rfl) ?_
          refine f_int 4 rfl rfl ?_
          refine b_ge rfl r_x7_41 (by unfold rg; decide) (fun hq => ?_) (fun hq => ?_)
          · replace H := H.1 hq
            refine w_st (fun _ => rfl) ?_
            exact f_iret rfl r_x6_41 H
          · replace H := H.2 hq
            refine w_st (fun _ => rfl) ?_
            refine g_49_3 rfl ?_
            refine w_st (fun _ => rfl) ?_
            refine w_st (fun _ => rfl) ?_
            refine k_VK (as := [iv x1, iv x7_41]) rfl mg_65 rfl rfl (by decide) rfl rfl H (fun m54 v54 r_v54 H => ?_)
            refine w_st (ls2 := [some (.ref 49), some (iv x1), some (iv x2), some (iv x3), some (iv z4_22), some (iv z5_33), some (iv x6_41), some (iv x7_41), some (iv v54)]) (fun _ => rfl) ?_
            refine w_st (fun _ => rfl) ?_
            refine f_int (-1) rfl rfl ?_
            obtain ⟨R_95, H, HJ_95⟩ := H
            have tl_95 : ∀ (y6_95 : Int) (m_95 : Mm), rg y6_95 → R_95 y6_95 m_95 → mm_W d mc_65 95 [some (.ref 49), some (iv x1), some (iv x2), some (iv x3), some (iv z4_22), some (iv z5_33), some (iv y6_95), some (iv x7_41), some (iv v54)] [] (fm m_95) (XK Q) := by
              intro y6_95 m_95 r_y6_95 hR
              have H := HJ_95 y6_95 m_95 r_y6_95 hR
              obtain ⟨z7_95, e_z7_95⟩ : ∃ q : Int, q = wr (x7_41 + 1) := ⟨_, rfl⟩
              have r_z7_95 : rg z7_95 := by rw [e_z7_95]; exact wr_rg _
              replace H := H z7_95 e_z7_95
              refine f_iinc (ls2 := [some (.ref 49), some (iv x1), some (iv x2), some (iv x3), some (iv z4_22), some (iv z5_33), some (iv y6_95), some (iv z7_95), some (iv v54)]) 1 rfl rfl rfl e_z7_95 rfl ?_
              refine w_st (fun _ => rfl) ?_
              exact ih_41 y6_95 z7_95 m_95 (some (iv v54)) (Nat.lt_of_lt_of_le H.2 (Nat.le_of_lt_succ hz_41)) r_y6_95 r_z7_95 H.1
            refine b_eq rfl r_v54 (by unfold rg; decide) (fun hq => ?_) (fun hq => ?_)
            · replace H := H.1 hq
              exact tl_95 x6_41 m54 r_x6_41 H
            · replace H := H.2 hq
              refine w_st (fun _ => rfl) ?_
              refine g_49_3 rfl ?_
              refine w_st (fun _ => rfl) ?_
              refine k_VK (as := [iv v54]) rfl mg_65 rfl rfl (by decide) rfl rfl H (fun m71 v71 r_v71 H => ?_)
              refine w_st (fun _ => rfl) ?_
              refine b_ne rfl r_v71 r_z4_22 (fun hq => ?_) (fun hq => ?_)
              · replace H := H.1 hq
                exact tl_95 x6_41 m71 r_x6_41 H
              · replace H := H.2 hq
                refine w_st (fun _ => rfl) ?_
                refine w_st (fun _ => rfl) ?_
                refine w_st (fun _ => rfl) ?_
                refine w_st (fun _ => rfl) ?_
                refine w_st (fun _ => rfl) ?_
                refine f_int 1 rfl rfl ?_
                refine f_sub rfl ?_
                refine k_VK (as := [iv v54, iv z5_33, iv (wr (x3 - 1))]) rfl mg_65 rfl rfl (by decide) rfl rfl H (fun m89 v89 r_v89 H => ?_)
                refine f_add rfl ?_
                obtain ⟨z6_93, e_z6_93⟩ : ∃ q : Int, q = (wr (x6_41 + v89)) := ⟨_, rfl⟩
                have r_z6_93 : rg z6_93 := by rw [e_z6_93]; exact (wr_rg _)
                replace H := H z6_93 e_z6_93
                refine f_nm e_z6_93 ?_
                refine w_st (ls2 := [some (.ref 49), some (iv x1), some (iv x2), some (iv x3), some (iv z4_22), some (iv z5_33), some (iv z6_93), some (iv x7_41), some (iv v54)]) (fun _ => rfl) ?_
                exact tl_95 z6_93 m89 r_z6_93 H
      exact lp_41 _ 0 0 m none (Nat.lt_succ_self _) (by unfold rg; decide) (by unfold rg; decide) H0_41
    · replace H := H.2 hq
      exact tl_11   H
/-- TippedCrates$Rows.endOfGame(I)I -/
def P_66 (d : Nat) (m : Mm) (x1 : Int) (Q : Mm → Int → Prop) : Prop :=
  CK d 68 [.ref 49, iv (rd m 36 1), iv x1, iv 1] m (fun m10 v10 =>
    Q m10 v10)
set_option maxRecDepth 20000 in
theorem br_66 {d : Nat} {m : Mm} {x1 : Int} {Q : Mm → Int → Prop} (r_x1 : rg x1) (H : P_66 d m x1 Q) : CK (d + 1) 66 [.ref 49, iv x1] m Q := by
  unfold P_66 at H
  refine CK_of rfl ?_
  show mm_W d mc_66 0 [some (.ref 49), some (iv x1)] [] (fm m) (XK Q)
  refine w_st (fun _ => rfl) ?_
  refine w_st (fun _ => rfl) ?_
  refine g_49_3 rfl ?_
  refine g_36_1 rfl ?_
  refine w_st (fun _ => rfl) ?_
  refine f_int 1 rfl rfl ?_
  refine k_VK (as := [iv (rd m 36 1), iv x1, iv 1]) rfl mg_66 rfl rfl (by decide) rfl rfl H (fun m10 v10 r_v10 H => ?_)
  exact f_iret rfl r_v10 H
/-- TippedCrates$Rows.openingWay(II)I -/
def P_67 (d : Nat) (m : Mm) (x1 : Int) (x2 : Int) (Q : Mm → Int → Prop) : Prop :=
  (∃ (I_2 : Int → Mm → Prop) (mu_2 : Int → Mm → Nat), I_2 0 m ∧
    ∀ (x3_2 : Int) (m_2 : Mm), rg x3_2 → I_2 x3_2 m_2 →
    ((4 ≤ x3_2 → Q m_2 (-2)) ∧
        (¬ 4 ≤ x3_2 → CK d 71 [.ref 36, iv (rd m_2 36 1), iv x3_2] m_2 (fun m19 v19 =>
          (∃ R_46 : Mm → Prop,
          ((v19 = (-1) → R_46 m19) ∧
          (¬ v19 = (-1) → CK d 68 [.ref 49, iv v19, iv (wr (x2 - 1)), iv 0] m19 (fun m37 v37 =>
            ((¬ v37 = x1 → R_46 m37) ∧
            (v37 = x1 → Q m37 x3_2))))) ∧
          (∀ (m_46 : Mm), R_46 m_46 →
          (∀ z3_46 : Int, z3_46 = wr (x3_2 + 1) → (I_2 z3_46 m_46 ∧ mu_2 z3_46 m_46 < mu_2 x3_2 m_2))))))))
set_option maxRecDepth 20000 in
theorem br_67 {d : Nat} {m : Mm} {x1 : Int} {x2 : Int} {Q : Mm → Int → Prop} (r_x1 : rg x1) (r_x2 : rg x2) (H : P_67 d m x1 x2 Q) : CK (d + 1) 67 [.ref 49, iv x1, iv x2] m Q := by
  unfold P_67 at H
  refine CK_of rfl ?_
  show mm_W d mc_67 0 [some (.ref 49), some (iv x1), some (iv x2), none, none] [] (fm m) (XK Q)
  refine f_int 0 rfl rfl ?_
  refine w_st (ls2 := [some (.ref 49), some (iv x1), some (iv x2), some (iv 0), none]) (fun _ => rfl) ?_
  obtain ⟨I_2, mu_2, H0_2, HB_2⟩ := H
  have lp_2 : ∀ (z : Nat) (x3_2 : Int) (m_2 : Mm) (g4_2 : Option Value), mu_2 x3_2 m_2 < z → rg x3_2 → I_2 x3_2 m_2 → mm_W d mc_67 2 [some (.ref 49), some (iv x1), some (iv x2), some (iv x3_2), g4_2] [] (fm m_2) (XK Q) := by
    intro z
    induction z with
    | zero => intro x3_2 m_2 g4_2 hz; exact absurd hz (Nat.not_lt_zero _)
    | succ z ih_2 =>
      intro x3_2 m_2 g4_2 hz_2 r_x3_2 hI
      have H := HB_2 x3_2 m_2 r_x3_2 hI
      refine w_st (fun _ => rfl) ?_
      refine f_int 4 rfl rfl ?_
      refine b_ge rfl r_x3_2 (by unfold rg; decide) (fun hq => ?_) (fun hq => ?_)
      · replace H := H.1 hq
        refine f_int (-2) rfl rfl ?_
        exact f_iret rfl (by unfold rg; decide) H
      · replace H := H.2 hq
        refine w_st (fun _ => rfl) ?_
        refine g_49_3 rfl ?_
        refine w_st (fun _ => rfl) ?_
        refine g_49_3 rfl ?_
        refine g_36_1 rfl ?_
        refine w_st (fun _ => rfl) ?_
        refine k_VK (as := [iv (rd m_2 36 1), iv x3_2]) rfl mg_67 rfl rfl (by decide) rfl rfl H (fun m19 v19 r_v19 H => ?_)
        refine w_st (ls2 := [some (.ref 49), some (iv x1), some (iv x2), some (iv x3_2), some (iv v19)]) (fun _ => rfl) ?_
        refine w_st (fun _ => rfl) ?_
        refine f_int (-1) rfl rfl ?_
        obtain ⟨R_46, H, HJ_46⟩ := H
        have tl_46 : ∀ (m_46 : Mm), R_46 m_46 → mm_W d mc_67 46 [some (.ref 49), some (iv x1), some (iv x2), some (iv x3_2), some (iv v19)] [] (fm m_46) (XK Q) := by
          intro m_46  hR
          have H := HJ_46 m_46  hR
          obtain ⟨z3_46, e_z3_46⟩ : ∃ q : Int, q = wr (x3_2 + 1) := ⟨_, rfl⟩
          have r_z3_46 : rg z3_46 := by rw [e_z3_46]; exact wr_rg _
          replace H := H z3_46 e_z3_46
          refine f_iinc (ls2 := [some (.ref 49), some (iv x1), some (iv x2), some (iv z3_46), some (iv v19)]) 1 rfl rfl rfl e_z3_46 rfl ?_
          refine w_st (fun _ => rfl) ?_
          exact ih_2 z3_46 m_46 (some (iv v19)) (Nat.lt_of_lt_of_le H.2 (Nat.le_of_lt_succ hz_2)) r_z3_46 H.1
        refine b_eq rfl r_v19 (by unfold rg; decide) (fun hq => ?_) (fun hq => ?_)
        · replace H := H.1 hq
          exact tl_46 m19  H
        · replace H := H.2 hq
          refine w_st (fun _ => rfl) ?_
          refine w_st (fun _ => rfl) ?_
          refine w_st (fun _ => rfl) ?_
          refine f_int 1 rfl rfl ?_
          refine f_sub rfl ?_
          refine f_int 0 rfl rfl ?_
          refine k_VK (as := [iv v19, iv (wr (x2 - 1)), iv 0]) rfl mg_67 rfl rfl (by decide) rfl rfl H (fun m37 v37 r_v37 H => ?_)
          refine w_st (fun _ => rfl) ?_
          refine b_ne rfl r_v37 r_x1 (fun hq => ?_) (fun hq => ?_)
          · replace H := H.1 hq
            exact tl_46 m37  H
          · replace H := H.2 hq
            refine w_st (fun _ => rfl) ?_
            exact f_iret rfl r_x3_2 H
  exact lp_2 _ 0 m none (Nat.lt_succ_self _) (by unfold rg; decide) H0_2
/-- TippedCrates$Rows.playFrom(IIZ)I -/
def P_68 (d : Nat) (m : Mm) (x1 : Int) (x2 : Int) (x3 : Int) (Q : Mm → Int → Prop) : Prop :=
  (∃ (I_6 : Int → Int → Mm → Prop) (mu_6 : Int → Int → Mm → Nat), I_6 (-1) 0 m ∧
    ∀ (x4_6 x5_6 : Int) (m_6 : Mm), rg x4_6 → rg x5_6 → I_6 x4_6 x5_6 m_6 →
    (∃ R_100 : Prop,
        ((4 ≤ x5_6 → R_100) ∧
        (¬ 4 ≤ x5_6 → ((x2 ≤ 0 → R_100) ∧
          (¬ x2 ≤ 0 → ((6 < x2 → R_100) ∧
            (¬ 6 < x2 → CK d 71 [.ref 36, iv x1, iv x5_6] m_6 (fun m29 v29 =>
              (∃ R_94 : Int → Mm → Prop,
              ((¬ v29 = (-1) → (∃ R_58 : Int → Prop,
                ((¬ x3 = 0 → R_58 0) ∧
                (x3 = 0 → R_58 1)) ∧
                (∀ (s3_58 : Int) , rg s3_58 → R_58 s3_58 →
                CK d 68 [.ref 49, iv v29, iv (wr (x2 - 1)), iv s3_58] m29 (fun m58 v58 =>
                  (∃ R_90 : Prop,
                  ((x4_6 = (-1) → R_90) ∧
                  (¬ x4_6 = (-1) → ((x3 = 0 → ((x4_6 ≤ v58 → R_94 x4_6 m58) ∧
                      (¬ x4_6 ≤ v58 → R_90))) ∧
                    (¬ x3 = 0 → ((v58 ≤ x4_6 → R_94 x4_6 m58) ∧
                      (¬ v58 ≤ x4_6 → R_90)))))) ∧
                  (R_90 →
                  R_94 v58 m58)))))) ∧
              (v29 = (-1) → R_94 x4_6 m29)) ∧
              (∀ (y4_94 : Int) (m_94 : Mm), rg y4_94 → R_94 y4_94 m_94 →
              (∀ z5_94 : Int, z5_94 = wr (x5_6 + 1) → (I_6 y4_94 z5_94 m_94 ∧ mu_6 y4_94 z5_94 m_94 < mu_6 x4_6 x5_6 m_6))))))))))) ∧
        (R_100 →
        (∃ R_119 : Int → Mm → Prop,
          ((¬ x4_6 = (-1) → R_119 x4_6 m_6) ∧
          (x4_6 = (-1) → CK d 72 [.ref 36, iv x1] m_6 (fun m111 v111 =>
            R_119 v111 m111))) ∧
          (∀ (s0_119 : Int) (m_119 : Mm), rg s0_119 → R_119 s0_119 m_119 →
          Q m_119 s0_119)))))
set_option maxRecDepth 20000 in
theorem br_68 {d : Nat} {m : Mm} {x1 : Int} {x2 : Int} {x3 : Int} {Q : Mm → Int → Prop} (r_x1 : rg x1) (r_x2 : rg x2) (r_x3 : rg x3) (H : P_68 d m x1 x2 x3 Q) : CK (d + 1) 68 [.ref 49, iv x1, iv x2, iv x3] m Q := by
  unfold P_68 at H
  refine CK_of rfl ?_
  show mm_W d mc_68 0 [some (.ref 49), some (iv x1), some (iv x2), some (iv x3), none, none, none, none] [] (fm m) (XK Q)
  refine f_int (-1) rfl rfl ?_
  refine w_st (ls2 := [some (.ref 49), some (iv x1), some (iv x2), some (iv x3), some (iv (-1)), none, none, none]) (fun _ => rfl) ?_
  refine f_int 0 rfl rfl ?_
  refine w_st (ls2 := [some (.ref 49), some (iv x1), some (iv x2), some (iv x3), some (iv (-1)), some (iv 0), none, none]) (fun _ => rfl) ?_
  obtain ⟨I_6, mu_6, H0_6, HB_6⟩ := H
  have lp_6 : ∀ (z : Nat) (x4_6 x5_6 : Int) (m_6 : Mm) (g6_6 g7_6 : Option Value), mu_6 x4_6 x5_6 m_6 < z → rg x4_6 → rg x5_6 → I_6 x4_6 x5_6 m_6 → mm_W d mc_68 6 [some (.ref 49), some (iv x1), some (iv x2), some (iv x3), some (iv x4_6), some (iv x5_6), g6_6, g7_6] [] (fm m_6) (XK Q) := by
    intro z
    induction z with
    | zero => intro x4_6 x5_6 m_6 g6_6 g7_6 hz; exact absurd hz (Nat.not_lt_zero _)
    | succ z ih_6 =>
      intro x4_6 x5_6 m_6 g6_6 g7_6 hz_6 r_x4_6 r_x5_6 hI
      have H := HB_6 x4_6 x5_6 m_6 r_x4_6 r_x5_6 hI
      refine w_st (fun _ => rfl) ?_
      refine f_int 4 rfl rfl ?_
      obtain ⟨R_100, H, HJ_100⟩ := H
      have tl_100 : R_100 → mm_W d mc_68 100 [some (.ref 49), some (iv x1), some (iv x2), some (iv x3), some (iv x4_6), some (iv x5_6), g6_6, g7_6] [] (fm m_6) (XK Q) := by
        intro   hR
        have H := HJ_100   hR
        refine w_st (fun _ => rfl) ?_
        refine f_int (-1) rfl rfl ?_
        obtain ⟨R_119, H, HJ_119⟩ := H
        have tl_119 : ∀ (s0_119 : Int) (m_119 : Mm), rg s0_119 → R_119 s0_119 m_119 → mm_W d mc_68 119 [some (.ref 49), some (iv x1), some (iv x2), some (iv x3), some (iv x4_6), some (iv x5_6), g6_6, g7_6] [iv s0_119] (fm m_119) (XK Q) := by
          intro s0_119 m_119 r_s0_119 hR
          have H := HJ_119 s0_119 m_119 r_s0_119 hR
          exact f_iret rfl r_s0_119 H
        refine b_ne rfl r_x4_6 (by unfold rg; decide) (fun hq => ?_) (fun hq => ?_)
        · replace H := H.1 hq
          refine w_st (fun _ => rfl) ?_
          exact tl_119 x4_6 m_6 r_x4_6 H
        · replace H := H.2 hq
          refine w_st (fun _ => rfl) ?_
          refine g_49_3 rfl ?_
          refine w_st (fun _ => rfl) ?_
          refine k_VK (as := [iv x1]) rfl mg_68 rfl rfl (by decide) rfl rfl H (fun m111 v111 r_v111 H => ?_)
          refine w_st (fun _ => rfl) ?_
          exact tl_119 v111 m111 r_v111 H
      refine b_ge rfl r_x5_6 (by unfold rg; decide) (fun hq => ?_) (fun hq => ?_)
      · replace H := H.1 hq
        exact tl_100   H
      · replace H := H.2 hq
        refine w_st (fun _ => rfl) ?_
        refine z_le rfl r_x2 (fun hq => ?_) (fun hq => ?_)
        · replace H := H.1 hq
          exact tl_100   H
        · replace H := H.2 hq
          refine w_st (fun _ => rfl) ?_
          refine f_int 6 rfl rfl ?_
          refine b_gt rfl r_x2 (by unfold rg; decide) (fun hq => ?_) (fun hq => ?_)
          · replace H := H.1 hq
            exact tl_100   H
          · replace H := H.2 hq
            refine w_st (fun _ => rfl) ?_
            refine g_49_3 rfl ?_
            refine w_st (fun _ => rfl) ?_
            refine w_st (fun _ => rfl) ?_
            refine k_VK (as := [iv x1, iv x5_6]) rfl mg_68 rfl rfl (by decide) rfl rfl H (fun m29 v29 r_v29 H => ?_)
            refine w_st (ls2 := [some (.ref 49), some (iv x1), some (iv x2), some (iv x3), some (iv x4_6), some (iv x5_6), some (iv v29), g7_6]) (fun _ => rfl) ?_
            refine w_st (fun _ => rfl) ?_
            refine f_int (-1) rfl rfl ?_
            obtain ⟨R_94, H, HJ_94⟩ := H
            have tl_94 : ∀ (y4_94 : Int) (m_94 : Mm) (g7_94 : Option Value), rg y4_94 → R_94 y4_94 m_94 → mm_W d mc_68 94 [some (.ref 49), some (iv x1), some (iv x2), some (iv x3), some (iv y4_94), some (iv x5_6), some (iv v29), g7_94] [] (fm m_94) (XK Q) := by
              intro y4_94 m_94 g7_94 r_y4_94 hR
              have H := HJ_94 y4_94 m_94 r_y4_94 hR
              obtain ⟨z5_94, e_z5_94⟩ : ∃ q : Int, q = wr (x5_6 + 1) := ⟨_, rfl⟩
              have r_z5_94 : rg z5_94 := by rw [e_z5_94]; exact wr_rg _
              replace H := H z5_94 e_z5_94
              refine f_iinc (ls2 := [some (.ref 49), some (iv x1), some (iv x2), some (iv x3), some (iv y4_94), some (iv z5_94), some (iv v29), g7_94]) 1 rfl rfl rfl e_z5_94 rfl ?_
              refine w_st (fun _ => rfl) ?_
              exact ih_6 y4_94 z5_94 m_94 (some (iv v29)) g7_94 (Nat.lt_of_lt_of_le H.2 (Nat.le_of_lt_succ hz_6)) r_y4_94 r_z5_94 H.1
            refine b_ne rfl r_v29 (by unfold rg; decide) (fun hq => ?_) (fun hq => ?_)
            · replace H := H.1 hq
              refine w_st (fun _ => rfl) ?_
              refine w_st (fun _ => rfl) ?_
              refine w_st (fun _ => rfl) ?_
              refine f_int 1 rfl rfl ?_
              refine f_sub rfl ?_
              refine w_st (fun _ => rfl) ?_
              obtain ⟨R_58, H, HJ_58⟩ := H
              have tl_58 : ∀ (s3_58 : Int) , rg s3_58 → R_58 s3_58 → mm_W d mc_68 58 [some (.ref 49), some (iv x1), some (iv x2), some (iv x3), some (iv x4_6), some (iv x5_6), some (iv v29), g7_6] [iv s3_58, iv (wr (x2 - 1)), iv v29, .ref 49] (fm m29) (XK Q) := by
                intro s3_58 r_s3_58 hR
                have H := HJ_58 s3_58 r_s3_58 hR
                refine k_VK (as := [iv v29, iv (wr (x2 - 1)), iv s3_58]) rfl mg_68 rfl rfl (by decide) rfl rfl H (fun m58 v58 r_v58 H => ?_)
                refine w_st (ls2 := [some (.ref 49), some (iv x1), some (iv x2), some (iv x3), some (iv x4_6), some (iv x5_6), some (iv v29), some (iv v58)]) (fun _ => rfl) ?_
                refine w_st (fun _ => rfl) ?_
                refine f_int (-1) rfl rfl ?_
                obtain ⟨R_90, H, HJ_90⟩ := H
                have tl_90 : R_90 → mm_W d mc_68 90 [some (.ref 49), some (iv x1), some (iv x2), some (iv x3), some (iv x4_6), some (iv x5_6), some (iv v29), some (iv v58)] [] (fm m58) (XK Q) := by
                  intro   hR
                  have H := HJ_90   hR
                  refine w_st (fun _ => rfl) ?_
                  refine w_st (ls2 := [some (.ref 49), some (iv x1), some (iv x2), some (iv x3), some (iv v58), some (iv x5_6), some (iv v29), some (iv v58)]) (fun _ => rfl) ?_
                  exact tl_94 v58 m58 (some (iv v58)) r_v58 H
                refine b_eq rfl r_x4_6 (by unfold rg; decide) (fun hq => ?_) (fun hq => ?_)
                · replace H := H.1 hq
                  exact tl_90   H
                · replace H := H.2 hq
                  refine w_st (fun _ => rfl) ?_
                  refine z_eq rfl r_x3 (fun hq => ?_) (fun hq => ?_)
                  · replace H := H.1 hq
                    refine w_st (fun _ => rfl) ?_
                    refine w_st (fun _ => rfl) ?_
                    refine b_ge rfl r_v58 r_x4_6 (fun hq => ?_) (fun hq => ?_)
                    · replace H := H.1 hq
                      exact tl_94 x4_6 m58 (some (iv v58)) r_x4_6 H
                    · replace H := H.2 hq
                      exact tl_90   H
                  · replace H := H.2 hq
                    refine w_st (fun _ => rfl) ?_
                    refine w_st (fun _ => rfl) ?_
                    refine b_le rfl r_v58 r_x4_6 (fun hq => ?_) (fun hq => ?_)
                    · replace H := H.1 hq
                      exact tl_94 x4_6 m58 (some (iv v58)) r_x4_6 H
                    · replace H := H.2 hq
                      refine w_st (fun _ => rfl) ?_
                      exact tl_90   H
              refine z_ne rfl r_x3 (fun hq => ?_) (fun hq => ?_)
              · replace H := H.1 hq
                refine f_int 0 rfl rfl ?_
                exact tl_58 0 (by unfold rg; decide) H
              · replace H := H.2 hq
                refine f_int 1 rfl rfl ?_
                refine w_st (fun _ => rfl) ?_
                exact tl_58 1 (by unfold rg; decide) H
            · replace H := H.2 hq
              refine w_st (fun _ => rfl) ?_
              exact tl_94 x4_6 m29 g7_6 r_x4_6 H
  exact lp_6 _ (-1) 0 m none none (Nat.lt_succ_self _) (by unfold rg; decide) (by unfold rg; decide) H0_6
/-- TippedCrates$Standings.stand(LTippedCrates$State;I)V -/
def P_70 (d : Nat) (m : Mm) (a : Nat) (x2 : Int) (Q : Mm → Prop) : Prop :=
  (((0 : Int) ≤ x2 ∧ x2 < 3) ∧ (∀ m10 : Mm, m10 = wt m 36 1 (wr ((rd m (a + 2) (Int.toNat x2)) * 24)) → (((0 : Int) ≤ (wr (x2 * 6)) ∧ (0 : Int) ≤ 0 ∧ (0 : Int) ≤ 6 ∧ (wr (x2 * 6)) + 6 ≤ (18 : Int) ∧ 0 + 6 ≤ (6 : Int)) ∧ (∀ m28 : Mm, m28 = cpm m10 (a + 3) (Int.toNat (wr (x2 * 6))) 38 0 6 → CK d 83 [.ref a] m28 (fun m32 v32 =>
    (((0 : Int) ≤ x2 ∧ x2 < 3) ∧ (∀ z3_46 : Int, z3_46 = (anI v32 (xoI (slI 1 (rd m32 (a + 2) (Int.toNat x2))) (-1))) → (∃ (I_50 : Int → Mm → Prop) (mu_50 : Int → Mm → Nat), I_50 0 m32 ∧
    ∀ (x4_50 : Int) (m_50 : Mm), rg x4_50 → I_50 x4_50 m_50 →
    (((wr ((rd m_50 7 0) * (rd m_50 7 1))) ≤ x4_50 → Q m_50) ∧
        (¬ (wr ((rd m_50 7 0) * (rd m_50 7 1))) ≤ x4_50 → (∃ (I_73 : Int → Mm → Prop) (mu_73 : Int → Mm → Nat), I_73 0 m_50 ∧
          ∀ (x5_73 : Int) (m_73 : Mm), rg x5_73 → I_73 x5_73 m_73 →
          ((4 ≤ x5_73 → (∀ z4_151 : Int, z4_151 = wr (x4_50 + 1) → (I_50 z4_151 m_73 ∧ mu_50 z4_151 m_73 < mu_50 x4_50 m_50))) ∧
              (¬ 4 ≤ x5_73 → CK d 30 [.ref 7, iv x4_50, iv x5_73] m_73 (fun m87 v87 =>
                (∃ R_120 : Int → Prop,
                (∃ R_119 : Prop,
                ((v87 = (-1) → R_119) ∧
                (¬ v87 = (-1) → ((¬ (anI (srI (orI (rd m87 7 4) z3_46) v87) 1) = 0 → R_119) ∧
                  ((anI (srI (orI (rd m87 7 4) z3_46) v87) 1) = 0 → R_120 1)))) ∧
                (R_119 →
                R_120 0)) ∧
                (∀ (s0_120 : Int) , rg s0_120 → R_120 s0_120 →
                (∃ R_144 : Int → Prop,
                  ((s0_120 = 0 → R_144 (-1)) ∧
                  (¬ s0_120 = 0 → R_144 v87)) ∧
                  (∀ (s2_144 : Int) , rg s2_144 → R_144 s2_144 →
                  (((0 : Int) ≤ (wr ((wr (x4_50 * 4)) + x5_73)) ∧ (wr ((wr (x4_50 * 4)) + x5_73)) < 100) ∧ (∀ m144 : Mm, m144 = wt m87 37 (Int.toNat (wr ((wr (x4_50 * 4)) + x5_73))) s2_144 → (∀ z5_145 : Int, z5_145 = wr (x5_73 + 1) → (I_73 z5_145 m144 ∧ mu_73 z5_145 m144 < mu_73 x5_73 m_73))))))))))))))))))))))
set_option maxRecDepth 20000 in
theorem br_70 {d : Nat} {m : Mm} {a : Nat} {x2 : Int} {Q : Mm → Prop} (h_a : isSt a) (r_x2 : rg x2) (H : P_70 d m a x2 Q) : CV (d + 1) 70 [.ref 36, .ref a, iv x2] m Q := by
  unfold P_70 at H
  refine CV_of rfl ?_
  show mm_W d mc_70 0 [some (.ref 36), some (.ref a), some (iv x2), none, none, none, none, none] [] (fm m) (XV Q)
  refine w_st (fun _ => rfl) ?_
  refine w_st (fun _ => rfl) ?_
  refine f_getr rfl (st_l0 h_a) (st_ck h_a _ _).1 rfl ?_
  refine w_st (fun _ => rfl) ?_
  refine f_ld (st_2 h_a) rfl H.1 ?_
  replace H := H.2
  refine f_int 24 rfl rfl ?_
  refine f_mul rfl ?_
  obtain ⟨m10, e_m10⟩ : ∃ q : Mm, q = wt m 36 1 (wr ((rd m (a + 2) (Int.toNat x2)) * 24)) := ⟨_, rfl⟩
  replace H := H m10 e_m10
  refine p_36_1 rfl e_m10 ?_
  refine w_st (fun _ => rfl) ?_
  refine f_getr rfl (st_l0 h_a) (st_ck h_a _ _).1 rfl ?_
  refine w_st (fun _ => rfl) ?_
  refine f_int 6 rfl rfl ?_
  refine f_mul rfl ?_
  refine w_st (fun _ => rfl) ?_
  refine g_36_4 rfl ?_
  refine f_int 0 rfl rfl ?_
  refine f_int 6 rfl rfl ?_
  obtain ⟨m28, e_m28⟩ : ∃ q : Mm, q = cpm m10 (a + 3) (Int.toNat (wr (x2 * 6))) 38 0 6 := ⟨_, rfl⟩
  refine f_ac (st_3 h_a) ir_38 rfl H.1 rfl e_m28 ?_
  replace H := H.2 m28 e_m28
  refine w_st (fun _ => rfl) ?_
  refine k_VK (as := []) rfl mg_70 rfl rfl (st_l0 h_a) (st_ck h_a _ _).1 rfl H (fun m32 v32 r_v32 H => ?_)
  refine f_int 1 rfl rfl ?_
  refine w_st (fun _ => rfl) ?_
  refine f_getr rfl (st_l0 h_a) (st_ck h_a _ _).1 rfl ?_
  refine w_st (fun _ => rfl) ?_
  refine f_ld (st_2 h_a) rfl H.1 ?_
  replace H := H.2
  refine f_slI rfl ?_
  refine f_int (-1) rfl rfl ?_
  refine f_xoI rfl ?_
  refine f_anI rfl ?_
  obtain ⟨z3_46, e_z3_46⟩ : ∃ q : Int, q = (anI v32 (xoI (slI 1 (rd m32 (a + 2) (Int.toNat x2))) (-1))) := ⟨_, rfl⟩
  have r_z3_46 : rg z3_46 := by rw [e_z3_46]; exact (io_rg _ _ _)
  replace H := H z3_46 e_z3_46
  refine f_nm e_z3_46 ?_
  refine w_st (ls2 := [some (.ref 36), some (.ref a), some (iv x2), some (iv z3_46), none, none, none, none]) (fun _ => rfl) ?_
  refine f_int 0 rfl rfl ?_
  refine w_st (ls2 := [some (.ref 36), some (.ref a), some (iv x2), some (iv z3_46), some (iv 0), none, none, none]) (fun _ => rfl) ?_
  obtain ⟨I_50, mu_50, H0_50, HB_50⟩ := H
  have lp_50 : ∀ (z : Nat) (x4_50 : Int) (m_50 : Mm) (g5_50 g6_50 g7_50 : Option Value), mu_50 x4_50 m_50 < z → rg x4_50 → I_50 x4_50 m_50 → mm_W d mc_70 50 [some (.ref 36), some (.ref a), some (iv x2), some (iv z3_46), some (iv x4_50), g5_50, g6_50, g7_50] [] (fm m_50) (XV Q) := by
    intro z
    induction z with
    | zero => intro x4_50 m_50 g5_50 g6_50 g7_50 hz; exact absurd hz (Nat.not_lt_zero _)
    | succ z ih_50 =>
      intro x4_50 m_50 g5_50 g6_50 g7_50 hz_50 r_x4_50 hI
      have H := HB_50 x4_50 m_50 r_x4_50 hI
      refine w_st (fun _ => rfl) ?_
      refine w_st (fun _ => rfl) ?_
      refine g_36_0 rfl ?_
      refine g_7_0 rfl ?_
      refine w_st (fun _ => rfl) ?_
      refine g_36_0 rfl ?_
      refine g_7_1 rfl ?_
      refine f_mul rfl ?_
      refine b_ge rfl r_x4_50 (wr_rg _) (fun hq => ?_) (fun hq => ?_)
      · replace H := H.1 hq
        exact f_ret rfl H
      · replace H := H.2 hq
        refine f_int 0 rfl rfl ?_
        refine w_st (ls2 := [some (.ref 36), some (.ref a), some (iv x2), some (iv z3_46), some (iv x4_50), some (iv 0), g6_50, g7_50]) (fun _ => rfl) ?_
        obtain ⟨I_73, mu_73, H0_73, HB_73⟩ := H
        have lp_73 : ∀ (z : Nat) (x5_73 : Int) (m_73 : Mm) (g6_73 g7_73 : Option Value), mu_73 x5_73 m_73 < z → rg x5_73 → I_73 x5_73 m_73 → mm_W d mc_70 73 [some (.ref 36), some (.ref a), some (iv x2), some (iv z3_46), some (iv x4_50), some (iv x5_73), g6_73, g7_73] [] (fm m_73) (XV Q) := by
          intro z
          induction z with
          | zero => intro x5_73 m_73 g6_73 g7_73 hz; exact absurd hz (Nat.not_lt_zero _)
          | succ z ih_73 =>
            intro x5_73 m_73 g6_73 g7_73 hz_73 r_x5_73 hI
            have H := HB_73 x5_73 m_73 r_x5_73 hI
            refine w_st (fun _ => rfl) ?_
            refine f_int 4 rfl rfl ?_
            refine b_ge rfl r_x5_73 (by unfold rg; decide) (fun hq => ?_) (fun hq => ?_)
            · replace H := H.1 hq
              obtain ⟨z4_151, e_z4_151⟩ : ∃ q : Int, q = wr (x4_50 + 1) := ⟨_, rfl⟩
              have r_z4_151 : rg z4_151 := by rw [e_z4_151]; exact wr_rg _
              replace H := H z4_151 e_z4_151
              refine f_iinc (ls2 := [some (.ref 36), some (.ref a), some (iv x2), some (iv z3_46), some (iv z4_151), some (iv x5_73), g6_73, g7_73]) 1 rfl rfl rfl e_z4_151 rfl ?_
              refine w_st (fun _ => rfl) ?_
              exact ih_50 z4_151 m_73 (some (iv x5_73)) g6_73 g7_73 (Nat.lt_of_lt_of_le H.2 (Nat.le_of_lt_succ hz_50)) r_z4_151 H.1
            · replace H := H.2 hq
              refine w_st (fun _ => rfl) ?_
              refine g_36_0 rfl ?_
              refine w_st (fun _ => rfl) ?_
              refine w_st (fun _ => rfl) ?_
              refine k_VK (as := [iv x4_50, iv x5_73]) rfl mg_70 rfl rfl (by decide) rfl rfl H (fun m87 v87 r_v87 H => ?_)
              refine w_st (ls2 := [some (.ref 36), some (.ref a), some (iv x2), some (iv z3_46), some (iv x4_50), some (iv x5_73), some (iv v87), g7_73]) (fun _ => rfl) ?_
              refine w_st (fun _ => rfl) ?_
              refine f_int (-1) rfl rfl ?_
              obtain ⟨R_120, H, HJ_120⟩ := H
              have tl_120 : ∀ (s0_120 : Int) , rg s0_120 → R_120 s0_120 → mm_W d mc_70 120 [some (.ref 36), some (.ref a), some (iv x2), some (iv z3_46), some (iv x4_50), some (iv x5_73), some (iv v87), g7_73] [iv s0_120] (fm m87) (XV Q) := by
                intro s0_120 r_s0_120 hR
                have H := HJ_120 s0_120 r_s0_120 hR
                refine w_st (ls2 := [some (.ref 36), some (.ref a), some (iv x2), some (iv z3_46), some (iv x4_50), some (iv x5_73), some (iv v87), some (iv s0_120)]) (fun _ => rfl) ?_
                refine w_st (fun _ => rfl) ?_
                refine g_36_3 rfl ?_
                refine w_st (fun _ => rfl) ?_
                refine f_int 4 rfl rfl ?_
                refine f_mul rfl ?_
                refine w_st (fun _ => rfl) ?_
                refine f_add rfl ?_
                refine w_st (fun _ => rfl) ?_
                obtain ⟨R_144, H, HJ_144⟩ := H
                have tl_144 : ∀ (s2_144 : Int) , rg s2_144 → R_144 s2_144 → mm_W d mc_70 144 [some (.ref 36), some (.ref a), some (iv x2), some (iv z3_46), some (iv x4_50), some (iv x5_73), some (iv v87), some (iv s0_120)] [iv s2_144, iv (wr ((wr (x4_50 * 4)) + x5_73)), .ref 37] (fm m87) (XV Q) := by
                  intro s2_144 r_s2_144 hR
                  have H := HJ_144 s2_144 r_s2_144 hR
                  obtain ⟨m144, e_m144⟩ : ∃ q : Mm, q = wt m87 37 (Int.toNat (wr ((wr (x4_50 * 4)) + x5_73))) s2_144 := ⟨_, rfl⟩
                  refine f_st ir_37 rfl H.1 e_m144 ?_
                  replace H := H.2 m144 e_m144
                  obtain ⟨z5_145, e_z5_145⟩ : ∃ q : Int, q = wr (x5_73 + 1) := ⟨_, rfl⟩
                  have r_z5_145 : rg z5_145 := by rw [e_z5_145]; exact wr_rg _
                  replace H := H z5_145 e_z5_145
                  refine f_iinc (ls2 := [some (.ref 36), some (.ref a), some (iv x2), some (iv z3_46), some (iv x4_50), some (iv z5_145), some (iv v87), some (iv s0_120)]) 1 rfl rfl rfl e_z5_145 rfl ?_
                  refine w_st (fun _ => rfl) ?_
                  exact ih_73 z5_145 m144 (some (iv v87)) (some (iv s0_120)) (Nat.lt_of_lt_of_le H.2 (Nat.le_of_lt_succ hz_73)) r_z5_145 H.1
                refine z_eq rfl r_s0_120 (fun hq => ?_) (fun hq => ?_)
                · replace H := H.1 hq
                  refine f_int (-1) rfl rfl ?_
                  exact tl_144 (-1) (by unfold rg; decide) H
                · replace H := H.2 hq
                  refine w_st (fun _ => rfl) ?_
                  refine w_st (fun _ => rfl) ?_
                  exact tl_144 v87 r_v87 H
              obtain ⟨R_119, H, HJ_119⟩ := H
              have tl_119 : R_119 → mm_W d mc_70 119 [some (.ref 36), some (.ref a), some (iv x2), some (iv z3_46), some (iv x4_50), some (iv x5_73), some (iv v87), g7_73] [] (fm m87) (XV Q) := by
                intro   hR
                have H := HJ_119   hR
                refine f_int 0 rfl rfl ?_
                exact tl_120 0 (by unfold rg; decide) H
              refine b_eq rfl r_v87 (by unfold rg; decide) (fun hq => ?_) (fun hq => ?_)
              · replace H := H.1 hq
                exact tl_119   H
              · replace H := H.2 hq
                refine w_st (fun _ => rfl) ?_
                refine g_36_0 rfl ?_
                refine g_7_4 rfl ?_
                refine w_st (fun _ => rfl) ?_
                refine f_orI rfl ?_
                refine w_st (fun _ => rfl) ?_
                refine f_srI rfl ?_
                refine f_int 1 rfl rfl ?_
                refine f_anI rfl ?_
                refine z_ne rfl (io_rg _ _ _) (fun hq => ?_) (fun hq => ?_)
                · replace H := H.1 hq
                  exact tl_119   H
                · replace H := H.2 hq
                  refine f_int 1 rfl rfl ?_
                  refine w_st (fun _ => rfl) ?_
                  exact tl_120 1 (by unfold rg; decide) H
        exact lp_73 _ 0 m_50 g6_50 g7_50 (Nat.lt_succ_self _) (by unfold rg; decide) H0_73
  exact lp_50 _ 0 m32 none none none (Nat.lt_succ_self _) (by unfold rg; decide) H0_50
/-- TippedCrates$Standings.tipped(II)I -/
def P_71 (d : Nat) (m : Mm) (x1 : Int) (x2 : Int) (Q : Mm → Int → Prop) : Prop :=
  (((0 : Int) ≤ (wr ((wr ((dvI x1 24) * 4)) + x2)) ∧ (wr ((wr ((dvI x1 24) * 4)) + x2)) < 100) ∧ (∀ z3_13 : Int, z3_13 = (rd m 37 (Int.toNat (wr ((wr ((dvI x1 24) * 4)) + x2)))) → (∃ R_44 : Int → Prop,
    ((¬ z3_13 = (-1) → (((0 : Int) ≤ (wr ((wr ((rmI x1 24) * 4)) + x2)) ∧ (wr ((wr ((rmI x1 24) * 4)) + x2)) < 96) ∧ R_44 (wr ((wr (z3_13 * 24)) + (rd m 33 (Int.toNat (wr ((wr ((rmI x1 24) * 4)) + x2)))))))) ∧
    (z3_13 = (-1) → R_44 (-1))) ∧
    (∀ (s0_44 : Int) , rg s0_44 → R_44 s0_44 →
    Q m s0_44))))
set_option maxRecDepth 20000 in
theorem br_71 {d : Nat} {m : Mm} {x1 : Int} {x2 : Int} {Q : Mm → Int → Prop} (r_x1 : rg x1) (r_x2 : rg x2) (H : P_71 d m x1 x2 Q) : CK (d + 1) 71 [.ref 36, iv x1, iv x2] m Q := by
  unfold P_71 at H
  refine CK_of rfl ?_
  show mm_W d mc_71 0 [some (.ref 36), some (iv x1), some (iv x2), none] [] (fm m) (XK Q)
  refine w_st (fun _ => rfl) ?_
  refine g_36_3 rfl ?_
  refine w_st (fun _ => rfl) ?_
  refine f_int 24 rfl rfl ?_
  refine f_dvI rfl (by unfold rg; decide) (by decide) ?_
  refine f_int 4 rfl rfl ?_
  refine f_mul rfl ?_
  refine w_st (fun _ => rfl) ?_
  refine f_add rfl ?_
  refine f_ld ir_37 rfl H.1 ?_
  replace H := H.2
  obtain ⟨z3_13, e_z3_13⟩ : ∃ q : Int, q = (rd m 37 (Int.toNat (wr ((wr ((dvI x1 24) * 4)) + x2)))) := ⟨_, rfl⟩
  have r_z3_13 : rg z3_13 := by rw [e_z3_13]; exact (rd_rg _ _ _)
  replace H := H z3_13 e_z3_13
  refine f_nm e_z3_13 ?_
  refine w_st (ls2 := [some (.ref 36), some (iv x1), some (iv x2), some (iv z3_13)]) (fun _ => rfl) ?_
  refine w_st (fun _ => rfl) ?_
  refine f_int (-1) rfl rfl ?_
  obtain ⟨R_44, H, HJ_44⟩ := H
  have tl_44 : ∀ (s0_44 : Int) , rg s0_44 → R_44 s0_44 → mm_W d mc_71 44 [some (.ref 36), some (iv x1), some (iv x2), some (iv z3_13)] [iv s0_44] (fm m) (XK Q) := by
    intro s0_44 r_s0_44 hR
    have H := HJ_44 s0_44 r_s0_44 hR
    exact f_iret rfl r_s0_44 H
  refine b_ne rfl r_z3_13 (by unfold rg; decide) (fun hq => ?_) (fun hq => ?_)
  · replace H := H.1 hq
    refine w_st (fun _ => rfl) ?_
    refine f_int 24 rfl rfl ?_
    refine f_mul rfl ?_
    refine w_st (fun _ => rfl) ?_
    refine g_36_2 rfl ?_
    refine g_31_1 rfl ?_
    refine w_st (fun _ => rfl) ?_
    refine f_int 24 rfl rfl ?_
    refine f_rmI rfl (by unfold rg; decide) (by decide) ?_
    refine f_int 4 rfl rfl ?_
    refine f_mul rfl ?_
    refine w_st (fun _ => rfl) ?_
    refine f_add rfl ?_
    refine f_ld ir_33 rfl H.1 ?_
    replace H := H.2
    refine f_add rfl ?_
    exact tl_44 (wr ((wr (z3_13 * 24)) + (rd m 33 (Int.toNat (wr ((wr ((rmI x1 24) * 4)) + x2)))))) (wr_rg _) H
  · replace H := H.2 hq
    refine f_int (-1) rfl rfl ?_
    refine w_st (fun _ => rfl) ?_
    exact tl_44 (-1) (by unfold rg; decide) H
/-- TippedCrates$Standings.topOf(I)I -/
def P_72 (d : Nat) (m : Mm) (x1 : Int) (Q : Mm → Int → Prop) : Prop :=
  (((0 : Int) ≤ (wr ((wr ((rmI x1 24) * 6)) + 0)) ∧ (wr ((wr ((rmI x1 24) * 6)) + 0)) < 144) ∧ (((0 : Int) ≤ (rd m 32 (Int.toNat (wr ((wr ((rmI x1 24) * 6)) + 0)))) ∧ (rd m 32 (Int.toNat (wr ((wr ((rmI x1 24) * 6)) + 0)))) < 6) ∧ Q m (rd m 38 (Int.toNat (rd m 32 (Int.toNat (wr ((wr ((rmI x1 24) * 6)) + 0))))))))
set_option maxRecDepth 20000 in
theorem br_72 {d : Nat} {m : Mm} {x1 : Int} {Q : Mm → Int → Prop} (r_x1 : rg x1) (H : P_72 d m x1 Q) : CK (d + 1) 72 [.ref 36, iv x1] m Q := by
  unfold P_72 at H
  refine CK_of rfl ?_
  show mm_W d mc_72 0 [some (.ref 36), some (iv x1)] [] (fm m) (XK Q)
  refine w_st (fun _ => rfl) ?_
  refine g_36_4 rfl ?_
  refine w_st (fun _ => rfl) ?_
  refine g_36_2 rfl ?_
  refine g_31_0 rfl ?_
  refine w_st (fun _ => rfl) ?_
  refine f_int 24 rfl rfl ?_
  refine f_rmI rfl (by unfold rg; decide) (by decide) ?_
  refine f_int 6 rfl rfl ?_
  refine f_mul rfl ?_
  refine f_int 0 rfl rfl ?_
  refine f_add rfl ?_
  refine f_ld ir_32 rfl H.1 ?_
  replace H := H.2
  refine f_ld ir_38 rfl H.1 ?_
  replace H := H.2
  exact f_iret rfl (rd_rg _ _ _) H
/-- TippedCrates$Standings.beneathOf(I)I -/
def P_73 (d : Nat) (m : Mm) (x1 : Int) (Q : Mm → Int → Prop) : Prop :=
  (((0 : Int) ≤ (wr ((wr ((rmI x1 24) * 6)) + 1)) ∧ (wr ((wr ((rmI x1 24) * 6)) + 1)) < 144) ∧ (((0 : Int) ≤ (rd m 32 (Int.toNat (wr ((wr ((rmI x1 24) * 6)) + 1)))) ∧ (rd m 32 (Int.toNat (wr ((wr ((rmI x1 24) * 6)) + 1)))) < 6) ∧ Q m (rd m 38 (Int.toNat (rd m 32 (Int.toNat (wr ((wr ((rmI x1 24) * 6)) + 1))))))))
set_option maxRecDepth 20000 in
theorem br_73 {d : Nat} {m : Mm} {x1 : Int} {Q : Mm → Int → Prop} (r_x1 : rg x1) (H : P_73 d m x1 Q) : CK (d + 1) 73 [.ref 36, iv x1] m Q := by
  unfold P_73 at H
  refine CK_of rfl ?_
  show mm_W d mc_73 0 [some (.ref 36), some (iv x1)] [] (fm m) (XK Q)
  refine w_st (fun _ => rfl) ?_
  refine g_36_4 rfl ?_
  refine w_st (fun _ => rfl) ?_
  refine g_36_2 rfl ?_
  refine g_31_0 rfl ?_
  refine w_st (fun _ => rfl) ?_
  refine f_int 24 rfl rfl ?_
  refine f_rmI rfl (by unfold rg; decide) (by decide) ?_
  refine f_int 6 rfl rfl ?_
  refine f_mul rfl ?_
  refine f_int 1 rfl rfl ?_
  refine f_add rfl ?_
  refine f_ld ir_32 rfl H.1 ?_
  replace H := H.2
  refine f_ld ir_38 rfl H.1 ?_
  replace H := H.2
  exact f_iret rfl (rd_rg _ _ _) H
/-- TippedCrates$State.start(LTippedCrates$Plan;)V -/
def P_75 (d : Nat) (m : Mm) (a : Nat) (Q : Mm → Prop) : Prop :=
  (∀ m12 : Mm, m12 = cpm m 8 0 (a + 1) 0 25 → (∀ m26 : Mm, m26 = cpm m12 9 0 (a + 2) 0 3 → (∀ m44 : Mm, m44 = cpm m26 10 0 (a + 3) 0 18 → CV d 299 [.ref (a + 4), iv 0] m44 (fun m52 =>
    (∀ m60 : Mm, m60 = wt m52 a 4 (rd m52 7 3) → (∀ m65 : Mm, m65 = wt m60 a 5 0 → (∀ m70 : Mm, m70 = wt m65 a 6 0 → Q m70)))))))
set_option maxRecDepth 20000 in
theorem br_75 {d : Nat} {m : Mm} {a : Nat} {Q : Mm → Prop} (h_a : isSt a) (H : P_75 d m a Q) : CV (d + 1) 75 [.ref a, .ref 7] m Q := by
  unfold P_75 at H
  refine CV_of rfl ?_
  show mm_W d mc_75 0 [some (.ref a), some (.ref 7)] [] (fm m) (XV Q)
  refine w_st (fun _ => rfl) ?_
  refine g_7_5 rfl ?_
  refine f_int 0 rfl rfl ?_
  refine w_st (fun _ => rfl) ?_
  refine f_getr rfl (st_l0 h_a) (st_ck h_a _ _).1 rfl ?_
  refine f_int 0 rfl rfl ?_
  refine f_int 25 rfl rfl ?_
  obtain ⟨m12, e_m12⟩ : ∃ q : Mm, q = cpm m 8 0 (a + 1) 0 25 := ⟨_, rfl⟩
  refine f_ac ir_8 (st_1 h_a) rfl ⟨by decide, by decide, by decide, by decide, by decide⟩ rfl e_m12 ?_
  replace H := H m12 e_m12
  refine w_st (fun _ => rfl) ?_
  refine g_7_6 rfl ?_
  refine f_int 0 rfl rfl ?_
  refine w_st (fun _ => rfl) ?_
  refine f_getr rfl (st_l0 h_a) (st_ck h_a _ _).1 rfl ?_
  refine f_int 0 rfl rfl ?_
  refine f_int 3 rfl rfl ?_
  obtain ⟨m26, e_m26⟩ : ∃ q : Mm, q = cpm m12 9 0 (a + 2) 0 3 := ⟨_, rfl⟩
  refine f_ac ir_9 (st_2 h_a) rfl ⟨by decide, by decide, by decide, by decide, by decide⟩ rfl e_m26 ?_
  replace H := H m26 e_m26
  refine w_st (fun _ => rfl) ?_
  refine g_7_7 rfl ?_
  refine f_int 0 rfl rfl ?_
  refine w_st (fun _ => rfl) ?_
  refine f_getr rfl (st_l0 h_a) (st_ck h_a _ _).1 rfl ?_
  refine f_int 0 rfl rfl ?_
  refine w_st (fun _ => rfl) ?_
  refine f_getr rfl (st_l0 h_a) (st_ck h_a _ _).1 rfl ?_
  refine f_len (st_3 h_a) rfl ?_
  obtain ⟨m44, e_m44⟩ : ∃ q : Mm, q = cpm m26 10 0 (a + 3) 0 18 := ⟨_, rfl⟩
  refine f_ac ir_10 (st_3 h_a) rfl ⟨by decide, by decide, by decide, by decide, by decide⟩ rfl e_m44 ?_
  replace H := H m44 e_m44
  refine w_st (fun _ => rfl) ?_
  refine f_getr rfl (st_l0 h_a) (st_ck h_a _ _).1 rfl ?_
  refine f_int 0 rfl rfl ?_
  refine k_SV (as := [.ref (a + 4), iv 0]) rfl mg_75 rfl rfl rfl H (fun m52 H => ?_)
  refine w_st (fun _ => rfl) ?_
  refine w_st (fun _ => rfl) ?_
  refine g_7_3 rfl ?_
  obtain ⟨m60, e_m60⟩ : ∃ q : Mm, q = wt m52 a 4 (rd m52 7 3) := ⟨_, rfl⟩
  replace H := H m60 e_m60
  refine f_put rfl (st_l0 h_a) (st_ck h_a _ _).1 (Nat.le_of_ble_eq_true rfl) ((st_ck h_a _ _).1.trans rfl) e_m60 ?_
  refine w_st (fun _ => rfl) ?_
  refine f_int 0 rfl rfl ?_
  obtain ⟨m65, e_m65⟩ : ∃ q : Mm, q = wt m60 a 5 0 := ⟨_, rfl⟩
  replace H := H m65 e_m65
  refine f_put rfl (st_l0 h_a) (st_ck h_a _ _).1 (Nat.le_of_ble_eq_true rfl) ((st_ck h_a _ _).1.trans rfl) e_m65 ?_
  refine w_st (fun _ => rfl) ?_
  refine f_int 0 rfl rfl ?_
  obtain ⟨m70, e_m70⟩ : ∃ q : Mm, q = wt m65 a 6 0 := ⟨_, rfl⟩
  replace H := H m70 e_m70
  refine f_put rfl (st_l0 h_a) (st_ck h_a _ _).1 (Nat.le_of_ble_eq_true rfl) ((st_ck h_a _ _).1.trans rfl) e_m70 ?_
  exact f_ret rfl H
/-- TippedCrates$State.copyOf(LTippedCrates$State;)V -/
def P_76 (d : Nat) (m : Mm) (a : Nat) (b : Nat) (Q : Mm → Prop) : Prop :=
  (∀ m12 : Mm, m12 = cpm m (b + 1) 0 (a + 1) 0 25 → (∀ m26 : Mm, m26 = cpm m12 (b + 2) 0 (a + 2) 0 3 → (∀ m44 : Mm, m44 = cpm m26 (b + 3) 0 (a + 3) 0 18 → (∀ m58 : Mm, m58 = cpm m44 (b + 4) 0 (a + 4) 0 3 → (∀ m66 : Mm, m66 = wt m58 a 4 (rd m58 b 4) → (∀ m74 : Mm, m74 = wt m66 a 5 (rd m66 b 5) → (∀ m82 : Mm, m82 = wt m74 a 6 (rd m74 b 6) → Q m82)))))))
set_option maxRecDepth 20000 in
theorem br_76 {d : Nat} {m : Mm} {a : Nat} {b : Nat} {Q : Mm → Prop} (h_a : isSt a) (h_b : isSt b) (H : P_76 d m a b Q) : CV (d + 1) 76 [.ref a, .ref b] m Q := by
  unfold P_76 at H
  refine CV_of rfl ?_
  show mm_W d mc_76 0 [some (.ref a), some (.ref b)] [] (fm m) (XV Q)
  refine w_st (fun _ => rfl) ?_
  refine f_getr rfl (st_l0 h_b) (st_ck h_b _ _).1 rfl ?_
  refine f_int 0 rfl rfl ?_
  refine w_st (fun _ => rfl) ?_
  refine f_getr rfl (st_l0 h_a) (st_ck h_a _ _).1 rfl ?_
  refine f_int 0 rfl rfl ?_
  refine f_int 25 rfl rfl ?_
  obtain ⟨m12, e_m12⟩ : ∃ q : Mm, q = cpm m (b + 1) 0 (a + 1) 0 25 := ⟨_, rfl⟩
  refine f_ac (st_1 h_b) (st_1 h_a) rfl ⟨by decide, by decide, by decide, by decide, by decide⟩ rfl e_m12 ?_
  replace H := H m12 e_m12
  refine w_st (fun _ => rfl) ?_
  refine f_getr rfl (st_l0 h_b) (st_ck h_b _ _).1 rfl ?_
  refine f_int 0 rfl rfl ?_
  refine w_st (fun _ => rfl) ?_
  refine f_getr rfl (st_l0 h_a) (st_ck h_a _ _).1 rfl ?_
  refine f_int 0 rfl rfl ?_
  refine f_int 3 rfl rfl ?_
  obtain ⟨m26, e_m26⟩ : ∃ q : Mm, q = cpm m12 (b + 2) 0 (a + 2) 0 3 := ⟨_, rfl⟩
  refine f_ac (st_2 h_b) (st_2 h_a) rfl ⟨by decide, by decide, by decide, by decide, by decide⟩ rfl e_m26 ?_
  replace H := H m26 e_m26
  refine w_st (fun _ => rfl) ?_
  refine f_getr rfl (st_l0 h_b) (st_ck h_b _ _).1 rfl ?_
  refine f_int 0 rfl rfl ?_
  refine w_st (fun _ => rfl) ?_
  refine f_getr rfl (st_l0 h_a) (st_ck h_a _ _).1 rfl ?_
  refine f_int 0 rfl rfl ?_
  refine w_st (fun _ => rfl) ?_
  refine f_getr rfl (st_l0 h_a) (st_ck h_a _ _).1 rfl ?_
  refine f_len (st_3 h_a) rfl ?_
  obtain ⟨m44, e_m44⟩ : ∃ q : Mm, q = cpm m26 (b + 3) 0 (a + 3) 0 18 := ⟨_, rfl⟩
  refine f_ac (st_3 h_b) (st_3 h_a) rfl ⟨by decide, by decide, by decide, by decide, by decide⟩ rfl e_m44 ?_
  replace H := H m44 e_m44
  refine w_st (fun _ => rfl) ?_
  refine f_getr rfl (st_l0 h_b) (st_ck h_b _ _).1 rfl ?_
  refine f_int 0 rfl rfl ?_
  refine w_st (fun _ => rfl) ?_
  refine f_getr rfl (st_l0 h_a) (st_ck h_a _ _).1 rfl ?_
  refine f_int 0 rfl rfl ?_
  refine f_int 3 rfl rfl ?_
  obtain ⟨m58, e_m58⟩ : ∃ q : Mm, q = cpm m44 (b + 4) 0 (a + 4) 0 3 := ⟨_, rfl⟩
  refine f_ac (st_4 h_b) (st_4 h_a) rfl ⟨by decide, by decide, by decide, by decide, by decide⟩ rfl e_m58 ?_
  replace H := H m58 e_m58
  refine w_st (fun _ => rfl) ?_
  refine w_st (fun _ => rfl) ?_
  refine f_get rfl (st_l0 h_b) (st_ck h_b _ _).1 rfl ?_
  obtain ⟨m66, e_m66⟩ : ∃ q : Mm, q = wt m58 a 4 (rd m58 b 4) := ⟨_, rfl⟩
  replace H := H m66 e_m66
  refine f_put rfl (st_l0 h_a) (st_ck h_a _ _).1 (Nat.le_of_ble_eq_true rfl) ((st_ck h_a _ _).1.trans rfl) e_m66 ?_
  refine w_st (fun _ => rfl) ?_
  refine w_st (fun _ => rfl) ?_
  refine f_get rfl (st_l0 h_b) (st_ck h_b _ _).1 rfl ?_
  obtain ⟨m74, e_m74⟩ : ∃ q : Mm, q = wt m66 a 5 (rd m66 b 5) := ⟨_, rfl⟩
  replace H := H m74 e_m74
  refine f_put rfl (st_l0 h_a) (st_ck h_a _ _).1 (Nat.le_of_ble_eq_true rfl) ((st_ck h_a _ _).1.trans rfl) e_m74 ?_
  refine w_st (fun _ => rfl) ?_
  refine w_st (fun _ => rfl) ?_
  refine f_get rfl (st_l0 h_b) (st_ck h_b _ _).1 rfl ?_
  obtain ⟨m82, e_m82⟩ : ∃ q : Mm, q = wt m74 a 6 (rd m74 b 6) := ⟨_, rfl⟩
  replace H := H m82 e_m82
  refine f_put rfl (st_l0 h_a) (st_ck h_a _ _).1 (Nat.le_of_ble_eq_true rfl) ((st_ck h_a _ _).1.trans rfl) e_m82 ?_
  exact f_ret rfl H
/-- TippedCrates$State.crateOn(I)I -/
def P_77 (d : Nat) (m : Mm) (a : Nat) (x1 : Int) (Q : Mm → Int → Prop) : Prop :=
  (∃ (I_2 : Int → Prop) (mu_2 : Int → Nat), I_2 0 ∧
    ∀ (x2_2 : Int) , rg x2_2 → I_2 x2_2 →
    (((rd m a 4) ≤ x2_2 → Q m (-1)) ∧
        (¬ (rd m a 4) ≤ x2_2 → (((0 : Int) ≤ x2_2 ∧ x2_2 < 3) ∧ ((¬ (rd m (a + 2) (Int.toNat x2_2)) = x1 → (∀ z2_22 : Int, z2_22 = wr (x2_2 + 1) → (I_2 z2_22 ∧ mu_2 z2_22 < mu_2 x2_2))) ∧
          ((rd m (a + 2) (Int.toNat x2_2)) = x1 → Q m x2_2))))))
set_option maxRecDepth 20000 in
theorem br_77 {d : Nat} {m : Mm} {a : Nat} {x1 : Int} {Q : Mm → Int → Prop} (h_a : isSt a) (r_x1 : rg x1) (H : P_77 d m a x1 Q) : CK (d + 1) 77 [.ref a, iv x1] m Q := by
  unfold P_77 at H
  refine CK_of rfl ?_
  show mm_W d mc_77 0 [some (.ref a), some (iv x1), none] [] (fm m) (XK Q)
  refine f_int 0 rfl rfl ?_
  refine w_st (ls2 := [some (.ref a), some (iv x1), some (iv 0)]) (fun _ => rfl) ?_
  obtain ⟨I_2, mu_2, H0_2, HB_2⟩ := H
  have lp_2 : ∀ (z : Nat) (x2_2 : Int) , mu_2 x2_2 < z → rg x2_2 → I_2 x2_2 → mm_W d mc_77 2 [some (.ref a), some (iv x1), some (iv x2_2)] [] (fm m) (XK Q) := by
    intro z
    induction z with
    | zero => intro x2_2 hz; exact absurd hz (Nat.not_lt_zero _)
    | succ z ih_2 =>
      intro x2_2 hz_2 r_x2_2 hI
      have H := HB_2 x2_2 r_x2_2 hI
      refine w_st (fun _ => rfl) ?_
      refine w_st (fun _ => rfl) ?_
      refine f_get rfl (st_l0 h_a) (st_ck h_a _ _).1 rfl ?_
      refine b_ge rfl r_x2_2 (rd_rg _ _ _) (fun hq => ?_) (fun hq => ?_)
      · replace H := H.1 hq
        refine f_int (-1) rfl rfl ?_
        exact f_iret rfl (by unfold rg; decide) H
      · replace H := H.2 hq
        refine w_st (fun _ => rfl) ?_
        refine f_getr rfl (st_l0 h_a) (st_ck h_a _ _).1 rfl ?_
        refine w_st (fun _ => rfl) ?_
        refine f_ld (st_2 h_a) rfl H.1 ?_
        replace H := H.2
        refine w_st (fun _ => rfl) ?_
        refine b_ne rfl (rd_rg _ _ _) r_x1 (fun hq => ?_) (fun hq => ?_)
        · replace H := H.1 hq
          obtain ⟨z2_22, e_z2_22⟩ : ∃ q : Int, q = wr (x2_2 + 1) := ⟨_, rfl⟩
          have r_z2_22 : rg z2_22 := by rw [e_z2_22]; exact wr_rg _
          replace H := H z2_22 e_z2_22
          refine f_iinc (ls2 := [some (.ref a), some (iv x1), some (iv z2_22)]) 1 rfl rfl rfl e_z2_22 rfl ?_
          refine w_st (fun _ => rfl) ?_
          exact ih_2 z2_22 (Nat.lt_of_lt_of_le H.2 (Nat.le_of_lt_succ hz_2)) r_z2_22 H.1
        · replace H := H.2 hq
          refine w_st (fun _ => rfl) ?_
          exact f_iret rfl r_x2_2 H
  exact lp_2 _ 0 (Nat.lt_succ_self _) (by unfold rg; decide) H0_2
/-- TippedCrates$State.topOf(I)I -/
def P_78 (d : Nat) (m : Mm) (a : Nat) (x1 : Int) (Q : Mm → Int → Prop) : Prop :=
  (((0 : Int) ≤ (wr ((wr (x1 * 6)) + 0)) ∧ (wr ((wr (x1 * 6)) + 0)) < 18) ∧ Q m (rd m (a + 3) (Int.toNat (wr ((wr (x1 * 6)) + 0)))))
set_option maxRecDepth 20000 in
theorem br_78 {d : Nat} {m : Mm} {a : Nat} {x1 : Int} {Q : Mm → Int → Prop} (h_a : isSt a) (r_x1 : rg x1) (H : P_78 d m a x1 Q) : CK (d + 1) 78 [.ref a, iv x1] m Q := by
  unfold P_78 at H
  refine CK_of rfl ?_
  show mm_W d mc_78 0 [some (.ref a), some (iv x1)] [] (fm m) (XK Q)
  refine w_st (fun _ => rfl) ?_
  refine f_getr rfl (st_l0 h_a) (st_ck h_a _ _).1 rfl ?_
  refine w_st (fun _ => rfl) ?_
  refine f_int 6 rfl rfl ?_
  refine f_mul rfl ?_
  refine f_int 0 rfl rfl ?_
  refine f_add rfl ?_
  refine f_ld (st_3 h_a) rfl H.1 ?_
  replace H := H.2
  exact f_iret rfl (rd_rg _ _ _) H
/-- TippedCrates$State.markedFlags()I -/
def P_79 (d : Nat) (m : Mm) (a : Nat) (Q : Mm → Int → Prop) : Prop :=
  (∃ (I_4 : Int → Int → Prop) (mu_4 : Int → Int → Nat), I_4 0 0 ∧
    ∀ (x1_4 x2_4 : Int) , rg x1_4 → rg x2_4 → I_4 x1_4 x2_4 →
    ((25 ≤ x2_4 → Q m x1_4) ∧
        (¬ 25 ≤ x2_4 → (((0 : Int) ≤ x2_4 ∧ x2_4 < 25) ∧ (∃ R_25 : Int → Prop,
          (((rd m (a + 1) (Int.toNat x2_4)) ≤ 0 → R_25 x1_4) ∧
          (¬ (rd m (a + 1) (Int.toNat x2_4)) ≤ 0 → (∀ z1_24 : Int, z1_24 = (orI x1_4 (slI 1 x2_4)) → R_25 z1_24))) ∧
          (∀ (y1_25 : Int) , rg y1_25 → R_25 y1_25 →
          (∀ z2_25 : Int, z2_25 = wr (x2_4 + 1) → (I_4 y1_25 z2_25 ∧ mu_4 y1_25 z2_25 < mu_4 x1_4 x2_4))))))))
set_option maxRecDepth 20000 in
theorem br_79 {d : Nat} {m : Mm} {a : Nat} {Q : Mm → Int → Prop} (h_a : isSt a) (H : P_79 d m a Q) : CK (d + 1) 79 [.ref a] m Q := by
  unfold P_79 at H
  refine CK_of rfl ?_
  show mm_W d mc_79 0 [some (.ref a), none, none] [] (fm m) (XK Q)
  refine f_int 0 rfl rfl ?_
  refine w_st (ls2 := [some (.ref a), some (iv 0), none]) (fun _ => rfl) ?_
  refine f_int 0 rfl rfl ?_
  refine w_st (ls2 := [some (.ref a), some (iv 0), some (iv 0)]) (fun _ => rfl) ?_
  obtain ⟨I_4, mu_4, H0_4, HB_4⟩ := H
  have lp_4 : ∀ (z : Nat) (x1_4 x2_4 : Int) , mu_4 x1_4 x2_4 < z → rg x1_4 → rg x2_4 → I_4 x1_4 x2_4 → mm_W d mc_79 4 [some (.ref a), some (iv x1_4), some (iv x2_4)] [] (fm m) (XK Q) := by
    intro z
    induction z with
    | zero => intro x1_4 x2_4 hz; exact absurd hz (Nat.not_lt_zero _)
    | succ z ih_4 =>
      intro x1_4 x2_4 hz_4 r_x1_4 r_x2_4 hI
      have H := HB_4 x1_4 x2_4 r_x1_4 r_x2_4 hI
      refine w_st (fun _ => rfl) ?_
      refine f_int 25 rfl rfl ?_
      refine b_ge rfl r_x2_4 (by unfold rg; decide) (fun hq => ?_) (fun hq => ?_)
      · replace H := H.1 hq
        refine w_st (fun _ => rfl) ?_
        exact f_iret rfl r_x1_4 H
      · replace H := H.2 hq
        refine w_st (fun _ => rfl) ?_
        refine f_getr rfl (st_l0 h_a) (st_ck h_a _ _).1 rfl ?_
        refine w_st (fun _ => rfl) ?_
        refine f_ld (st_1 h_a) rfl H.1 ?_
        replace H := H.2
        obtain ⟨R_25, H, HJ_25⟩ := H
        have tl_25 : ∀ (y1_25 : Int) , rg y1_25 → R_25 y1_25 → mm_W d mc_79 25 [some (.ref a), some (iv y1_25), some (iv x2_4)] [] (fm m) (XK Q) := by
          intro y1_25 r_y1_25 hR
          have H := HJ_25 y1_25 r_y1_25 hR
          obtain ⟨z2_25, e_z2_25⟩ : ∃ q : Int, q = wr (x2_4 + 1) := ⟨_, rfl⟩
          have r_z2_25 : rg z2_25 := by rw [e_z2_25]; exact wr_rg _
          replace H := H z2_25 e_z2_25
          refine f_iinc (ls2 := [some (.ref a), some (iv y1_25), some (iv z2_25)]) 1 rfl rfl rfl e_z2_25 rfl ?_
          refine w_st (fun _ => rfl) ?_
          exact ih_4 y1_25 z2_25 (Nat.lt_of_lt_of_le H.2 (Nat.le_of_lt_succ hz_4)) r_y1_25 r_z2_25 H.1
        refine z_le rfl (rd_rg _ _ _) (fun hq => ?_) (fun hq => ?_)
        · replace H := H.1 hq
          exact tl_25 x1_4 r_x1_4 H
        · replace H := H.2 hq
          refine w_st (fun _ => rfl) ?_
          refine f_int 1 rfl rfl ?_
          refine w_st (fun _ => rfl) ?_
          refine f_slI rfl ?_
          refine f_orI rfl ?_
          obtain ⟨z1_24, e_z1_24⟩ : ∃ q : Int, q = (orI x1_4 (slI 1 x2_4)) := ⟨_, rfl⟩
          have r_z1_24 : rg z1_24 := by rw [e_z1_24]; exact (io_rg _ _ _)
          replace H := H z1_24 e_z1_24
          refine f_nm e_z1_24 ?_
          refine w_st (ls2 := [some (.ref a), some (iv z1_24), some (iv x2_4)]) (fun _ => rfl) ?_
          exact tl_25 z1_24 r_z1_24 H
  exact lp_4 _ 0 0 (Nat.lt_succ_self _) (by unfold rg; decide) (by unfold rg; decide) H0_4
