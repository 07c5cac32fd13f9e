/-- TippedCratesModel.never(II)I -/
def P_252 (d : Nat) (m : Mm) (x1 : Int) (x2 : Int) (Q : Mm → Int → Prop) : Prop :=
  CK d 210 [.ref 284, iv x1] m (fun m2 v2 =>
    (∃ R_15 : Mm → Prop,
    ((v2 = 0 → R_15 m2) ∧
    (¬ v2 = 0 → CK d 211 [iv x2] m2 (fun m9 v9 =>
      ((¬ v9 = 0 → CV d 249 [.ref 284, iv x1] m9 (fun m19 =>
        CK d 208 [.ref 284] m19 (fun m24 v24 =>
        (∀ z3_30 : Int, z3_30 = (wr ((slI 1 v24) - 1)) → (∃ (I_34 : Int → Int → Mm → Prop) (mu_34 : Int → Int → Mm → Nat), I_34 z3_30 0 m24 ∧
        ∀ (x3_34 x4_34 : Int) (m_34 : Mm), rg x3_34 → rg x4_34 → I_34 x3_34 x4_34 m_34 →
        (((rd m_34 284 67) ≤ x4_34 → Q m_34 x3_34) ∧
            (¬ (rd m_34 284 67) ≤ x4_34 → (((0 : Int) ≤ x4_34 ∧ x4_34 < 600) ∧ CK d 248 [.ref 284, iv x1, iv (rd m_34 329 (Int.toNat x4_34)), iv 0] m_34 (fun m53 v53 =>
              (∃ R_77 : Int → Prop,
              ((¬ v53 = x2 → R_77 x3_34) ∧
              (v53 = x2 → (((0 : Int) ≤ x4_34 ∧ x4_34 < 600) ∧ (∀ z3_76 : Int, z3_76 = (anI x3_34 (xoI (slI 1 (dvI (rd m53 329 (Int.toNat x4_34)) 24)) (-1))) → R_77 z3_76)))) ∧
              (∀ (y3_77 : Int) , rg y3_77 → R_77 y3_77 →
              (∀ z4_77 : Int, z4_77 = wr (x4_34 + 1) → (I_34 y3_77 z4_77 m53 ∧ mu_34 y3_77 z4_77 m53 < mu_34 x3_34 x4_34 m_34))))))))))))) ∧
      (v9 = 0 → R_15 m9))))) ∧
    (∀ (m_15 : Mm), R_15 m_15 →
    Q m_15 (-1))))
set_option maxRecDepth 20000 in
theorem br_252 {d : Nat} {m : Mm} {x1 : Int} {x2 : Int} {Q : Mm → Int → Prop} (r_x1 : rg x1) (r_x2 : rg x2) (H : P_252 d m x1 x2 Q) : CK (d + 1) 252 [.ref 284, iv x1, iv x2] m Q := by
  unfold P_252 at H
  refine CK_of rfl ?_
  show mm_W d mc_252 0 [some (.ref 284), some (iv x1), some (iv x2), none, none] [] (fm m) (XK Q)
  refine w_st (fun _ => rfl) ?_
  refine w_st (fun _ => rfl) ?_
  refine k_VK (as := [iv x1]) rfl mg_252 rfl rfl (by decide) rfl rfl H (fun m2 v2 r_v2 H => ?_)
  obtain ⟨R_15, H, HJ_15⟩ := H
  have tl_15 : ∀ (m_15 : Mm), R_15 m_15 → mm_W d mc_252 15 [some (.ref 284), some (iv x1), some (iv x2), none, none] [] (fm m_15) (XK Q) := by
    intro m_15  hR
    have H := HJ_15 m_15  hR
    refine f_int (-1) rfl rfl ?_
    exact f_iret rfl (by unfold rg; decide) H
  refine z_eq rfl r_v2 (fun hq => ?_) (fun hq => ?_)
  · replace H := H.1 hq
    exact tl_15 m2  H
  · replace H := H.2 hq
    refine w_st (fun _ => rfl) ?_
    refine k_SK (as := [iv x2]) rfl mg_252 rfl rfl rfl H (fun m9 v9 r_v9 H => ?_)
    refine z_ne rfl r_v9 (fun hq => ?_) (fun hq => ?_)
    · replace H := H.1 hq
      refine w_st (fun _ => rfl) ?_
      refine w_st (fun _ => rfl) ?_
      refine k_VV (as := [iv x1]) rfl mg_252 rfl rfl (by decide) rfl rfl H (fun m19 H => ?_)
      refine f_int 1 rfl rfl ?_
      refine w_st (fun _ => rfl) ?_
      refine k_VK (as := []) rfl mg_252 rfl rfl (by decide) rfl rfl H (fun m24 v24 r_v24 H => ?_)
      refine f_slI rfl ?_
      refine f_int 1 rfl rfl ?_
      refine f_sub rfl ?_
      obtain ⟨z3_30, e_z3_30⟩ : ∃ q : Int, q = (wr ((slI 1 v24) - 1)) := ⟨_, rfl⟩
      have r_z3_30 : rg z3_30 := by rw [e_z3_30]; exact (wr_rg _)
      replace H := H z3_30 e_z3_30
      refine f_nm e_z3_30 ?_
      refine w_st (ls2 := [some (.ref 284), some (iv x1), some (iv x2), some (iv z3_30), none]) (fun _ => rfl) ?_
      refine f_int 0 rfl rfl ?_
      refine w_st (ls2 := [some (.ref 284), some (iv x1), some (iv x2), some (iv z3_30), some (iv 0)]) (fun _ => rfl) ?_
      obtain ⟨I_34, mu_34, H0_34, HB_34⟩ := H
      have lp_34 : ∀ (z : Nat) (x3_34 x4_34 : Int) (m_34 : Mm), mu_34 x3_34 x4_34 m_34 < z → rg x3_34 → rg x4_34 → I_34 x3_34 x4_34 m_34 → mm_W d mc_252 34 [some (.ref 284), some (iv x1), some (iv x2), some (iv x3_34), some (iv x4_34)] [] (fm m_34) (XK Q) := by
        intro z
        induction z with
        | zero => intro x3_34 x4_34 m_34 hz; exact absurd hz (Nat.not_lt_zero _)
        | succ z ih_34 =>
          intro x3_34 x4_34 m_34 hz_34 r_x3_34 r_x4_34 hI
          have H := HB_34 x3_34 x4_34 m_34 r_x3_34 r_x4_34 hI
          refine w_st (fun _ => rfl) ?_
          refine w_st (fun _ => rfl) ?_
          refine g_284_67 rfl ?_
          refine b_ge rfl r_x4_34 (rd_rg _ _ _) (fun hq => ?_) (fun hq => ?_)
          · replace H := H.1 hq
            refine w_st (fun _ => rfl) ?_
            exact f_iret rfl r_x3_34 H
          · replace H := H.2 hq
            refine w_st (fun _ => rfl) ?_
            refine w_st (fun _ => rfl) ?_
            refine w_st (fun _ => rfl) ?_
            refine g_284_66 rfl ?_
            refine w_st (fun _ => rfl) ?_
            refine f_ld ir_329 rfl H.1 ?_
            replace H := H.2
            refine f_int 0 rfl rfl ?_
            refine k_VK (as := [iv x1, iv (rd m_34 329 (Int.toNat x4_34)), iv 0]) rfl mg_252 rfl rfl (by decide) rfl rfl H (fun m53 v53 r_v53 H => ?_)
            refine w_st (fun _ => rfl) ?_
            obtain ⟨R_77, H, HJ_77⟩ := H
            have tl_77 : ∀ (y3_77 : Int) , rg y3_77 → R_77 y3_77 → mm_W d mc_252 77 [some (.ref 284), some (iv x1), some (iv x2), some (iv y3_77), some (iv x4_34)] [] (fm m53) (XK Q) := by
              intro y3_77 r_y3_77 hR
              have H := HJ_77 y3_77 r_y3_77 hR
              obtain ⟨z4_77, e_z4_77⟩ : ∃ q : Int, q = wr (x4_34 + 1) := ⟨_, rfl⟩
              have r_z4_77 : rg z4_77 := by rw [e_z4_77]; exact wr_rg _
              replace H := H z4_77 e_z4_77
              refine f_iinc (ls2 := [some (.ref 284), some (iv x1), some (iv x2), some (iv y3_77), some (iv z4_77)]) 1 rfl rfl rfl e_z4_77 rfl ?_
              refine w_st (fun _ => rfl) ?_
              exact ih_34 y3_77 z4_77 m53 (Nat.lt_of_lt_of_le H.2 (Nat.le_of_lt_succ hz_34)) r_y3_77 r_z4_77 H.1
            refine b_ne rfl r_v53 r_x2 (fun hq => ?_) (fun hq => ?_)
            · replace H := H.1 hq
              exact tl_77 x3_34 r_x3_34 H
            · replace H := H.2 hq
              refine w_st (fun _ => rfl) ?_
              refine f_int 1 rfl rfl ?_
              refine w_st (fun _ => rfl) ?_
              refine g_284_66 rfl ?_
              refine w_st (fun _ => rfl) ?_
              refine f_ld ir_329 rfl H.1 ?_
              replace H := H.2
              refine f_int 24 rfl rfl ?_
              refine f_dvI rfl (by unfold rg; decide) (by decide) ?_
              refine f_slI rfl ?_
              refine f_int (-1) rfl rfl ?_
              refine f_xoI rfl ?_
              refine f_anI rfl ?_
              obtain ⟨z3_76, e_z3_76⟩ : ∃ q : Int, q = (anI x3_34 (xoI (slI 1 (dvI (rd m53 329 (Int.toNat x4_34)) 24)) (-1))) := ⟨_, rfl⟩
              have r_z3_76 : rg z3_76 := by rw [e_z3_76]; exact (io_rg _ _ _)
              replace H := H z3_76 e_z3_76
              refine f_nm e_z3_76 ?_
              refine w_st (ls2 := [some (.ref 284), some (iv x1), some (iv x2), some (iv z3_76), some (iv x4_34)]) (fun _ => rfl) ?_
              exact tl_77 z3_76 r_z3_76 H
      exact lp_34 _ z3_30 0 m24 (Nat.lt_succ_self _) r_z3_30 (by unfold rg; decide) H0_34
    · replace H := H.2 hq
      exact tl_15 m9  H
/-- TippedCratesModel.nearest(III)I -/
def P_253 (d : Nat) (m : Mm) (x1 : Int) (x2 : Int) (x3 : Int) (Q : Mm → Int → Prop) : Prop :=
  CK d 210 [.ref 284, iv x1] m (fun m2 v2 =>
    (∃ R_24 : Mm → Prop,
    ((v2 = 0 → R_24 m2) ∧
    (¬ v2 = 0 → CK d 211 [iv x2] m2 (fun m9 v9 =>
      ((v9 = 0 → R_24 m9) ∧
      (¬ v9 = 0 → CK d 206 [iv x3, iv 0, iv 1] m9 (fun m18 v18 =>
        ((¬ v18 = 0 → CV d 249 [.ref 284, iv x1] m18 (fun m28 =>
          (∃ (I_42 : Int → Int → Int → Mm → Prop) (mu_42 : Int → Int → Int → Mm → Nat), I_42 (-2) (-2) 0 m28 ∧
          ∀ (x4_42 x5_42 x6_42 : Int) (m_42 : Mm), rg x4_42 → rg x5_42 → rg x6_42 → I_42 x4_42 x5_42 x6_42 m_42 →
          CK d 247 [.ref 284] m_42 (fun m45 v45 =>
              ((v45 ≤ x6_42 → (∃ R_126 : Int → Prop,
                ((¬ x3 = 0 → R_126 x5_42) ∧
                (x3 = 0 → R_126 x4_42)) ∧
                (∀ (s0_126 : Int) , rg s0_126 → R_126 s0_126 →
                Q m45 s0_126))) ∧
              (¬ v45 ≤ x6_42 → (((0 : Int) ≤ x6_42 ∧ x6_42 < 600) ∧ (∃ R_109 : Int → Int → Mm → Prop,
                (((rd m45 326 (Int.toNat x6_42)) < 0 → R_109 x4_42 x5_42 m45) ∧
                (¬ (rd m45 326 (Int.toNat x6_42)) < 0 → CK d 248 [.ref 284, iv x1, iv x6_42, iv 0] m45 (fun m66 v66 =>
                  ((¬ v66 = x2 → R_109 x4_42 x5_42 m66) ∧
                  (v66 = x2 → (∃ R_93 : Prop,
                    ((x4_42 < 0 → R_93) ∧
                    (¬ x4_42 < 0 → (((0 : Int) ≤ x6_42 ∧ x6_42 < 600) ∧ (((rd m66 326 (Int.toNat x6_42)) < x5_42 → R_93) ∧
                      (¬ (rd m66 326 (Int.toNat x6_42)) < x5_42 → R_109 x4_42 x5_42 m66))))) ∧
                    (R_93 →
                    (∀ z4_98 : Int, z4_98 = (dvI x6_42 24) → (((0 : Int) ≤ x6_42 ∧ x6_42 < 600) ∧ (∀ z5_107 : Int, z5_107 = (rd m66 326 (Int.toNat x6_42)) → R_109 z4_98 z5_107 m66)))))))))) ∧
                (∀ (y4_109 y5_109 : Int) (m_109 : Mm), rg y4_109 → rg y5_109 → R_109 y4_109 y5_109 m_109 →
                (∀ z6_109 : Int, z6_109 = wr (x6_42 + 1) → (I_42 y4_109 y5_109 z6_109 m_109 ∧ mu_42 y4_109 y5_109 z6_109 m_109 < mu_42 x4_42 x5_42 x6_42 m_42))))))))))) ∧
        (v18 = 0 → R_24 m18)))))))) ∧
    (∀ (m_24 : Mm), R_24 m_24 →
    Q m_24 (-1))))
set_option maxRecDepth 20000 in
theorem br_253 {d : Nat} {m : Mm} {x1 : Int} {x2 : Int} {x3 : Int} {Q : Mm → Int → Prop} (r_x1 : rg x1) (r_x2 : rg x2) (r_x3 : rg x3) (H : P_253 d m x1 x2 x3 Q) : CK (d + 1) 253 [.ref 284, iv x1, iv x2, iv x3] m Q := by
  unfold P_253 at H
  refine CK_of rfl ?_
  show mm_W d mc_253 0 [some (.ref 284), some (iv x1), some (iv x2), some (iv x3), none, none, none] [] (fm m) (XK Q)
  refine w_st (fun _ => rfl) ?_
  refine w_st (fun _ => rfl) ?_
  refine k_VK (as := [iv x1]) rfl mg_253 rfl rfl (by decide) rfl rfl H (fun m2 v2 r_v2 H => ?_)
  obtain ⟨R_24, H, HJ_24⟩ := H
  have tl_24 : ∀ (m_24 : Mm), R_24 m_24 → mm_W d mc_253 24 [some (.ref 284), some (iv x1), some (iv x2), some (iv x3), none, none, none] [] (fm m_24) (XK Q) := by
    intro m_24  hR
    have H := HJ_24 m_24  hR
    refine f_int (-1) rfl rfl ?_
    exact f_iret rfl (by unfold rg; decide) H
  refine z_eq rfl r_v2 (fun hq => ?_) (fun hq => ?_)
  · replace H := H.1 hq
    exact tl_24 m2  H
  · replace H := H.2 hq
    refine w_st (fun _ => rfl) ?_
    refine k_SK (as := [iv x2]) rfl mg_253 rfl rfl rfl H (fun m9 v9 r_v9 H => ?_)
    refine z_eq rfl r_v9 (fun hq => ?_) (fun hq => ?_)
    · replace H := H.1 hq
      exact tl_24 m9  H
    · replace H := H.2 hq
      refine w_st (fun _ => rfl) ?_
      refine f_int 0 rfl rfl ?_
      refine f_int 1 rfl rfl ?_
      refine k_SK (as := [iv x3, iv 0, iv 1]) rfl mg_253 rfl rfl rfl H (fun m18 v18 r_v18 H => ?_)
      refine z_ne rfl r_v18 (fun hq => ?_) (fun hq => ?_)
      · replace H := H.1 hq
        refine w_st (fun _ => rfl) ?_
        refine w_st (fun _ => rfl) ?_
        refine k_VV (as := [iv x1]) rfl mg_253 rfl rfl (by decide) rfl rfl H (fun m28 H => ?_)
        refine f_int (-2) rfl rfl ?_
        refine w_st (ls2 := [some (.ref 284), some (iv x1), some (iv x2), some (iv x3), some (iv (-2)), none, none]) (fun _ => rfl) ?_
        refine f_int (-2) rfl rfl ?_
        refine w_st (ls2 := [some (.ref 284), some (iv x1), some (iv x2), some (iv x3), some (iv (-2)), some (iv (-2)), none]) (fun _ => rfl) ?_
        refine f_int 0 rfl rfl ?_
        refine w_st (ls2 := [some (.ref 284), some (iv x1), some (iv x2), some (iv x3), some (iv (-2)), some (iv (-2)), some (iv 0)]) (fun _ => rfl) ?_
        obtain ⟨I_42, mu_42, H0_42, HB_42⟩ := H
        have lp_42 : ∀ (z : Nat) (x4_42 x5_42 x6_42 : Int) (m_42 : Mm), mu_42 x4_42 x5_42 x6_42 m_42 < z → rg x4_42 → rg x5_42 → rg x6_42 → I_42 x4_42 x5_42 x6_42 m_42 → mm_W d mc_253 42 [some (.ref 284), some (iv x1), some (iv x2), some (iv x3), some (iv x4_42), some (iv x5_42), some (iv x6_42)] [] (fm m_42) (XK Q) := by
          intro z
          induction z with
          | zero => intro x4_42 x5_42 x6_42 m_42 hz; exact absurd hz (Nat.not_lt_zero _)
          | succ z ih_42 =>
            intro x4_42 x5_42 x6_42 m_42 hz_42 r_x4_42 r_x5_42 r_x6_42 hI
            have H := HB_42 x4_42 x5_42 x6_42 m_42 r_x4_42 r_x5_42 r_x6_42 hI
            refine w_st (fun _ => rfl) ?_
            refine w_st (fun _ => rfl) ?_
            refine k_VK (as := []) rfl mg_253 rfl rfl (by decide) rfl rfl H (fun m45 v45 r_v45 H => ?_)
            refine b_ge rfl r_x6_42 r_v45 (fun hq => ?_) (fun hq => ?_)
            · replace H := H.1 hq
              refine w_st (fun _ => rfl) ?_
              obtain ⟨R_126, H, HJ_126⟩ := H
              have tl_126 : ∀ (s0_126 : Int) , rg s0_126 → R_126 s0_126 → mm_W d mc_253 126 [some (.ref 284), some (iv x1), some (iv x2), some (iv x3), some (iv x4_42), some (iv x5_42), some (iv x6_42)] [iv s0_126] (fm m45) (XK Q) := by
                intro s0_126 r_s0_126 hR
                have H := HJ_126 s0_126 r_s0_126 hR
                exact f_iret rfl r_s0_126 H
              refine z_ne rfl r_x3 (fun hq => ?_) (fun hq => ?_)
              · replace H := H.1 hq
                refine w_st (fun _ => rfl) ?_
                exact tl_126 x5_42 r_x5_42 H
              · replace H := H.2 hq
                refine w_st (fun _ => rfl) ?_
                refine w_st (fun _ => rfl) ?_
                exact tl_126 x4_42 r_x4_42 H
            · replace H := H.2 hq
              refine w_st (fun _ => rfl) ?_
              refine g_284_63 rfl ?_
              refine w_st (fun _ => rfl) ?_
              refine f_ld ir_326 rfl H.1 ?_
              replace H := H.2
              obtain ⟨R_109, H, HJ_109⟩ := H
              have tl_109 : ∀ (y4_109 y5_109 : Int) (m_109 : Mm), rg y4_109 → rg y5_109 → R_109 y4_109 y5_109 m_109 → mm_W d mc_253 109 [some (.ref 284), some (iv x1), some (iv x2), some (iv x3), some (iv y4_109), some (iv y5_109), some (iv x6_42)] [] (fm m_109) (XK Q) := by
                intro y4_109 y5_109 m_109 r_y4_109 r_y5_109 hR
                have H := HJ_109 y4_109 y5_109 m_109 r_y4_109 r_y5_109 hR
                obtain ⟨z6_109, e_z6_109⟩ : ∃ q : Int, q = wr (x6_42 + 1) := ⟨_, rfl⟩
                have r_z6_109 : rg z6_109 := by rw [e_z6_109]; exact wr_rg _
                replace H := H z6_109 e_z6_109
                refine f_iinc (ls2 := [some (.ref 284), some (iv x1), some (iv x2), some (iv x3), some (iv y4_109), some (iv y5_109), some (iv z6_109)]) 1 rfl rfl rfl e_z6_109 rfl ?_
                refine w_st (fun _ => rfl) ?_
                exact ih_42 y4_109 y5_109 z6_109 m_109 (Nat.lt_of_lt_of_le H.2 (Nat.le_of_lt_succ hz_42)) r_y4_109 r_y5_109 r_z6_109 H.1
              refine z_lt rfl (rd_rg _ _ _) (fun hq => ?_) (fun hq => ?_)
              · replace H := H.1 hq
                exact tl_109 x4_42 x5_42 m45 r_x4_42 r_x5_42 H
              · replace H := H.2 hq
                refine w_st (fun _ => rfl) ?_
                refine w_st (fun _ => rfl) ?_
                refine w_st (fun _ => rfl) ?_
                refine f_int 0 rfl rfl ?_
                refine k_VK (as := [iv x1, iv x6_42, iv 0]) rfl mg_253 rfl rfl (by decide) rfl rfl H (fun m66 v66 r_v66 H => ?_)
                refine w_st (fun _ => rfl) ?_
                refine b_ne rfl r_v66 r_x2 (fun hq => ?_) (fun hq => ?_)
                · replace H := H.1 hq
                  exact tl_109 x4_42 x5_42 m66 r_x4_42 r_x5_42 H
                · replace H := H.2 hq
                  refine w_st (fun _ => rfl) ?_
                  obtain ⟨R_93, H, HJ_93⟩ := H
                  have tl_93 : R_93 → mm_W d mc_253 93 [some (.ref 284), some (iv x1), some (iv x2), some (iv x3), some (iv x4_42), some (iv x5_42), some (iv x6_42)] [] (fm m66) (XK Q) := by
                    intro   hR
                    have H := HJ_93   hR
                    refine w_st (fun _ => rfl) ?_
                    refine f_int 24 rfl rfl ?_
                    refine f_dvI rfl (by unfold rg; decide) (by decide) ?_
                    obtain ⟨z4_98, e_z4_98⟩ : ∃ q : Int, q = (dvI x6_42 24) := ⟨_, rfl⟩
                    have r_z4_98 : rg z4_98 := by rw [e_z4_98]; exact (io_rg _ _ _)
                    replace H := H z4_98 e_z4_98
                    refine f_nm e_z4_98 ?_
                    refine w_st (ls2 := [some (.ref 284), some (iv x1), some (iv x2), some (iv x3), some (iv z4_98), some (iv x5_42), some (iv x6_42)]) (fun _ => rfl) ?_
                    refine w_st (fun _ => rfl) ?_
                    refine g_284_63 rfl ?_
                    refine w_st (fun _ => rfl) ?_
                    refine f_ld ir_326 rfl H.1 ?_
                    replace H := H.2
                    obtain ⟨z5_107, e_z5_107⟩ : ∃ q : Int, q = (rd m66 326 (Int.toNat x6_42)) := ⟨_, rfl⟩
                    have r_z5_107 : rg z5_107 := by rw [e_z5_107]; exact (rd_rg _ _ _)
                    replace H := H z5_107 e_z5_107
                    refine f_nm e_z5_107 ?_
                    refine w_st (ls2 := [some (.ref 284), some (iv x1), some (iv x2), some (iv x3), some (iv z4_98), some (iv z5_107), some (iv x6_42)]) (fun _ => rfl) ?_
                    exact tl_109 z4_98 z5_107 m66 r_z4_98 r_z5_107 H
                  refine z_lt rfl r_x4_42 (fun hq => ?_) (fun hq => ?_)
                  · replace H := H.1 hq
                    exact tl_93   H
                  · replace H := H.2 hq
                    refine w_st (fun _ => rfl) ?_
                    refine g_284_63 rfl ?_
                    refine w_st (fun _ => rfl) ?_
                    refine f_ld ir_326 rfl H.1 ?_
                    replace H := H.2
                    refine w_st (fun _ => rfl) ?_
                    refine b_lt rfl (rd_rg _ _ _) r_x5_42 (fun hq => ?_) (fun hq => ?_)
                    · replace H := H.1 hq
                      exact tl_93   H
                    · replace H := H.2 hq
                      refine w_st (fun _ => rfl) ?_
                      exact tl_109 x4_42 x5_42 m66 r_x4_42 r_x5_42 H
        exact lp_42 _ (-2) (-2) 0 m28 (Nat.lt_succ_self _) (by unfold rg; decide) (by unfold rg; decide) (by unfold rg; decide) H0_42
      · replace H := H.2 hq
        exact tl_24 m18  H
/-- TippedCratesModel.spots(I)I -/
def P_254 (d : Nat) (m : Mm) (x1 : Int) (Q : Mm → Int → Prop) : Prop :=
  CK d 210 [.ref 284, iv x1] m (fun m2 v2 =>
    ((¬ v2 = 0 → CV d 249 [.ref 284, iv x1] m2 (fun m12 =>
      Q m12 (rd m12 284 67))) ∧
    (v2 = 0 → Q m2 (-1))))
set_option maxRecDepth 20000 in
theorem br_254 {d : Nat} {m : Mm} {x1 : Int} {Q : Mm → Int → Prop} (r_x1 : rg x1) (H : P_254 d m x1 Q) : CK (d + 1) 254 [.ref 284, iv x1] m Q := by
  unfold P_254 at H
  refine CK_of rfl ?_
  show mm_W d mc_254 0 [some (.ref 284), some (iv x1)] [] (fm m) (XK Q)
  refine w_st (fun _ => rfl) ?_
  refine w_st (fun _ => rfl) ?_
  refine k_VK (as := [iv x1]) rfl mg_254 rfl rfl (by decide) rfl rfl H (fun m2 v2 r_v2 H => ?_)
  refine z_ne rfl r_v2 (fun hq => ?_) (fun hq => ?_)
  · replace H := H.1 hq
    refine w_st (fun _ => rfl) ?_
    refine w_st (fun _ => rfl) ?_
    refine k_VV (as := [iv x1]) rfl mg_254 rfl rfl (by decide) rfl rfl H (fun m12 H => ?_)
    refine w_st (fun _ => rfl) ?_
    refine g_284_67 rfl ?_
    exact f_iret rfl (rd_rg _ _ _) H
  · replace H := H.2 hq
    refine f_int (-1) rfl rfl ?_
    exact f_iret rfl (by unfold rg; decide) H
/-- TippedCratesModel.turnedRound(I)I -/
def P_255 (d : Nat) (m : Mm) (x1 : Int) (Q : Mm → Int → Prop) : Prop :=
  (((0 : Int) ≤ (wr (43 + x1)) ∧ (wr (43 + x1)) < 51) ∧ (∀ z2_9 : Int, z2_9 = (rd m 323 (Int.toNat (wr (43 + x1)))) → (∀ z4_19 : Int, z4_19 = (wr ((wr (24 * z2_9)) + 1)) → (∃ (I_21 : Int → Int → Prop) (mu_21 : Int → Int → Nat), I_21 (-2) z4_19 ∧
    ∀ (x3_21 x4_21 : Int) , rg x3_21 → rg x4_21 → I_21 x3_21 x4_21 →
    (((wr ((wr (24 * z2_9)) + 24)) ≤ x4_21 → Q m x3_21) ∧
        (¬ (wr ((wr (24 * z2_9)) + 24)) ≤ x4_21 → (((0 : Int) ≤ x4_21 ∧ x4_21 < 600) ∧ (∃ R_66 : Int → Prop,
          (((rd m 326 (Int.toNat x4_21)) < 0 → R_66 x3_21) ∧
          (¬ (rd m 326 (Int.toNat x4_21)) < 0 → (∃ R_58 : Prop,
            ((x3_21 < 0 → R_58) ∧
            (¬ x3_21 < 0 → (((0 : Int) ≤ x4_21 ∧ x4_21 < 600) ∧ ((x3_21 ≤ (rd m 326 (Int.toNat x4_21)) → R_66 x3_21) ∧
              (¬ x3_21 ≤ (rd m 326 (Int.toNat x4_21)) → R_58))))) ∧
            (R_58 →
            (((0 : Int) ≤ x4_21 ∧ x4_21 < 600) ∧ (∀ z3_65 : Int, z3_65 = (rd m 326 (Int.toNat x4_21)) → R_66 z3_65)))))) ∧
          (∀ (y3_66 : Int) , rg y3_66 → R_66 y3_66 →
          (∀ z4_66 : Int, z4_66 = wr (x4_21 + 1) → (I_21 y3_66 z4_66 ∧ mu_21 y3_66 z4_66 < mu_21 x3_21 x4_21)))))))))))
set_option maxRecDepth 20000 in
theorem br_255 {d : Nat} {m : Mm} {x1 : Int} {Q : Mm → Int → Prop} (r_x1 : rg x1) (H : P_255 d m x1 Q) : CK (d + 1) 255 [.ref 284, iv x1] m Q := by
  unfold P_255 at H
  refine CK_of rfl ?_
  show mm_W d mc_255 0 [some (.ref 284), some (iv x1), none, none, none] [] (fm m) (XK Q)
  refine w_st (fun _ => rfl) ?_
  refine g_284_57 rfl ?_
  refine f_int 43 rfl rfl ?_
  refine w_st (fun _ => rfl) ?_
  refine f_add rfl ?_
  refine f_ld ir_323 rfl H.1 ?_
  replace H := H.2
  obtain ⟨z2_9, e_z2_9⟩ : ∃ q : Int, q = (rd m 323 (Int.toNat (wr (43 + x1)))) := ⟨_, rfl⟩
  have r_z2_9 : rg z2_9 := by rw [e_z2_9]; exact (rd_rg _ _ _)
  replace H := H z2_9 e_z2_9
  refine f_nm e_z2_9 ?_
  refine w_st (ls2 := [some (.ref 284), some (iv x1), some (iv z2_9), none, none]) (fun _ => rfl) ?_
  refine f_int (-2) rfl rfl ?_
  refine w_st (ls2 := [some (.ref 284), some (iv x1), some (iv z2_9), some (iv (-2)), none]) (fun _ => rfl) ?_
  refine f_int 24 rfl rfl ?_
  refine w_st (fun _ => rfl) ?_
  refine f_mul rfl ?_
  refine f_int 1 rfl rfl ?_
  refine f_add rfl ?_
  obtain ⟨z4_19, e_z4_19⟩ : ∃ q : Int, q = (wr ((wr (24 * z2_9)) + 1)) := ⟨_, rfl⟩
  have r_z4_19 : rg z4_19 := by rw [e_z4_19]; exact (wr_rg _)
  replace H := H z4_19 e_z4_19
  refine f_nm e_z4_19 ?_
  refine w_st (ls2 := [some (.ref 284), some (iv x1), some (iv z2_9), some (iv (-2)), some (iv z4_19)]) (fun _ => rfl) ?_
  obtain ⟨I_21, mu_21, H0_21, HB_21⟩ := H
  have lp_21 : ∀ (z : Nat) (x3_21 x4_21 : Int) , mu_21 x3_21 x4_21 < z → rg x3_21 → rg x4_21 → I_21 x3_21 x4_21 → mm_W d mc_255 21 [some (.ref 284), some (iv x1), some (iv z2_9), some (iv x3_21), some (iv x4_21)] [] (fm m) (XK Q) := by
    intro z
    induction z with
    | zero => intro x3_21 x4_21 hz; exact absurd hz (Nat.not_lt_zero _)
    | succ z ih_21 =>
      intro x3_21 x4_21 hz_21 r_x3_21 r_x4_21 hI
      have H := HB_21 x3_21 x4_21 r_x3_21 r_x4_21 hI
      refine w_st (fun _ => rfl) ?_
      refine f_int 24 rfl rfl ?_
      refine w_st (fun _ => rfl) ?_
      refine f_mul rfl ?_
      refine f_int 24 rfl rfl ?_
      refine f_add rfl ?_
      refine b_ge rfl r_x4_21 (wr_rg _) (fun hq => ?_) (fun hq => ?_)
      · replace H := H.1 hq
        refine w_st (fun _ => rfl) ?_
        exact f_iret rfl r_x3_21 H
      · replace H := H.2 hq
        refine w_st (fun _ => rfl) ?_
        refine g_284_63 rfl ?_
        refine w_st (fun _ => rfl) ?_
        refine f_ld ir_326 rfl H.1 ?_
        replace H := H.2
        obtain ⟨R_66, H, HJ_66⟩ := H
        have tl_66 : ∀ (y3_66 : Int) , rg y3_66 → R_66 y3_66 → mm_W d mc_255 66 [some (.ref 284), some (iv x1), some (iv z2_9), some (iv y3_66), some (iv x4_21)] [] (fm m) (XK Q) := by
          intro y3_66 r_y3_66 hR
          have H := HJ_66 y3_66 r_y3_66 hR
          obtain ⟨z4_66, e_z4_66⟩ : ∃ q : Int, q = wr (x4_21 + 1) := ⟨_, rfl⟩
          have r_z4_66 : rg z4_66 := by rw [e_z4_66]; exact wr_rg _
          replace H := H z4_66 e_z4_66
          refine f_iinc (ls2 := [some (.ref 284), some (iv x1), some (iv z2_9), some (iv y3_66), some (iv z4_66)]) 1 rfl rfl rfl e_z4_66 rfl ?_
          refine w_st (fun _ => rfl) ?_
          exact ih_21 y3_66 z4_66 (Nat.lt_of_lt_of_le H.2 (Nat.le_of_lt_succ hz_21)) r_y3_66 r_z4_66 H.1
        refine z_lt rfl (rd_rg _ _ _) (fun hq => ?_) (fun hq => ?_)
        · replace H := H.1 hq
          exact tl_66 x3_21 r_x3_21 H
        · replace H := H.2 hq
          refine w_st (fun _ => rfl) ?_
          obtain ⟨R_58, H, HJ_58⟩ := H
          have tl_58 : R_58 → mm_W d mc_255 58 [some (.ref 284), some (iv x1), some (iv z2_9), some (iv x3_21), some (iv x4_21)] [] (fm m) (XK Q) := by
            intro   hR
            have H := HJ_58   hR
            refine w_st (fun _ => rfl) ?_
            refine g_284_63 rfl ?_
            refine w_st (fun _ => rfl) ?_
            refine f_ld ir_326 rfl H.1 ?_
            replace H := H.2
            obtain ⟨z3_65, e_z3_65⟩ : ∃ q : Int, q = (rd m 326 (Int.toNat x4_21)) := ⟨_, rfl⟩
            have r_z3_65 : rg z3_65 := by rw [e_z3_65]; exact (rd_rg _ _ _)
            replace H := H z3_65 e_z3_65
            refine f_nm e_z3_65 ?_
            refine w_st (ls2 := [some (.ref 284), some (iv x1), some (iv z2_9), some (iv z3_65), some (iv x4_21)]) (fun _ => rfl) ?_
            exact tl_66 z3_65 r_z3_65 H
          refine z_lt rfl r_x3_21 (fun hq => ?_) (fun hq => ?_)
          · replace H := H.1 hq
            exact tl_58   H
          · replace H := H.2 hq
            refine w_st (fun _ => rfl) ?_
            refine g_284_63 rfl ?_
            refine w_st (fun _ => rfl) ?_
            refine f_ld ir_326 rfl H.1 ?_
            replace H := H.2
            refine w_st (fun _ => rfl) ?_
            refine b_ge rfl (rd_rg _ _ _) r_x3_21 (fun hq => ?_) (fun hq => ?_)
            · replace H := H.1 hq
              exact tl_66 x3_21 r_x3_21 H
            · replace H := H.2 hq
              exact tl_58   H
  exact lp_21 _ (-2) z4_19 (Nat.lt_succ_self _) (by unfold rg; decide) r_z4_19 H0_21
/-- TippedCratesModel.backAgain()I -/
def P_256 (d : Nat) (m : Mm)  (Q : Mm → Int → Prop) : Prop :=
  (∃ (I_5 : Int → Int → Prop) (mu_5 : Int → Int → Nat), I_5 (-2) 0 ∧
    ∀ (x1_5 x2_5 : Int) , rg x1_5 → rg x2_5 → I_5 x1_5 x2_5 →
    (((wr (4 * (rd m 284 67))) ≤ x2_5 → Q m x1_5) ∧
        (¬ (wr (4 * (rd m 284 67))) ≤ x2_5 → (((0 : Int) ≤ (dvI x2_5 4) ∧ (dvI x2_5 4) < 600) ∧ (∀ z3_23 : Int, z3_23 = (rd m 329 (Int.toNat (dvI x2_5 4))) → (((0 : Int) ≤ (wr ((wr (4 * z3_23)) + (rmI x2_5 4))) ∧ (wr ((wr (4 * z3_23)) + (rmI x2_5 4))) < 2400) ∧ (∃ R_70 : Int → Prop,
          ((¬ (rd m 325 (Int.toNat (wr ((wr (4 * z3_23)) + (rmI x2_5 4))))) = (rd m 329 0) → R_70 x1_5) ∧
          ((rd m 325 (Int.toNat (wr ((wr (4 * z3_23)) + (rmI x2_5 4))))) = (rd m 329 0) → (∃ R_61 : Prop,
            ((x1_5 < 0 → R_61) ∧
            (¬ x1_5 < 0 → (((0 : Int) ≤ z3_23 ∧ z3_23 < 600) ∧ ((x1_5 ≤ (wr ((rd m 326 (Int.toNat z3_23)) + 1)) → R_70 x1_5) ∧
              (¬ x1_5 ≤ (wr ((rd m 326 (Int.toNat z3_23)) + 1)) → R_61))))) ∧
            (R_61 →
            (((0 : Int) ≤ z3_23 ∧ z3_23 < 600) ∧ (∀ z1_69 : Int, z1_69 = (wr ((rd m 326 (Int.toNat z3_23)) + 1)) → R_70 z1_69)))))) ∧
          (∀ (y1_70 : Int) , rg y1_70 → R_70 y1_70 →
          (∀ z2_70 : Int, z2_70 = wr (x2_5 + 1) → (I_5 y1_70 z2_70 ∧ mu_5 y1_70 z2_70 < mu_5 x1_5 x2_5))))))))))
set_option maxRecDepth 20000 in
theorem br_256 {d : Nat} {m : Mm}  {Q : Mm → Int → Prop}  (H : P_256 d m  Q) : CK (d + 1) 256 [.ref 284] m Q := by
  unfold P_256 at H
  refine CK_of rfl ?_
  show mm_W d mc_256 0 [some (.ref 284), none, none, none] [] (fm m) (XK Q)
  refine f_int (-2) rfl rfl ?_
  refine w_st (ls2 := [some (.ref 284), some (iv (-2)), none, none]) (fun _ => rfl) ?_
  refine f_int 0 rfl rfl ?_
  refine w_st (ls2 := [some (.ref 284), some (iv (-2)), some (iv 0), none]) (fun _ => rfl) ?_
  obtain ⟨I_5, mu_5, H0_5, HB_5⟩ := H
  have lp_5 : ∀ (z : Nat) (x1_5 x2_5 : Int)  (g3_5 : Option Value), mu_5 x1_5 x2_5 < z → rg x1_5 → rg x2_5 → I_5 x1_5 x2_5 → mm_W d mc_256 5 [some (.ref 284), some (iv x1_5), some (iv x2_5), g3_5] [] (fm m) (XK Q) := by
    intro z
    induction z with
    | zero => intro x1_5 x2_5 g3_5 hz; exact absurd hz (Nat.not_lt_zero _)
    | succ z ih_5 =>
      intro x1_5 x2_5 g3_5 hz_5 r_x1_5 r_x2_5 hI
      have H := HB_5 x1_5 x2_5 r_x1_5 r_x2_5 hI
      refine w_st (fun _ => rfl) ?_
      refine f_int 4 rfl rfl ?_
      refine w_st (fun _ => rfl) ?_
      refine g_284_67 rfl ?_
      refine f_mul rfl ?_
      refine b_ge rfl r_x2_5 (wr_rg _) (fun hq => ?_) (fun hq => ?_)
      · replace H := H.1 hq
        refine w_st (fun _ => rfl) ?_
        exact f_iret rfl r_x1_5 H
      · replace H := H.2 hq
        refine w_st (fun _ => rfl) ?_
        refine g_284_66 rfl ?_
        refine w_st (fun _ => rfl) ?_
        refine f_int 4 rfl rfl ?_
        refine f_dvI rfl (by unfold rg; decide) (by decide) ?_
        refine f_ld ir_329 rfl H.1 ?_
        replace H := H.2
        obtain ⟨z3_23, e_z3_23⟩ : ∃ q : Int, q = (rd m 329 (Int.toNat (dvI x2_5 4))) := ⟨_, rfl⟩
        have r_z3_23 : rg z3_23 := by rw [e_z3_23]; exact (rd_rg _ _ _)
        replace H := H z3_23 e_z3_23
        refine f_nm e_z3_23 ?_
        refine w_st (ls2 := [some (.ref 284), some (iv x1_5), some (iv x2_5), some (iv z3_23)]) (fun _ => rfl) ?_
        refine w_st (fun _ => rfl) ?_
        refine g_284_62 rfl ?_
        refine f_int 4 rfl rfl ?_
        refine w_st (fun _ => rfl) ?_
        refine f_mul rfl ?_
        refine w_st (fun _ => rfl) ?_
        refine f_int 4 rfl rfl ?_
        refine f_rmI rfl (by unfold rg; decide) (by decide) ?_
        refine f_add rfl ?_
        refine f_ld ir_325 rfl H.1 ?_
        replace H := H.2
        refine w_st (fun _ => rfl) ?_
        refine g_284_66 rfl ?_
        refine f_int 0 rfl rfl ?_
        refine f_ld ir_329 rfl ⟨by decide, by decide⟩ ?_
        obtain ⟨R_70, H, HJ_70⟩ := H
        have tl_70 : ∀ (y1_70 : Int) , rg y1_70 → R_70 y1_70 → mm_W d mc_256 70 [some (.ref 284), some (iv y1_70), some (iv x2_5), some (iv z3_23)] [] (fm m) (XK Q) := by
          intro y1_70 r_y1_70 hR
          have H := HJ_70 y1_70 r_y1_70 hR
          obtain ⟨z2_70, e_z2_70⟩ : ∃ q : Int, q = wr (x2_5 + 1) := ⟨_, rfl⟩
          have r_z2_70 : rg z2_70 := by rw [e_z2_70]; exact wr_rg _
          replace H := H z2_70 e_z2_70
          refine f_iinc (ls2 := [some (.ref 284), some (iv y1_70), some (iv z2_70), some (iv z3_23)]) 1 rfl rfl rfl e_z2_70 rfl ?_
          refine w_st (fun _ => rfl) ?_
          exact ih_5 y1_70 z2_70 (some (iv z3_23)) (Nat.lt_of_lt_of_le H.2 (Nat.le_of_lt_succ hz_5)) r_y1_70 r_z2_70 H.1
        refine b_ne rfl (rd_rg _ _ _) (rd_rg _ _ _) (fun hq => ?_) (fun hq => ?_)
        · replace H := H.1 hq
          exact tl_70 x1_5 r_x1_5 H
        · replace H := H.2 hq
          refine w_st (fun _ => rfl) ?_
          obtain ⟨R_61, H, HJ_61⟩ := H
          have tl_61 : R_61 → mm_W d mc_256 61 [some (.ref 284), some (iv x1_5), some (iv x2_5), some (iv z3_23)] [] (fm m) (XK Q) := by
            intro   hR
            have H := HJ_61   hR
            refine w_st (fun _ => rfl) ?_
            refine g_284_63 rfl ?_
            refine w_st (fun _ => rfl) ?_
            refine f_ld ir_326 rfl H.1 ?_
            replace H := H.2
            refine f_int 1 rfl rfl ?_
            refine f_add rfl ?_
            obtain ⟨z1_69, e_z1_69⟩ : ∃ q : Int, q = (wr ((rd m 326 (Int.toNat z3_23)) + 1)) := ⟨_, rfl⟩
            have r_z1_69 : rg z1_69 := by rw [e_z1_69]; exact (wr_rg _)
            replace H := H z1_69 e_z1_69
            refine f_nm e_z1_69 ?_
            refine w_st (ls2 := [some (.ref 284), some (iv z1_69), some (iv x2_5), some (iv z3_23)]) (fun _ => rfl) ?_
            exact tl_70 z1_69 r_z1_69 H
          refine z_lt rfl r_x1_5 (fun hq => ?_) (fun hq => ?_)
          · replace H := H.1 hq
            exact tl_61   H
          · replace H := H.2 hq
            refine w_st (fun _ => rfl) ?_
            refine g_284_63 rfl ?_
            refine w_st (fun _ => rfl) ?_
            refine f_ld ir_326 rfl H.1 ?_
            replace H := H.2
            refine f_int 1 rfl rfl ?_
            refine f_add rfl ?_
            refine w_st (fun _ => rfl) ?_
            refine b_ge rfl (wr_rg _) r_x1_5 (fun hq => ?_) (fun hq => ?_)
            · replace H := H.1 hq
              exact tl_70 x1_5 r_x1_5 H
            · replace H := H.2 hq
              exact tl_61   H
  exact lp_5 _ (-2) 0 none (Nat.lt_succ_self _) (by unfold rg; decide) (by unfold rg; decide) H0_5
/-- TippedCratesModel.round(II)I -/
def P_257 (d : Nat) (m : Mm) (x1 : Int) (x2 : Int) (Q : Mm → Int → Prop) : Prop :=
  CK d 210 [.ref 284, iv x1] m (fun m2 v2 =>
    (∃ R_17 : Mm → Prop,
    ((v2 = 0 → R_17 m2) ∧
    (¬ v2 = 0 → CK d 206 [iv x2, iv 0, iv 1] m2 (fun m11 v11 =>
      ((¬ v11 = 0 → CV d 249 [.ref 284, iv x1] m11 (fun m21 =>
        (∃ R_40 : Int → Mm → Prop,
        ((¬ x2 = 0 → CK d 255 [.ref 284, iv x1] m21 (fun m37 v37 =>
          R_40 v37 m37)) ∧
        (x2 = 0 → CK d 256 [.ref 284] m21 (fun m29 v29 =>
          R_40 v29 m29))) ∧
        (∀ (s0_40 : Int) (m_40 : Mm), rg s0_40 → R_40 s0_40 m_40 →
        Q m_40 s0_40)))) ∧
      (v11 = 0 → R_17 m11))))) ∧
    (∀ (m_17 : Mm), R_17 m_17 →
    Q m_17 (-1))))
set_option maxRecDepth 20000 in
theorem br_257 {d : Nat} {m : Mm} {x1 : Int} {x2 : Int} {Q : Mm → Int → Prop} (r_x1 : rg x1) (r_x2 : rg x2) (H : P_257 d m x1 x2 Q) : CK (d + 1) 257 [.ref 284, iv x1, iv x2] m Q := by
  unfold P_257 at H
  refine CK_of rfl ?_
  show mm_W d mc_257 0 [some (.ref 284), some (iv x1), some (iv x2)] [] (fm m) (XK Q)
  refine w_st (fun _ => rfl) ?_
  refine w_st (fun _ => rfl) ?_
  refine k_VK (as := [iv x1]) rfl mg_257 rfl rfl (by decide) rfl rfl H (fun m2 v2 r_v2 H => ?_)
  obtain ⟨R_17, H, HJ_17⟩ := H
  have tl_17 : ∀ (m_17 : Mm), R_17 m_17 → mm_W d mc_257 17 [some (.ref 284), some (iv x1), some (iv x2)] [] (fm m_17) (XK Q) := by
    intro m_17  hR
    have H := HJ_17 m_17  hR
    refine f_int (-1) rfl rfl ?_
    exact f_iret rfl (by unfold rg; decide) H
  refine z_eq rfl r_v2 (fun hq => ?_) (fun hq => ?_)
  · replace H := H.1 hq
    exact tl_17 m2  H
  · replace H := H.2 hq
    refine w_st (fun _ => rfl) ?_
    refine f_int 0 rfl rfl ?_
    refine f_int 1 rfl rfl ?_
    refine k_SK (as := [iv x2, iv 0, iv 1]) rfl mg_257 rfl rfl rfl H (fun m11 v11 r_v11 H => ?_)
    refine z_ne rfl r_v11 (fun hq => ?_) (fun hq => ?_)
    · replace H := H.1 hq
      refine w_st (fun _ => rfl) ?_
      refine w_st (fun _ => rfl) ?_
      refine k_VV (as := [iv x1]) rfl mg_257 rfl rfl (by decide) rfl rfl H (fun m21 H => ?_)
      refine w_st (fun _ => rfl) ?_
      obtain ⟨R_40, H, HJ_40⟩ := H
      have tl_40 : ∀ (s0_40 : Int) (m_40 : Mm), rg s0_40 → R_40 s0_40 m_40 → mm_W d mc_257 40 [some (.ref 284), some (iv x1), some (iv x2)] [iv s0_40] (fm m_40) (XK Q) := by
        intro s0_40 m_40 r_s0_40 hR
        have H := HJ_40 s0_40 m_40 r_s0_40 hR
        exact f_iret rfl r_s0_40 H
      refine z_ne rfl r_x2 (fun hq => ?_) (fun hq => ?_)
      · replace H := H.1 hq
        refine w_st (fun _ => rfl) ?_
        refine w_st (fun _ => rfl) ?_
        refine k_VK (as := [iv x1]) rfl mg_257 rfl rfl (by decide) rfl rfl H (fun m37 v37 r_v37 H => ?_)
        exact tl_40 v37 m37 r_v37 H
      · replace H := H.2 hq
        refine w_st (fun _ => rfl) ?_
        refine k_VK (as := []) rfl mg_257 rfl rfl (by decide) rfl rfl H (fun m29 v29 r_v29 H => ?_)
        refine w_st (fun _ => rfl) ?_
        exact tl_40 v29 m29 r_v29 H
    · replace H := H.2 hq
      exact tl_17 m11  H
/-- TippedCratesModel.keepsMore()V -/
def P_258 (d : Nat) (m : Mm)  (Q : Mm → Prop) : Prop :=
  (∃ (I_2 : Int → Mm → Prop) (mu_2 : Int → Mm → Nat), I_2 0 m ∧
    ∀ (x1_2 : Int) (m_2 : Mm), rg x1_2 → I_2 x1_2 m_2 →
    CK d 247 [.ref 284] m_2 (fun m4 v4 =>
        ((v4 ≤ x1_2 → Q m4) ∧
        (¬ v4 ≤ x1_2 → (((0 : Int) ≤ x1_2 ∧ x1_2 < 600) ∧ (((0 : Int) ≤ x1_2 ∧ x1_2 < 600) ∧ (∀ m21 : Mm, m21 = wt m4 332 (Int.toNat x1_2) (rd m4 333 (Int.toNat x1_2)) → (∀ z1_22 : Int, z1_22 = wr (x1_2 + 1) → (I_2 z1_22 m21 ∧ mu_2 z1_22 m21 < mu_2 x1_2 m_2)))))))))
set_option maxRecDepth 20000 in
theorem br_258 {d : Nat} {m : Mm}  {Q : Mm → Prop}  (H : P_258 d m  Q) : CV (d + 1) 258 [.ref 284] m Q := by
  unfold P_258 at H
  refine CV_of rfl ?_
  show mm_W d mc_258 0 [some (.ref 284), none] [] (fm m) (XV Q)
  refine f_int 0 rfl rfl ?_
  refine w_st (ls2 := [some (.ref 284), some (iv 0)]) (fun _ => rfl) ?_
  obtain ⟨I_2, mu_2, H0_2, HB_2⟩ := H
  have lp_2 : ∀ (z : Nat) (x1_2 : Int) (m_2 : Mm), mu_2 x1_2 m_2 < z → rg x1_2 → I_2 x1_2 m_2 → mm_W d mc_258 2 [some (.ref 284), some (iv x1_2)] [] (fm m_2) (XV Q) := by
    intro z
    induction z with
    | zero => intro x1_2 m_2 hz; exact absurd hz (Nat.not_lt_zero _)
    | succ z ih_2 =>
      intro x1_2 m_2 hz_2 r_x1_2 hI
      have H := HB_2 x1_2 m_2 r_x1_2 hI
      refine w_st (fun _ => rfl) ?_
      refine w_st (fun _ => rfl) ?_
      refine k_VK (as := []) rfl mg_258 rfl rfl (by decide) rfl rfl H (fun m4 v4 r_v4 H => ?_)
      refine b_ge rfl r_x1_2 r_v4 (fun hq => ?_) (fun hq => ?_)
      · replace H := H.1 hq
        exact f_ret rfl H
      · replace H := H.2 hq
        refine w_st (fun _ => rfl) ?_
        refine g_284_70 rfl ?_
        refine w_st (fun _ => rfl) ?_
        refine w_st (fun _ => rfl) ?_
        refine g_284_71 rfl ?_
        refine w_st (fun _ => rfl) ?_
        refine f_ld ir_333 rfl H.1 ?_
        replace H := H.2
        obtain ⟨m21, e_m21⟩ : ∃ q : Mm, q = wt m4 332 (Int.toNat x1_2) (rd m4 333 (Int.toNat x1_2)) := ⟨_, rfl⟩
        refine f_st ir_332 rfl H.1 e_m21 ?_
        replace H := H.2 m21 e_m21
        obtain ⟨z1_22, e_z1_22⟩ : ∃ q : Int, q = wr (x1_2 + 1) := ⟨_, rfl⟩
        have r_z1_22 : rg z1_22 := by rw [e_z1_22]; exact wr_rg _
        replace H := H z1_22 e_z1_22
        refine f_iinc (ls2 := [some (.ref 284), some (iv z1_22)]) 1 rfl rfl rfl e_z1_22 rfl ?_
        refine w_st (fun _ => rfl) ?_
        exact ih_2 z1_22 m21 (Nat.lt_of_lt_of_le H.2 (Nat.le_of_lt_succ hz_2)) r_z1_22 H.1
  exact lp_2 _ 0 m (Nat.lt_succ_self _) (by unfold rg; decide) H0_2
/-- TippedCratesModel.richWith(III)I -/
def P_259 (d : Nat) (m : Mm) (x1 : Int) (x2 : Int) (x3 : Int) (Q : Mm → Int → Prop) : Prop :=
  (((0 : Int) ≤ (wr ((wr (4 * x2)) + x3)) ∧ (wr ((wr (4 * x2)) + x3)) < 2400) ∧ (∀ z4_10 : Int, z4_10 = (rd m 325 (Int.toNat (wr ((wr (4 * x2)) + x3)))) → (∃ R_47 : Int → Mm → Prop,
    (∃ R_27 : Prop,
    ((z4_10 < 0 → R_27) ∧
    (¬ z4_10 < 0 → (((0 : Int) ≤ z4_10 ∧ z4_10 < 600) ∧ ((0 ≤ (rd m 332 (Int.toNat z4_10)) → (((0 : Int) ≤ z4_10 ∧ z4_10 < 600) ∧ CK d 248 [.ref 284, iv x1, iv z4_10, iv 1] m (fun m43 v43 =>
        R_47 (wr ((rd m 332 (Int.toNat z4_10)) + v43)) m43))) ∧
      (¬ 0 ≤ (rd m 332 (Int.toNat z4_10)) → R_27))))) ∧
    (R_27 →
    R_47 (-1) m)) ∧
    (∀ (s0_47 : Int) (m_47 : Mm), rg s0_47 → R_47 s0_47 m_47 →
    Q m_47 s0_47))))
set_option maxRecDepth 20000 in
theorem br_259 {d : Nat} {m : Mm} {x1 : Int} {x2 : Int} {x3 : Int} {Q : Mm → Int → Prop} (r_x1 : rg x1) (r_x2 : rg x2) (r_x3 : rg x3) (H : P_259 d m x1 x2 x3 Q) : CK (d + 1) 259 [.ref 284, iv x1, iv x2, iv x3] m Q := by
  unfold P_259 at H
  refine CK_of rfl ?_
  show mm_W d mc_259 0 [some (.ref 284), some (iv x1), some (iv x2), some (iv x3), none] [] (fm m) (XK Q)
  refine w_st (fun _ => rfl) ?_
  refine g_284_62 rfl ?_
  refine f_int 4 rfl rfl ?_
  refine w_st (fun _ => rfl) ?_
  refine f_mul rfl ?_
  refine w_st (fun _ => rfl) ?_
  refine f_add rfl ?_
  refine f_ld ir_325 rfl H.1 ?_
  replace H := H.2
  obtain ⟨z4_10, e_z4_10⟩ : ∃ q : Int, q = (rd m 325 (Int.toNat (wr ((wr (4 * x2)) + x3)))) := ⟨_, rfl⟩
  have r_z4_10 : rg z4_10 := by rw [e_z4_10]; exact (rd_rg _ _ _)
  replace H := H z4_10 e_z4_10
  refine f_nm e_z4_10 ?_
  refine w_st (ls2 := [some (.ref 284), some (iv x1), some (iv x2), some (iv x3), some (iv z4_10)]) (fun _ => rfl) ?_
  refine w_st (fun _ => rfl) ?_
  obtain ⟨R_47, H, HJ_47⟩ := H
  have tl_47 : ∀ (s0_47 : Int) (m_47 : Mm), rg s0_47 → R_47 s0_47 m_47 → mm_W d mc_259 47 [some (.ref 284), some (iv x1), some (iv x2), some (iv x3), some (iv z4_10)] [iv s0_47] (fm m_47) (XK Q) := by
    intro s0_47 m_47 r_s0_47 hR
    have H := HJ_47 s0_47 m_47 r_s0_47 hR
    exact f_iret rfl r_s0_47 H
  obtain ⟨R_27, H, HJ_27⟩ := H
  have tl_27 : R_27 → mm_W d mc_259 27 [some (.ref 284), some (iv x1), some (iv x2), some (iv x3), some (iv z4_10)] [] (fm m) (XK Q) := by
    intro   hR
    have H := HJ_27   hR
    refine f_int (-1) rfl rfl ?_
    refine w_st (fun _ => rfl) ?_
    exact tl_47 (-1) m (by unfold rg; decide) H
  refine z_lt rfl r_z4_10 (fun hq => ?_) (fun hq => ?_)
  · replace H := H.1 hq
    exact tl_27   H
  · replace H := H.2 hq
    refine w_st (fun _ => rfl) ?_
    refine g_284_70 rfl ?_
    refine w_st (fun _ => rfl) ?_
    refine f_ld ir_332 rfl H.1 ?_
    replace H := H.2
    refine z_ge rfl (rd_rg _ _ _) (fun hq => ?_) (fun hq => ?_)
    · replace H := H.1 hq
      refine w_st (fun _ => rfl) ?_
      refine g_284_70 rfl ?_
      refine w_st (fun _ => rfl) ?_
      refine f_ld ir_332 rfl H.1 ?_
      replace H := H.2
      refine w_st (fun _ => rfl) ?_
      refine w_st (fun _ => rfl) ?_
      refine w_st (fun _ => rfl) ?_
      refine f_int 1 rfl rfl ?_
      refine k_VK (as := [iv x1, iv z4_10, iv 1]) rfl mg_259 rfl rfl (by decide) rfl rfl H (fun m43 v43 r_v43 H => ?_)
      refine f_add rfl ?_
      exact tl_47 (wr ((rd m 332 (Int.toNat z4_10)) + v43)) m43 (wr_rg _) H
    · replace H := H.2 hq
      exact tl_27   H
/-- TippedCratesModel.richWay(II)I -/
def P_260 (d : Nat) (m : Mm) (x1 : Int) (x2 : Int) (Q : Mm → Int → Prop) : Prop :=
  (∃ (I_9 : Int → Int → Int → Mm → Prop) (mu_9 : Int → Int → Int → Mm → Nat), I_9 (-2) (-1) 0 m ∧
    ∀ (x3_9 x4_9 x5_9 : Int) (m_9 : Mm), rg x3_9 → rg x4_9 → rg x5_9 → I_9 x3_9 x4_9 x5_9 m_9 →
    ((4 ≤ x5_9 → Q m_9 x3_9) ∧
        (¬ 4 ≤ x5_9 → CK d 259 [.ref 284, iv x1, iv x2, iv x5_9] m_9 (fun m20 v20 =>
          (∃ R_44 : Int → Int → Mm → Prop,
          ((x4_9 < v20 → CK d 259 [.ref 284, iv x1, iv x2, iv x5_9] m20 (fun m39 v39 =>
            R_44 x5_9 v39 m39)) ∧
          (¬ x4_9 < v20 → R_44 x3_9 x4_9 m20)) ∧
          (∀ (y3_44 y4_44 : Int) (m_44 : Mm), rg y3_44 → rg y4_44 → R_44 y3_44 y4_44 m_44 →
          (∀ z5_44 : Int, z5_44 = wr (x5_9 + 1) → (I_9 y3_44 y4_44 z5_44 m_44 ∧ mu_9 y3_44 y4_44 z5_44 m_44 < mu_9 x3_9 x4_9 x5_9 m_9))))))))
set_option maxRecDepth 20000 in
theorem br_260 {d : Nat} {m : Mm} {x1 : Int} {x2 : Int} {Q : Mm → Int → Prop} (r_x1 : rg x1) (r_x2 : rg x2) (H : P_260 d m x1 x2 Q) : CK (d + 1) 260 [.ref 284, iv x1, iv x2] m Q := by
  unfold P_260 at H
  refine CK_of rfl ?_
  show mm_W d mc_260 0 [some (.ref 284), some (iv x1), some (iv x2), none, none, none] [] (fm m) (XK Q)
  refine f_int (-2) rfl rfl ?_
  refine w_st (ls2 := [some (.ref 284), some (iv x1), some (iv x2), some (iv (-2)), none, none]) (fun _ => rfl) ?_
  refine f_int (-1) rfl rfl ?_
  refine w_st (ls2 := [some (.ref 284), some (iv x1), some (iv x2), some (iv (-2)), some (iv (-1)), none]) (fun _ => rfl) ?_
  refine f_int 0 rfl rfl ?_
  refine w_st (ls2 := [some (.ref 284), some (iv x1), some (iv x2), some (iv (-2)), some (iv (-1)), some (iv 0)]) (fun _ => rfl) ?_
  obtain ⟨I_9, mu_9, H0_9, HB_9⟩ := H
  have lp_9 : ∀ (z : Nat) (x3_9 x4_9 x5_9 : Int) (m_9 : Mm), mu_9 x3_9 x4_9 x5_9 m_9 < z → rg x3_9 → rg x4_9 → rg x5_9 → I_9 x3_9 x4_9 x5_9 m_9 → mm_W d mc_260 9 [some (.ref 284), some (iv x1), some (iv x2), some (iv x3_9), some (iv x4_9), some (iv x5_9)] [] (fm m_9) (XK Q) := by
    intro z
    induction z with
    | zero => intro x3_9 x4_9 x5_9 m_9 hz; exact absurd hz (Nat.not_lt_zero _)
    | succ z ih_9 =>
      intro x3_9 x4_9 x5_9 m_9 hz_9 r_x3_9 r_x4_9 r_x5_9 hI
      have H := HB_9 x3_9 x4_9 x5_9 m_9 r_x3_9 r_x4_9 r_x5_9 hI
      refine w_st (fun _ => rfl) ?_
      refine f_int 4 rfl rfl ?_
      refine b_ge rfl r_x5_9 (by unfold rg; decide) (fun hq => ?_) (fun hq => ?_)
      · replace H := H.1 hq
        refine w_st (fun _ => rfl) ?_
        exact f_iret rfl r_x3_9 H
      · replace H := H.2 hq
        refine w_st (fun _ => rfl) ?_
        refine w_st (fun _ => rfl) ?_
        refine w_st (fun _ => rfl) ?_
        refine w_st (fun _ => rfl) ?_
        refine k_VK (as := [iv x1, iv x2, iv x5_9]) rfl mg_260 rfl rfl (by decide) rfl rfl H (fun m20 v20 r_v20 H => ?_)
        refine w_st (fun _ => rfl) ?_
        obtain ⟨R_44, H, HJ_44⟩ := H
        have tl_44 : ∀ (y3_44 y4_44 : Int) (m_44 : Mm), rg y3_44 → rg y4_44 → R_44 y3_44 y4_44 m_44 → mm_W d mc_260 44 [some (.ref 284), some (iv x1), some (iv x2), some (iv y3_44), some (iv y4_44), some (iv x5_9)] [] (fm m_44) (XK Q) := by
          intro y3_44 y4_44 m_44 r_y3_44 r_y4_44 hR
          have H := HJ_44 y3_44 y4_44 m_44 r_y3_44 r_y4_44 hR
          obtain ⟨z5_44, e_z5_44⟩ : ∃ q : Int, q = wr (x5_9 + 1) := ⟨_, rfl⟩
          have r_z5_44 : rg z5_44 := by rw [e_z5_44]; exact wr_rg _
          replace H := H z5_44 e_z5_44
          refine f_iinc (ls2 := [some (.ref 284), some (iv x1), some (iv x2), some (iv y3_44), some (iv y4_44), some (iv z5_44)]) 1 rfl rfl rfl e_z5_44 rfl ?_
          refine w_st (fun _ => rfl) ?_
          exact ih_9 y3_44 y4_44 z5_44 m_44 (Nat.lt_of_lt_of_le H.2 (Nat.le_of_lt_succ hz_9)) r_y3_44 r_y4_44 r_z5_44 H.1
        refine b_gt rfl r_v20 r_x4_9 (fun hq => ?_) (fun hq => ?_)
        · replace H := H.1 hq
          refine w_st (fun _ => rfl) ?_
          refine w_st (ls2 := [some (.ref 284), some (iv x1), some (iv x2), some (iv x5_9), some (iv x4_9), some (iv x5_9)]) (fun _ => rfl) ?_
          refine w_st (fun _ => rfl) ?_
          refine w_st (fun _ => rfl) ?_
          refine w_st (fun _ => rfl) ?_
          refine w_st (fun _ => rfl) ?_
          refine k_VK (as := [iv x1, iv x2, iv x5_9]) rfl mg_260 rfl rfl (by decide) rfl rfl H (fun m39 v39 r_v39 H => ?_)
          refine w_st (ls2 := [some (.ref 284), some (iv x1), some (iv x2), some (iv x5_9), some (iv v39), some (iv x5_9)]) (fun _ => rfl) ?_
          exact tl_44 x5_9 v39 m39 r_x5_9 r_v39 H
        · replace H := H.2 hq
          refine w_st (fun _ => rfl) ?_
          exact tl_44 x3_9 x4_9 m20 r_x3_9 r_x4_9 H
  exact lp_9 _ (-2) (-1) 0 m (Nat.lt_succ_self _) (by unfold rg; decide) (by unfold rg; decide) (by unfold rg; decide) H0_9
/-- TippedCratesModel.richest(III)I -/
def P_261 (d : Nat) (m : Mm) (x1 : Int) (x2 : Int) (x3 : Int) (Q : Mm → Int → Prop) : Prop :=
  CK d 210 [.ref 284, iv x1] m (fun m2 v2 =>
    (∃ R_27 : Mm → Prop,
    ((v2 = 0 → R_27 m2) ∧
    (¬ v2 = 0 → CK d 206 [iv x2, iv 0, iv 40] m2 (fun m12 v12 =>
      ((v12 = 0 → R_27 m12) ∧
      (¬ v12 = 0 → CK d 206 [iv x3, iv 0, iv 1] m12 (fun m21 v21 =>
        ((¬ v21 = 0 → CV d 246 [.ref 284, iv x1] m21 (fun m31 =>
          ((¬ x2 = 0 → (∃ (I_52 : Int → Mm → Prop) (mu_52 : Int → Mm → Nat), I_52 0 m31 ∧
            ∀ (x4_52 : Int) (m_52 : Mm), rg x4_52 → I_52 x4_52 m_52 →
            ((600 ≤ x4_52 → (∃ (I_77 : Int → Mm → Prop) (mu_77 : Int → Mm → Nat), I_77 1 m_52 ∧
                  ∀ (x4_77 : Int) (m_77 : Mm), rg x4_77 → I_77 x4_77 m_77 →
                  ((x2 ≤ x4_77 → (((0 : Int) ≤ (wr (43 + x1)) ∧ (wr (43 + x1)) < 51) ∧ (∀ z4_158 : Int, z4_158 = (wr (24 * (rd m_77 323 (Int.toNat (wr (43 + x1)))))) → CK d 260 [.ref 284, iv x1, iv z4_158] m_77 (fun m164 v164 =>
                        (∃ R_193 : Int → Mm → Prop,
                        (∃ R_179 : Prop,
                        ((v164 < 0 → R_179) ∧
                        (¬ v164 < 0 → ((¬ x3 = 1 → CK d 259 [.ref 284, iv x1, iv z4_158, iv v164] m164 (fun m190 v190 =>
                            R_193 v190 m190)) ∧
                          (x3 = 1 → R_179)))) ∧
                        (R_179 →
                        R_193 v164 m164)) ∧
                        (∀ (s0_193 : Int) (m_193 : Mm), rg s0_193 → R_193 s0_193 m_193 →
                        Q m_193 s0_193)))))) ∧
                      (¬ x2 ≤ x4_77 → (∃ (I_86 : Int → Mm → Prop) (mu_86 : Int → Mm → Nat), I_86 0 m_77 ∧
                        ∀ (x5_86 : Int) (m_86 : Mm), rg x5_86 → I_86 x5_86 m_86 →
                        CK d 247 [.ref 284] m_86 (fun m89 v89 =>
                            ((v89 ≤ x5_86 → CV d 258 [.ref 284] m89 (fun m137 =>
                              (∀ z4_140 : Int, z4_140 = wr (x4_77 + 1) → (I_77 z4_140 m137 ∧ mu_77 z4_140 m137 < mu_77 x4_77 m_77)))) ∧
                            (¬ v89 ≤ x5_86 → CK d 260 [.ref 284, iv x1, iv x5_86] m89 (fun m105 v105 =>
                              (∃ R_129 : Int → Mm → Prop,
                              ((0 ≤ v105 → CK d 260 [.ref 284, iv x1, iv x5_86] m105 (fun m123 v123 =>
                                CK d 259 [.ref 284, iv x1, iv x5_86, iv v123] m123 (fun m126 v126 =>
                                R_129 v126 m126))) ∧
                              (¬ 0 ≤ v105 → R_129 (-1) m105)) ∧
                              (∀ (s2_129 : Int) (m_129 : Mm), rg s2_129 → R_129 s2_129 m_129 →
                              (((0 : Int) ≤ x5_86 ∧ x5_86 < 600) ∧ (∀ m129 : Mm, m129 = wt m_129 333 (Int.toNat x5_86) s2_129 → (∀ z5_130 : Int, z5_130 = wr (x5_86 + 1) → (I_86 z5_130 m129 ∧ mu_86 z5_130 m129 < mu_86 x5_86 m_86))))))))))))))) ∧
                (¬ 600 ≤ x4_52 → (((0 : Int) ≤ x4_52 ∧ x4_52 < 600) ∧ (∀ m67 : Mm, m67 = wt m_52 332 (Int.toNat x4_52) 0 → (∀ z4_68 : Int, z4_68 = wr (x4_52 + 1) → (I_52 z4_68 m67 ∧ mu_52 z4_68 m67 < mu_52 x4_52 m_52)))))))) ∧
          (x2 = 0 → (∃ R_48 : Int → Prop,
            ((¬ x3 = 0 → R_48 (-2)) ∧
            (x3 = 0 → R_48 0)) ∧
            (∀ (s0_48 : Int) , rg s0_48 → R_48 s0_48 →
            Q m31 s0_48)))))) ∧
        (v21 = 0 → R_27 m21)))))))) ∧
    (∀ (m_27 : Mm), R_27 m_27 →
    Q m_27 (-1))))
set_option maxRecDepth 20000 in
theorem br_261 {d : Nat} {m : Mm} {x1 : Int} {x2 : Int} {x3 : Int} {Q : Mm → Int → Prop} (r_x1 : rg x1) (r_x2 : rg x2) (r_x3 : rg x3) (H : P_261 d m x1 x2 x3 Q) : CK (d + 1) 261 [.ref 284, iv x1, iv x2, iv x3] m Q := by
  unfold P_261 at H
  refine CK_of rfl ?_
  show mm_W d mc_261 0 [some (.ref 284), some (iv x1), some (iv x2), some (iv x3), none, none] [] (fm m) (XK Q)
  refine w_st (fun _ => rfl) ?_
  refine w_st (fun _ => rfl) ?_
  refine k_VK (as := [iv x1]) rfl mg_261 rfl rfl (by decide) rfl rfl H (fun m2 v2 r_v2 H => ?_)
  obtain ⟨R_27, H, HJ_27⟩ := H
  have tl_27 : ∀ (m_27 : Mm), R_27 m_27 → mm_W d mc_261 27 [some (.ref 284), some (iv x1), some (iv x2), some (iv x3), none, none] [] (fm m_27) (XK Q) := by
    intro m_27  hR
    have H := HJ_27 m_27  hR
    refine f_int (-1) rfl rfl ?_
    exact f_iret rfl (by unfold rg; decide) H
  refine z_eq rfl r_v2 (fun hq => ?_) (fun hq => ?_)
  · replace H := H.1 hq
    exact tl_27 m2  H
  · replace H := H.2 hq
    refine w_st (fun _ => rfl) ?_
    refine f_int 0 rfl rfl ?_
    refine f_int 40 rfl rfl ?_
    refine k_SK (as := [iv x2, iv 0, iv 40]) rfl mg_261 rfl rfl rfl H (fun m12 v12 r_v12 H => ?_)
    refine z_eq rfl r_v12 (fun hq => ?_) (fun hq => ?_)
    · replace H := H.1 hq
      exact tl_27 m12  H
    · replace H := H.2 hq
      refine w_st (fun _ => rfl) ?_
      refine f_int 0 rfl rfl ?_
      refine f_int 1 rfl rfl ?_
      refine k_SK (as := [iv x3, iv 0, iv 1]) rfl mg_261 rfl rfl rfl H (fun m21 v21 r_v21 H => ?_)
      refine z_ne rfl r_v21 (fun hq => ?_) (fun hq => ?_)
      · replace H := H.1 hq
        refine w_st (fun _ => rfl) ?_
        refine w_st (fun _ => rfl) ?_
        refine k_VV (as := [iv x1]) rfl mg_261 rfl rfl (by decide) rfl rfl H (fun m31 H => ?_)
        refine w_st (fun _ => rfl) ?_
        refine z_ne rfl r_x2 (fun hq => ?_) (fun hq => ?_)
        · replace H := H.1 hq
          refine f_int 0 rfl rfl ?_
          refine w_st (ls2 := [some (.ref 284), some (iv x1), some (iv x2), some (iv x3), some (iv 0), none]) (fun _ => rfl) ?_
          obtain ⟨I_52, mu_52, H0_52, HB_52⟩ := H
          have lp_52 : ∀ (z : Nat) (x4_52 : Int) (m_52 : Mm), mu_52 x4_52 m_52 < z → rg x4_52 → I_52 x4_52 m_52 → mm_W d mc_261 52 [some (.ref 284), some (iv x1), some (iv x2), some (iv x3), some (iv x4_52), none] [] (fm m_52) (XK Q) := by
            intro z
            induction z with
            | zero => intro x4_52 m_52 hz; exact absurd hz (Nat.not_lt_zero _)
            | succ z ih_52 =>
              intro x4_52 m_52 hz_52 r_x4_52 hI
              have H := HB_52 x4_52 m_52 r_x4_52 hI
              refine w_st (fun _ => rfl) ?_
              refine f_int 600 rfl rfl ?_
              refine b_ge rfl r_x4_52 (by unfold rg; decide) (fun hq => ?_) (fun hq => ?_)
              · replace H := H.1 hq
                refine f_int 1 rfl rfl ?_
                refine w_st (ls2 := [some (.ref 284), some (iv x1), some (iv x2), some (iv x3), some (iv 1), none]) (fun _ => rfl) ?_
                obtain ⟨I_77, mu_77, H0_77, HB_77⟩ := H
                have lp_77 : ∀ (z : Nat) (x4_77 : Int) (m_77 : Mm) (g5_77 : Option Value), mu_77 x4_77 m_77 < z → rg x4_77 → I_77 x4_77 m_77 → mm_W d mc_261 77 [some (.ref 284), some (iv x1), some (iv x2), some (iv x3), some (iv x4_77), g5_77] [] (fm m_77) (XK Q) := by
                  intro z
                  induction z with
                  | zero => intro x4_77 m_77 g5_77 hz; exact absurd hz (Nat.not_lt_zero _)
                  | succ z ih_77 =>
                    intro x4_77 m_77 g5_77 hz_77 r_x4_77 hI
                    have H := HB_77 x4_77 m_77 r_x4_77 hI
                    refine w_st (fun _ => rfl) ?_
                    refine w_st (fun _ => rfl) ?_
                    refine b_ge rfl r_x4_77 r_x2 (fun hq => ?_) (fun hq => ?_)
                    · replace H := H.1 hq
                      refine f_int 24 rfl rfl ?_
                      refine w_st (fun _ => rfl) ?_
                      refine g_284_57 rfl ?_
                      refine f_int 43 rfl rfl ?_
                      refine w_st (fun _ => rfl) ?_
                      refine f_add rfl ?_
                      refine f_ld ir_323 rfl H.1 ?_
                      replace H := H.2
                      refine f_mul rfl ?_
                      obtain ⟨z4_158, e_z4_158⟩ : ∃ q : Int, q = (wr (24 * (rd m_77 323 (Int.toNat (wr (43 + x1)))))) := ⟨_, rfl⟩
                      have r_z4_158 : rg z4_158 := by rw [e_z4_158]; exact (wr_rg _)
                      replace H := H z4_158 e_z4_158
                      refine f_nm e_z4_158 ?_
                      refine w_st (ls2 := [some (.ref 284), some (iv x1), some (iv x2), some (iv x3), some (iv z4_158), g5_77]) (fun _ => rfl) ?_
                      refine w_st (fun _ => rfl) ?_
                      refine w_st (fun _ => rfl) ?_
                      refine w_st (fun _ => rfl) ?_
                      refine k_VK (as := [iv x1, iv z4_158]) rfl mg_261 rfl rfl (by decide) rfl rfl H (fun m164 v164 r_v164 H => ?_)
                      refine w_st (ls2 := [some (.ref 284), some (iv x1), some (iv x2), some (iv x3), some (iv z4_158), some (iv v164)]) (fun _ => rfl) ?_
                      refine w_st (fun _ => rfl) ?_
                      obtain ⟨R_193, H, HJ_193⟩ := H
                      have tl_193 : ∀ (s0_193 : Int) (m_193 : Mm), rg s0_193 → R_193 s0_193 m_193 → mm_W d mc_261 193 [some (.ref 284), some (iv x1), some (iv x2), some (iv x3), some (iv z4_158), some (iv v164)] [iv s0_193] (fm m_193) (XK Q) := by
                        intro s0_193 m_193 r_s0_193 hR
                        have H := HJ_193 s0_193 m_193 r_s0_193 hR
                        exact f_iret rfl r_s0_193 H
                      obtain ⟨R_179, H, HJ_179⟩ := H
                      have tl_179 : R_179 → mm_W d mc_261 179 [some (.ref 284), some (iv x1), some (iv x2), some (iv x3), some (iv z4_158), some (iv v164)] [] (fm m164) (XK Q) := by
                        intro   hR
                        have H := HJ_179   hR
                        refine w_st (fun _ => rfl) ?_
                        refine w_st (fun _ => rfl) ?_
                        exact tl_193 v164 m164 r_v164 H
                      refine z_lt rfl r_v164 (fun hq => ?_) (fun hq => ?_)
                      · replace H := H.1 hq
                        exact tl_179   H
                      · replace H := H.2 hq
                        refine w_st (fun _ => rfl) ?_
                        refine f_int 1 rfl rfl ?_
                        refine b_ne rfl r_x3 (by unfold rg; decide) (fun hq => ?_) (fun hq => ?_)
                        · replace H := H.1 hq
                          refine w_st (fun _ => rfl) ?_
                          refine w_st (fun _ => rfl) ?_
                          refine w_st (fun _ => rfl) ?_
                          refine w_st (fun _ => rfl) ?_
                          refine k_VK (as := [iv x1, iv z4_158, iv v164]) rfl mg_261 rfl rfl (by decide) rfl rfl H (fun m190 v190 r_v190 H => ?_)
                          exact tl_193 v190 m190 r_v190 H
                        · replace H := H.2 hq
                          exact tl_179   H
                    · replace H := H.2 hq
                      refine f_int 0 rfl rfl ?_
                      refine w_st (ls2 := [some (.ref 284), some (iv x1), some (iv x2), some (iv x3), some (iv x4_77), some (iv 0)]) (fun _ => rfl) ?_
                      obtain ⟨I_86, mu_86, H0_86, HB_86⟩ := H
                      have lp_86 : ∀ (z : Nat) (x5_86 : Int) (m_86 : Mm), mu_86 x5_86 m_86 < z → rg x5_86 → I_86 x5_86 m_86 → mm_W d mc_261 86 [some (.ref 284), some (iv x1), some (iv x2), some (iv x3), some (iv x4_77), some (iv x5_86)] [] (fm m_86) (XK Q) := by
                        intro z
                        induction z with
                        | zero => intro x5_86 m_86 hz; exact absurd hz (Nat.not_lt_zero _)
                        | succ z ih_86 =>
                          intro x5_86 m_86 hz_86 r_x5_86 hI
                          have H := HB_86 x5_86 m_86 r_x5_86 hI
                          refine w_st (fun _ => rfl) ?_
                          refine w_st (fun _ => rfl) ?_
                          refine k_VK (as := []) rfl mg_261 rfl rfl (by decide) rfl rfl H (fun m89 v89 r_v89 H => ?_)
                          refine b_ge rfl r_x5_86 r_v89 (fun hq => ?_) (fun hq => ?_)
                          · replace H := H.1 hq
                            refine w_st (fun _ => rfl) ?_
                            refine k_VV (as := []) rfl mg_261 rfl rfl (by decide) rfl rfl H (fun m137 H => ?_)
                            obtain ⟨z4_140, e_z4_140⟩ : ∃ q : Int, q = wr (x4_77 + 1) := ⟨_, rfl⟩
                            have r_z4_140 : rg z4_140 := by rw [e_z4_140]; exact wr_rg _
                            replace H := H z4_140 e_z4_140
                            refine f_iinc (ls2 := [some (.ref 284), some (iv x1), some (iv x2), some (iv x3), some (iv z4_140), some (iv x5_86)]) 1 rfl rfl rfl e_z4_140 rfl ?_
                            refine w_st (fun _ => rfl) ?_
                            exact ih_77 z4_140 m137 (some (iv x5_86)) (Nat.lt_of_lt_of_le H.2 (Nat.le_of_lt_succ hz_77)) r_z4_140 H.1
                          · replace H := H.2 hq
                            refine w_st (fun _ => rfl) ?_
                            refine g_284_71 rfl ?_
                            refine w_st (fun _ => rfl) ?_
                            refine w_st (fun _ => rfl) ?_
                            refine w_st (fun _ => rfl) ?_
                            refine w_st (fun _ => rfl) ?_
                            refine k_VK (as := [iv x1, iv x5_86]) rfl mg_261 rfl rfl (by decide) rfl rfl H (fun m105 v105 r_v105 H => ?_)
                            obtain ⟨R_129, H, HJ_129⟩ := H
                            have tl_129 : ∀ (s2_129 : Int) (m_129 : Mm), rg s2_129 → R_129 s2_129 m_129 → mm_W d mc_261 129 [some (.ref 284), some (iv x1), some (iv x2), some (iv x3), some (iv x4_77), some (iv x5_86)] [iv s2_129, iv x5_86, .ref 333] (fm m_129) (XK Q) := by
                              intro s2_129 m_129 r_s2_129 hR
                              have H := HJ_129 s2_129 m_129 r_s2_129 hR
                              obtain ⟨m129, e_m129⟩ : ∃ q : Mm, q = wt m_129 333 (Int.toNat x5_86) s2_129 := ⟨_, rfl⟩
                              refine f_st ir_333 rfl H.1 e_m129 ?_
                              replace H := H.2 m129 e_m129
                              obtain ⟨z5_130, e_z5_130⟩ : ∃ q : Int, q = wr (x5_86 + 1) := ⟨_, rfl⟩
                              have r_z5_130 : rg z5_130 := by rw [e_z5_130]; exact wr_rg _
                              replace H := H z5_130 e_z5_130
                              refine f_iinc (ls2 := [some (.ref 284), some (iv x1), some (iv x2), some (iv x3), some (iv x4_77), some (iv z5_130)]) 1 rfl rfl rfl e_z5_130 rfl ?_
                              refine w_st (fun _ => rfl) ?_
                              exact ih_86 z5_130 m129 (Nat.lt_of_lt_of_le H.2 (Nat.le_of_lt_succ hz_86)) r_z5_130 H.1
                            refine z_ge rfl r_v105 (fun hq => ?_) (fun hq => ?_)
                            · replace H := H.1 hq
                              refine w_st (fun _ => rfl) ?_
                              refine w_st (fun _ => rfl) ?_
                              refine w_st (fun _ => rfl) ?_
                              refine w_st (fun _ => rfl) ?_
                              refine w_st (fun _ => rfl) ?_
                              refine w_st (fun _ => rfl) ?_
                              refine k_VK (as := [iv x1, iv x5_86]) rfl mg_261 rfl rfl (by decide) rfl rfl H (fun m123 v123 r_v123 H => ?_)
                              refine k_VK (as := [iv x1, iv x5_86, iv v123]) rfl mg_261 rfl rfl (by decide) rfl rfl H (fun m126 v126 r_v126 H => ?_)
                              exact tl_129 v126 m126 r_v126 H
                            · replace H := H.2 hq
                              refine f_int (-1) rfl rfl ?_
                              refine w_st (fun _ => rfl) ?_
                              exact tl_129 (-1) m105 (by unfold rg; decide) H
                      exact lp_86 _ 0 m_77 (Nat.lt_succ_self _) (by unfold rg; decide) H0_86
                exact lp_77 _ 1 m_52 none (Nat.lt_succ_self _) (by unfold rg; decide) H0_77
              · replace H := H.2 hq
                refine w_st (fun _ => rfl) ?_
                refine g_284_70 rfl ?_
                refine w_st (fun _ => rfl) ?_
                refine f_int 0 rfl rfl ?_
                obtain ⟨m67, e_m67⟩ : ∃ q : Mm, q = wt m_52 332 (Int.toNat x4_52) 0 := ⟨_, rfl⟩
                refine f_st ir_332 rfl H.1 e_m67 ?_
                replace H := H.2 m67 e_m67
                obtain ⟨z4_68, e_z4_68⟩ : ∃ q : Int, q = wr (x4_52 + 1) := ⟨_, rfl⟩
                have r_z4_68 : rg z4_68 := by rw [e_z4_68]; exact wr_rg _
                replace H := H z4_68 e_z4_68
                refine f_iinc (ls2 := [some (.ref 284), some (iv x1), some (iv x2), some (iv x3), some (iv z4_68), none]) 1 rfl rfl rfl e_z4_68 rfl ?_
                refine w_st (fun _ => rfl) ?_
                exact ih_52 z4_68 m67 (Nat.lt_of_lt_of_le H.2 (Nat.le_of_lt_succ hz_52)) r_z4_68 H.1
          exact lp_52 _ 0 m31 (Nat.lt_succ_self _) (by unfold rg; decide) H0_52
        · replace H := H.2 hq
          refine w_st (fun _ => rfl) ?_
          obtain ⟨R_48, H, HJ_48⟩ := H
          have tl_48 : ∀ (s0_48 : Int) , rg s0_48 → R_48 s0_48 → mm_W d mc_261 48 [some (.ref 284), some (iv x1), some (iv x2), some (iv x3), none, none] [iv s0_48] (fm m31) (XK Q) := by
            intro s0_48 r_s0_48 hR
            have H := HJ_48 s0_48 r_s0_48 hR
            exact f_iret rfl r_s0_48 H
          refine z_ne rfl r_x3 (fun hq => ?_) (fun hq => ?_)
          · replace H := H.1 hq
            refine f_int (-2) rfl rfl ?_
            exact tl_48 (-2) (by unfold rg; decide) H
          · replace H := H.2 hq
            refine f_int 0 rfl rfl ?_
            refine w_st (fun _ => rfl) ?_
            exact tl_48 0 (by unfold rg; decide) H
      · replace H := H.2 hq
        exact tl_27 m21  H
/-- TippedCratesModel.spell(III)I -/
def P_262 (d : Nat) (m : Mm) (x1 : Int) (x2 : Int) (x3 : Int) (Q : Mm → Int → Prop) : Prop :=
  CK d 210 [.ref 284, iv x1] m (fun m2 v2 =>
    (∃ R_22 : Mm → Prop,
    ((v2 = 0 → R_22 m2) ∧
    (¬ v2 = 0 → CK d 206 [iv x3, iv 1, iv 6] m2 (fun m12 v12 =>
      ((v12 = 0 → R_22 m12) ∧
      (¬ v12 = 0 → ((0 ≤ x2 → CV d 246 [.ref 284, iv x1] m12 (fun m26 =>
          (∃ (I_32 : Int → Mm → Prop) (mu_32 : Int → Mm → Nat), I_32 0 m26 ∧
          ∀ (x4_32 : Int) (m_32 : Mm), rg x4_32 → I_32 x4_32 m_32 →
          ((600 ≤ x4_32 → (∃ (I_60 : Int → Int → Mm → Prop) (mu_60 : Int → Int → Mm → Nat), I_60 x2 0 m_32 ∧
                ∀ (x4_60 x5_60 : Int) (m_60 : Mm), rg x4_60 → rg x5_60 → I_60 x4_60 x5_60 m_60 →
                ((x3 ≤ x5_60 → (∃ R_202 : Int → Prop,
                      ((x4_60 ≤ 0 → (((0 : Int) ≤ (wr (43 + x1)) ∧ (wr (43 + x1)) < 51) ∧ (((0 : Int) ≤ (wr (24 * (rd m_60 323 (Int.toNat (wr (43 + x1)))))) ∧ (wr (24 * (rd m_60 323 (Int.toNat (wr (43 + x1)))))) < 600) ∧ R_202 (rd m_60 332 (Int.toNat (wr (24 * (rd m_60 323 (Int.toNat (wr (43 + x1))))))))))) ∧
                      (¬ x4_60 ≤ 0 → R_202 (-1))) ∧
                      (∀ (s0_202 : Int) , rg s0_202 → R_202 s0_202 →
                      Q m_60 s0_202))) ∧
                    (¬ x3 ≤ x5_60 → (∃ (I_69 : Int → Mm → Prop) (mu_69 : Int → Mm → Nat), I_69 0 m_60 ∧
                      ∀ (x6_69 : Int) (m_69 : Mm), rg x6_69 → I_69 x6_69 m_69 →
                      CK d 247 [.ref 284] m_69 (fun m72 v72 =>
                          ((v72 ≤ x6_69 → CV d 258 [.ref 284] m72 (fun m160 =>
                            (∀ z4_168 : Int, z4_168 = (dvI x4_60 10) → (∀ z5_170 : Int, z5_170 = wr (x5_60 + 1) → (I_60 z4_168 z5_170 m160 ∧ mu_60 z4_168 z5_170 m160 < mu_60 x4_60 x5_60 m_60))))) ∧
                          (¬ v72 ≤ x6_69 → (((0 : Int) ≤ x6_69 ∧ x6_69 < 600) ∧ (∀ m85 : Mm, m85 = wt m72 333 (Int.toNat x6_69) 0 → (∃ (I_89 : Int → Mm → Prop) (mu_89 : Int → Mm → Nat), I_89 0 m85 ∧
                            ∀ (x7_89 : Int) (m_89 : Mm), rg x7_89 → I_89 x7_89 m_89 →
                            ((4 ≤ x7_89 → (∀ z6_153 : Int, z6_153 = wr (x6_69 + 1) → (I_69 z6_153 m_89 ∧ mu_69 z6_153 m_89 < mu_69 x6_69 m_69))) ∧
                                (¬ 4 ≤ x7_89 → (((0 : Int) ≤ (wr ((wr (4 * x6_69)) + x7_89)) ∧ (wr ((wr (4 * x6_69)) + x7_89)) < 2400) ∧ (∀ z8_107 : Int, z8_107 = (rd m_89 325 (Int.toNat (wr ((wr (4 * x6_69)) + x7_89)))) → (∃ R_147 : Mm → Prop,
                                  ((z8_107 < 0 → R_147 m_89) ∧
                                  (¬ z8_107 < 0 → CK d 248 [.ref 284, iv x1, iv z8_107, iv 1] m_89 (fun m119 v119 =>
                                    ((¬ v119 = (rmI x4_60 10) → R_147 m119) ∧
                                    (v119 = (rmI x4_60 10) → (((0 : Int) ≤ x6_69 ∧ x6_69 < 600) ∧ (((0 : Int) ≤ z8_107 ∧ z8_107 < 600) ∧ (((0 : Int) ≤ x6_69 ∧ x6_69 < 600) ∧ (∀ m146 : Mm, m146 = wt m119 333 (Int.toNat x6_69) (wr ((rd m119 333 (Int.toNat x6_69)) + (rd m119 332 (Int.toNat z8_107)))) → R_147 m146))))))))) ∧
                                  (∀ (m_147 : Mm), R_147 m_147 →
                                  (∀ z7_147 : Int, z7_147 = wr (x7_89 + 1) → (I_89 z7_147 m_147 ∧ mu_89 z7_147 m_147 < mu_89 x7_89 m_89))))))))))))))))))) ∧
              (¬ 600 ≤ x4_32 → (((0 : Int) ≤ x4_32 ∧ x4_32 < 600) ∧ (∀ m47 : Mm, m47 = wt m_32 332 (Int.toNat x4_32) 1 → (∀ z4_48 : Int, z4_48 = wr (x4_32 + 1) → (I_32 z4_48 m47 ∧ mu_32 z4_48 m47 < mu_32 x4_32 m_32))))))))) ∧
        (¬ 0 ≤ x2 → R_22 m12))))))) ∧
    (∀ (m_22 : Mm), R_22 m_22 →
    Q m_22 (-1))))
set_option maxRecDepth 20000 in
theorem br_262 {d : Nat} {m : Mm} {x1 : Int} {x2 : Int} {x3 : Int} {Q : Mm → Int → Prop} (r_x1 : rg x1) (r_x2 : rg x2) (r_x3 : rg x3) (H : P_262 d m x1 x2 x3 Q) : CK (d + 1) 262 [.ref 284, iv x1, iv x2, iv x3] m Q := by
  unfold P_262 at H
  refine CK_of rfl ?_
  show mm_W d mc_262 0 [some (.ref 284), some (iv x1), some (iv x2), some (iv x3), none, none, none, none, none] [] (fm m) (XK Q)
  refine w_st (fun _ => rfl) ?_
  refine w_st (fun _ => rfl) ?_
  refine k_VK (as := [iv x1]) rfl mg_262 rfl rfl (by decide) rfl rfl H (fun m2 v2 r_v2 H => ?_)
  obtain ⟨R_22, H, HJ_22⟩ := H
  have tl_22 : ∀ (m_22 : Mm), R_22 m_22 → mm_W d mc_262 22 [some (.ref 284), some (iv x1), some (iv x2), some (iv x3), none, none, none, none, none] [] (fm m_22) (XK Q) := by
    intro m_22  hR
    have H := HJ_22 m_22  hR
    refine f_int (-1) rfl rfl ?_
    exact f_iret rfl (by unfold rg; decide) H
  refine z_eq rfl r_v2 (fun hq => ?_) (fun hq => ?_)
  · replace H := H.1 hq
    exact tl_22 m2  H
  · replace H := H.2 hq
    refine w_st (fun _ => rfl) ?_
    refine f_int 1 rfl rfl ?_
    refine f_int 6 rfl rfl ?_
    refine k_SK (as := [iv x3, iv 1, iv 6]) rfl mg_262 rfl rfl rfl H (fun m12 v12 r_v12 H => ?_)
    refine z_eq rfl r_v12 (fun hq => ?_) (fun hq => ?_)
    · replace H := H.1 hq
      exact tl_22 m12  H
    · replace H := H.2 hq
      refine w_st (fun _ => rfl) ?_
      refine z_ge rfl r_x2 (fun hq => ?_) (fun hq => ?_)
      · replace H := H.1 hq
        refine w_st (fun _ => rfl) ?_
        refine w_st (fun _ => rfl) ?_
        refine k_VV (as := [iv x1]) rfl mg_262 rfl rfl (by decide) rfl rfl H (fun m26 H => ?_)
        refine f_int 0 rfl rfl ?_
        refine w_st (ls2 := [some (.ref 284), some (iv x1), some (iv x2), some (iv x3), some (iv 0), none, none, none, none]) (fun _ => rfl) ?_
        obtain ⟨I_32, mu_32, H0_32, HB_32⟩ := H
        have lp_32 : ∀ (z : Nat) (x4_32 : Int) (m_32 : Mm), mu_32 x4_32 m_32 < z → rg x4_32 → I_32 x4_32 m_32 → mm_W d mc_262 32 [some (.ref 284), some (iv x1), some (iv x2), some (iv x3), some (iv x4_32), none, none, none, none] [] (fm m_32) (XK Q) := by
          intro z
          induction z with
          | zero => intro x4_32 m_32 hz; exact absurd hz (Nat.not_lt_zero _)
          | succ z ih_32 =>
            intro x4_32 m_32 hz_32 r_x4_32 hI
            have H := HB_32 x4_32 m_32 r_x4_32 hI
            refine w_st (fun _ => rfl) ?_
            refine f_int 600 rfl rfl ?_
            refine b_ge rfl r_x4_32 (by unfold rg; decide) (fun hq => ?_) (fun hq => ?_)
            · replace H := H.1 hq
              refine w_st (fun _ => rfl) ?_
              refine w_st (ls2 := [some (.ref 284), some (iv x1), some (iv x2), some (iv x3), some (iv x2), none, none, none, none]) (fun _ => rfl) ?_
              refine f_int 0 rfl rfl ?_
              refine w_st (ls2 := [some (.ref 284), some (iv x1), some (iv x2), some (iv x3), some (iv x2), some (iv 0), none, none, none]) (fun _ => rfl) ?_
              obtain ⟨I_60, mu_60, H0_60, HB_60⟩ := H
              have lp_60 : ∀ (z : Nat) (x4_60 x5_60 : Int) (m_60 : Mm) (g6_60 g7_60 g8_60 : Option Value), mu_60 x4_60 x5_60 m_60 < z → rg x4_60 → rg x5_60 → I_60 x4_60 x5_60 m_60 → mm_W d mc_262 60 [some (.ref 284), some (iv x1), some (iv x2), some (iv x3), some (iv x4_60), some (iv x5_60), g6_60, g7_60, g8_60] [] (fm m_60) (XK Q) := by
                intro z
                induction z with
                | zero => intro x4_60 x5_60 m_60 g6_60 g7_60 g8_60 hz; exact absurd hz (Nat.not_lt_zero _)
                | succ z ih_60 =>
                  intro x4_60 x5_60 m_60 g6_60 g7_60 g8_60 hz_60 r_x4_60 r_x5_60 hI
                  have H := HB_60 x4_60 x5_60 m_60 r_x4_60 r_x5_60 hI
                  refine w_st (fun _ => rfl) ?_
                  refine w_st (fun _ => rfl) ?_
                  refine b_ge rfl r_x5_60 r_x3 (fun hq => ?_) (fun hq => ?_)
                  · replace H := H.1 hq
                    refine w_st (fun _ => rfl) ?_
                    obtain ⟨R_202, H, HJ_202⟩ := H
                    have tl_202 : ∀ (s0_202 : Int) , rg s0_202 → R_202 s0_202 → mm_W d mc_262 202 [some (.ref 284), some (iv x1), some (iv x2), some (iv x3), some (iv x4_60), some (iv x5_60), g6_60, g7_60, g8_60] [iv s0_202] (fm m_60) (XK Q) := by
                      intro s0_202 r_s0_202 hR
                      have H := HJ_202 s0_202 r_s0_202 hR
                      exact f_iret rfl r_s0_202 H
                    refine z_le rfl r_x4_60 (fun hq => ?_) (fun hq => ?_)
                    · replace H := H.1 hq
                      refine w_st (fun _ => rfl) ?_
                      refine g_284_70 rfl ?_
                      refine f_int 24 rfl rfl ?_
                      refine w_st (fun _ => rfl) ?_
                      refine g_284_57 rfl ?_
                      refine f_int 43 rfl rfl ?_
                      refine w_st (fun _ => rfl) ?_
                      refine f_add rfl ?_
                      refine f_ld ir_323 rfl H.1 ?_
                      replace H := H.2
                      refine f_mul rfl ?_
                      refine f_ld ir_332 rfl H.1 ?_
                      replace H := H.2
                      exact tl_202 (rd m_60 332 (Int.toNat (wr (24 * (rd m_60 323 (Int.toNat (wr (43 + x1)))))))) (rd_rg _ _ _) H
                    · replace H := H.2 hq
                      refine f_int (-1) rfl rfl ?_
                      refine w_st (fun _ => rfl) ?_
                      exact tl_202 (-1) (by unfold rg; decide) H
                  · replace H := H.2 hq
                    refine f_int 0 rfl rfl ?_
                    refine w_st (ls2 := [some (.ref 284), some (iv x1), some (iv x2), some (iv x3), some (iv x4_60), some (iv x5_60), some (iv 0), g7_60, g8_60]) (fun _ => rfl) ?_
                    obtain ⟨I_69, mu_69, H0_69, HB_69⟩ := H
                    have lp_69 : ∀ (z : Nat) (x6_69 : Int) (m_69 : Mm) (g7_69 g8_69 : Option Value), mu_69 x6_69 m_69 < z → rg x6_69 → I_69 x6_69 m_69 → mm_W d mc_262 69 [some (.ref 284), some (iv x1), some (iv x2), some (iv x3), some (iv x4_60), some (iv x5_60), some (iv x6_69), g7_69, g8_69] [] (fm m_69) (XK Q) := by
                      intro z
                      induction z with
                      | zero => intro x6_69 m_69 g7_69 g8_69 hz; exact absurd hz (Nat.not_lt_zero _)
                      | succ z ih_69 =>
                        intro x6_69 m_69 g7_69 g8_69 hz_69 r_x6_69 hI
                        have H := HB_69 x6_69 m_69 r_x6_69 hI
                        refine w_st (fun _ => rfl) ?_
                        refine w_st (fun _ => rfl) ?_
                        refine k_VK (as := []) rfl mg_262 rfl rfl (by decide) rfl rfl H (fun m72 v72 r_v72 H => ?_)
                        refine b_ge rfl r_x6_69 r_v72 (fun hq => ?_) (fun hq => ?_)
                        · replace H := H.1 hq
                          refine w_st (fun _ => rfl) ?_
                          refine k_VV (as := []) rfl mg_262 rfl rfl (by decide) rfl rfl H (fun m160 H => ?_)
                          refine w_st (fun _ => rfl) ?_
                          refine f_int 10 rfl rfl ?_
                          refine f_dvI rfl (by unfold rg; decide) (by decide) ?_
                          obtain ⟨z4_168, e_z4_168⟩ : ∃ q : Int, q = (dvI x4_60 10) := ⟨_, rfl⟩
                          have r_z4_168 : rg z4_168 := by rw [e_z4_168]; exact (io_rg _ _ _)
                          replace H := H z4_168 e_z4_168
                          refine f_nm e_z4_168 ?_
                          refine w_st (ls2 := [some (.ref 284), some (iv x1), some (iv x2), some (iv x3), some (iv z4_168), some (iv x5_60), some (iv x6_69), g7_69, g8_69]) (fun _ => rfl) ?_
                          obtain ⟨z5_170, e_z5_170⟩ : ∃ q : Int, q = wr (x5_60 + 1) := ⟨_, rfl⟩
                          have r_z5_170 : rg z5_170 := by rw [e_z5_170]; exact wr_rg _
                          replace H := H z5_170 e_z5_170
                          refine f_iinc (ls2 := [some (.ref 284), some (iv x1), some (iv x2), some (iv x3), some (iv z4_168), some (iv z5_170), some (iv x6_69), g7_69, g8_69]) 1 rfl rfl rfl e_z5_170 rfl ?_
                          refine w_st (fun _ => rfl) ?_
                          exact ih_60 z4_168 z5_170 m160 (some (iv x6_69)) g7_69 g8_69 (Nat.lt_of_lt_of_le H.2 (Nat.le_of_lt_succ hz_60)) r_z4_168 r_z5_170 H.1
                        · replace H := H.2 hq
                          refine w_st (fun _ => rfl) ?_
                          refine g_284_71 rfl ?_
                          refine w_st (fun _ => rfl) ?_
                          refine f_int 0 rfl rfl ?_
                          obtain ⟨m85, e_m85⟩ : ∃ q : Mm, q = wt m72 333 (Int.toNat x6_69) 0 := ⟨_, rfl⟩
                          refine f_st ir_333 rfl H.1 e_m85 ?_
                          replace H := H.2 m85 e_m85
                          refine f_int 0 rfl rfl ?_
                          refine w_st (ls2 := [some (.ref 284), some (iv x1), some (iv x2), some (iv x3), some (iv x4_60), some (iv x5_60), some (iv x6_69), some (iv 0), g8_69]) (fun _ => rfl) ?_
                          obtain ⟨I_89, mu_89, H0_89, HB_89⟩ := H
                          have lp_89 : ∀ (z : Nat) (x7_89 : Int) (m_89 : Mm) (g8_89 : Option Value), mu_89 x7_89 m_89 < z → rg x7_89 → I_89 x7_89 m_89 → mm_W d mc_262 89 [some (.ref 284), some (iv x1), some (iv x2), some (iv x3), some (iv x4_60), some (iv x5_60), some (iv x6_69), some (iv x7_89), g8_89] [] (fm m_89) (XK Q) := by
                            intro z
                            induction z with
                            | zero => intro x7_89 m_89 g8_89 hz; exact absurd hz (Nat.not_lt_zero _)
                            | succ z ih_89 =>
                              intro x7_89 m_89 g8_89 hz_89 r_x7_89 hI
                              have H := HB_89 x7_89 m_89 r_x7_89 hI
                              refine w_st (fun _ => rfl) ?_
                              refine f_int 4 rfl rfl ?_
                              refine b_ge rfl r_x7_89 (by unfold rg; decide) (fun hq => ?_) (fun hq => ?_)
                              · replace H := H.1 hq
                                obtain ⟨z6_153, e_z6_153⟩ : ∃ q : Int, q = wr (x6_69 + 1) := ⟨_, rfl⟩
                                have r_z6_153 : rg z6_153 := by rw [e_z6_153]; exact wr_rg _
                                replace H := H z6_153 e_z6_153
                                refine f_iinc (ls2 := [some (.ref 284), some (iv x1), some (iv x2), some (iv x3), some (iv x4_60), some (iv x5_60), some (iv z6_153), some (iv x7_89), g8_89]) 1 rfl rfl rfl e_z6_153 rfl ?_
                                refine w_st (fun _ => rfl) ?_
                                exact ih_69 z6_153 m_89 (some (iv x7_89)) g8_89 (Nat.lt_of_lt_of_le H.2 (Nat.le_of_lt_succ hz_69)) r_z6_153 H.1
                              · replace H := H.2 hq
                                refine w_st (fun _ => rfl) ?_
                                refine g_284_62 rfl ?_
                                refine f_int 4 rfl rfl ?_
                                refine w_st (fun _ => rfl) ?_
                                refine f_mul rfl ?_
                                refine w_st (fun _ => rfl) ?_
                                refine f_add rfl ?_
                                refine f_ld ir_325 rfl H.1 ?_
                                replace H := H.2
                                obtain ⟨z8_107, e_z8_107⟩ : ∃ q : Int, q = (rd m_89 325 (Int.toNat (wr ((wr (4 * x6_69)) + x7_89)))) := ⟨_, rfl⟩
                                have r_z8_107 : rg z8_107 := by rw [e_z8_107]; exact (rd_rg _ _ _)
                                replace H := H z8_107 e_z8_107
                                refine f_nm e_z8_107 ?_
                                refine w_st (ls2 := [some (.ref 284), some (iv x1), some (iv x2), some (iv x3), some (iv x4_60), some (iv x5_60), some (iv x6_69), some (iv x7_89), some (iv z8_107)]) (fun _ => rfl) ?_
                                refine w_st (fun _ => rfl) ?_
                                obtain ⟨R_147, H, HJ_147⟩ := H
                                have tl_147 : ∀ (m_147 : Mm), R_147 m_147 → mm_W d mc_262 147 [some (.ref 284), some (iv x1), some (iv x2), some (iv x3), some (iv x4_60), some (iv x5_60), some (iv x6_69), some (iv x7_89), some (iv z8_107)] [] (fm m_147) (XK Q) := by
                                  intro m_147  hR
                                  have H := HJ_147 m_147  hR
                                  obtain ⟨z7_147, e_z7_147⟩ : ∃ q : Int, q = wr (x7_89 + 1) := ⟨_, rfl⟩
                                  have r_z7_147 : rg z7_147 := by rw [e_z7_147]; exact wr_rg _
                                  replace H := H z7_147 e_z7_147
                                  refine f_iinc (ls2 := [some (.ref 284), some (iv x1), some (iv x2), some (iv x3), some (iv x4_60), some (iv x5_60), some (iv x6_69), some (iv z7_147), some (iv z8_107)]) 1 rfl rfl rfl e_z7_147 rfl ?_
                                  refine w_st (fun _ => rfl) ?_
                                  exact ih_89 z7_147 m_147 (some (iv z8_107)) (Nat.lt_of_lt_of_le H.2 (Nat.le_of_lt_succ hz_89)) r_z7_147 H.1
                                refine z_lt rfl r_z8_107 (fun hq => ?_) (fun hq => ?_)
                                · replace H := H.1 hq
                                  exact tl_147 m_89  H
                                · replace H := H.2 hq
                                  refine w_st (fun _ => rfl) ?_
                                  refine w_st (fun _ => rfl) ?_
                                  refine w_st (fun _ => rfl) ?_
                                  refine f_int 1 rfl rfl ?_
                                  refine k_VK (as := [iv x1, iv z8_107, iv 1]) rfl mg_262 rfl rfl (by decide) rfl rfl H (fun m119 v119 r_v119 H => ?_)
                                  refine w_st (fun _ => rfl) ?_
                                  refine f_int 10 rfl rfl ?_
                                  refine f_rmI rfl (by unfold rg; decide) (by decide) ?_
                                  refine b_ne rfl r_v119 (io_rg _ _ _) (fun hq => ?_) (fun hq => ?_)
                                  · replace H := H.1 hq
                                    exact tl_147 m119  H
                                  · replace H := H.2 hq
                                    refine w_st (fun _ => rfl) ?_
                                    refine g_284_71 rfl ?_
                                    refine w_st (fun _ => rfl) ?_
                                    refine w_st (fun _ => rfl) ?_
                                    refine f_ld ir_333 rfl H.1 ?_
                                    replace H := H.2
                                    refine w_st (fun _ => rfl) ?_
                                    refine g_284_70 rfl ?_
                                    refine w_st (fun _ => rfl) ?_
                                    refine f_ld ir_332 rfl H.1 ?_
                                    replace H := H.2
                                    refine f_add rfl ?_
                                    obtain ⟨m146, e_m146⟩ : ∃ q : Mm, q = wt m119 333 (Int.toNat x6_69) (wr ((rd m119 333 (Int.toNat x6_69)) + (rd m119 332 (Int.toNat z8_107)))) := ⟨_, rfl⟩
                                    refine f_st ir_333 rfl H.1 e_m146 ?_
                                    replace H := H.2 m146 e_m146
                                    exact tl_147 m146  H
                          exact lp_89 _ 0 m85 g8_69 (Nat.lt_succ_self _) (by unfold rg; decide) H0_89
                    exact lp_69 _ 0 m_60 g7_60 g8_60 (Nat.lt_succ_self _) (by unfold rg; decide) H0_69
              exact lp_60 _ x2 0 m_32 none none none (Nat.lt_succ_self _) r_x2 (by unfold rg; decide) H0_60
            · replace H := H.2 hq
              refine w_st (fun _ => rfl) ?_
              refine g_284_70 rfl ?_
              refine w_st (fun _ => rfl) ?_
              refine f_int 1 rfl rfl ?_
              obtain ⟨m47, e_m47⟩ : ∃ q : Mm, q = wt m_32 332 (Int.toNat x4_32) 1 := ⟨_, rfl⟩
              refine f_st ir_332 rfl H.1 e_m47 ?_
              replace H := H.2 m47 e_m47
              obtain ⟨z4_48, e_z4_48⟩ : ∃ q : Int, q = wr (x4_32 + 1) := ⟨_, rfl⟩
              have r_z4_48 : rg z4_48 := by rw [e_z4_48]; exact wr_rg _
              replace H := H z4_48 e_z4_48
              refine f_iinc (ls2 := [some (.ref 284), some (iv x1), some (iv x2), some (iv x3), some (iv z4_48), none, none, none, none]) 1 rfl rfl rfl e_z4_48 rfl ?_
              refine w_st (fun _ => rfl) ?_
              exact ih_32 z4_48 m47 (Nat.lt_of_lt_of_le H.2 (Nat.le_of_lt_succ hz_32)) r_z4_48 H.1
        exact lp_32 _ 0 m26 (Nat.lt_succ_self _) (by unfold rg; decide) H0_32
      · replace H := H.2 hq
        exact tl_22 m12  H
/-- TippedCratesModel.bestWay(IZ)I -/
def P_263 (d : Nat) (m : Mm) (x1 : Int) (x2 : Int) (Q : Mm → Int → Prop) : Prop :=
  (∃ (I_9 : Int → Int → Int → Prop) (mu_9 : Int → Int → Int → Nat), I_9 (-2) 0 0 ∧
    ∀ (x3_9 x4_9 x5_9 : Int) , rg x3_9 → rg x4_9 → rg x5_9 → I_9 x3_9 x4_9 x5_9 →
    ((4 ≤ x5_9 → Q m x3_9) ∧
        (¬ 4 ≤ x5_9 → (((0 : Int) ≤ (wr ((wr (4 * x1)) + x5_9)) ∧ (wr ((wr (4 * x1)) + x5_9)) < 2400) ∧ (∀ z6_26 : Int, z6_26 = (rd m 325 (Int.toNat (wr ((wr (4 * x1)) + x5_9)))) → (∃ R_81 : Int → Int → Prop,
          ((0 ≤ z6_26 → (∃ R_58 : Int → Prop,
            ((x2 = 0 → (((0 : Int) ≤ z6_26 ∧ z6_26 < 600) ∧ R_58 (ngI (rd m 332 (Int.toNat z6_26))))) ∧
            (¬ x2 = 0 → (((0 : Int) ≤ z6_26 ∧ z6_26 < 600) ∧ R_58 (rd m 332 (Int.toNat z6_26))))) ∧
            (∀ (s0_58 : Int) , rg s0_58 → R_58 s0_58 →
            (∃ R_74 : Prop,
              ((x3_9 < 0 → R_74) ∧
              (¬ x3_9 < 0 → ((x4_9 < s0_58 → R_74) ∧
                (¬ x4_9 < s0_58 → R_81 x3_9 x4_9)))) ∧
              (R_74 →
              R_81 x5_9 s0_58))))) ∧
          (¬ 0 ≤ z6_26 → R_81 x3_9 x4_9)) ∧
          (∀ (y3_81 y4_81 : Int) , rg y3_81 → rg y4_81 → R_81 y3_81 y4_81 →
          (∀ z5_81 : Int, z5_81 = wr (x5_9 + 1) → (I_9 y3_81 y4_81 z5_81 ∧ mu_9 y3_81 y4_81 z5_81 < mu_9 x3_9 x4_9 x5_9)))))))))
set_option maxRecDepth 20000 in
theorem br_263 {d : Nat} {m : Mm} {x1 : Int} {x2 : Int} {Q : Mm → Int → Prop} (r_x1 : rg x1) (r_x2 : rg x2) (H : P_263 d m x1 x2 Q) : CK (d + 1) 263 [.ref 284, iv x1, iv x2] m Q := by
  unfold P_263 at H
  refine CK_of rfl ?_
  show mm_W d mc_263 0 [some (.ref 284), some (iv x1), some (iv x2), none, none, none, none, none] [] (fm m) (XK Q)
  refine f_int (-2) rfl rfl ?_
  refine w_st (ls2 := [some (.ref 284), some (iv x1), some (iv x2), some (iv (-2)), none, none, none, none]) (fun _ => rfl) ?_
  refine f_int 0 rfl rfl ?_
  refine w_st (ls2 := [some (.ref 284), some (iv x1), some (iv x2), some (iv (-2)), some (iv 0), none, none, none]) (fun _ => rfl) ?_
  refine f_int 0 rfl rfl ?_
  refine w_st (ls2 := [some (.ref 284), some (iv x1), some (iv x2), some (iv (-2)), some (iv 0), some (iv 0), none, none]) (fun _ => rfl) ?_
  obtain ⟨I_9, mu_9, H0_9, HB_9⟩ := H
  have lp_9 : ∀ (z : Nat) (x3_9 x4_9 x5_9 : Int)  (g6_9 g7_9 : Option Value), mu_9 x3_9 x4_9 x5_9 < z → rg x3_9 → rg x4_9 → rg x5_9 → I_9 x3_9 x4_9 x5_9 → mm_W d mc_263 9 [some (.ref 284), some (iv x1), some (iv x2), some (iv x3_9), some (iv x4_9), some (iv x5_9), g6_9, g7_9] [] (fm m) (XK Q) := by
    intro z
    induction z with
    | zero => intro x3_9 x4_9 x5_9 g6_9 g7_9 hz; exact absurd hz (Nat.not_lt_zero _)
    | succ z ih_9 =>
      intro x3_9 x4_9 x5_9 g6_9 g7_9 hz_9 r_x3_9 r_x4_9 r_x5_9 hI
      have H := HB_9 x3_9 x4_9 x5_9 r_x3_9 r_x4_9 r_x5_9 hI
      refine w_st (fun _ => rfl) ?_
      refine f_int 4 rfl rfl ?_
      refine b_ge rfl r_x5_9 (by unfold rg; decide) (fun hq => ?_) (fun hq => ?_)
      · replace H := H.1 hq
        refine w_st (fun _ => rfl) ?_
        exact f_iret rfl r_x3_9 H
      · replace H := H.2 hq
        refine w_st (fun _ => rfl) ?_
        refine g_284_62 rfl ?_
        refine f_int 4 rfl rfl ?_
        refine w_st (fun _ => rfl) ?_
        refine f_mul rfl ?_
        refine w_st (fun _ => rfl) ?_
        refine f_add rfl ?_
        refine f_ld ir_325 rfl H.1 ?_
        replace H := H.2
        obtain ⟨z6_26, e_z6_26⟩ : ∃ q : Int, q = (rd m 325 (Int.toNat (wr ((wr (4 * x1)) + x5_9)))) := ⟨_, rfl⟩
        have r_z6_26 : rg z6_26 := by rw [e_z6_26]; exact (rd_rg _ _ _)
        replace H := H z6_26 e_z6_26
        refine f_nm e_z6_26 ?_
        refine w_st (ls2 := [some (.ref 284), some (iv x1), some (iv x2), some (iv x3_9), some (iv x4_9), some (iv x5_9), some (iv z6_26), g7_9]) (fun _ => rfl) ?_
        refine w_st (fun _ => rfl) ?_
        obtain ⟨R_81, H, HJ_81⟩ := H
        have tl_81 : ∀ (y3_81 y4_81 : Int)  (g7_81 : Option Value), rg y3_81 → rg y4_81 → R_81 y3_81 y4_81 → mm_W d mc_263 81 [some (.ref 284), some (iv x1), some (iv x2), some (iv y3_81), some (iv y4_81), some (iv x5_9), some (iv z6_26), g7_81] [] (fm m) (XK Q) := by
          intro y3_81 y4_81 g7_81 r_y3_81 r_y4_81 hR
          have H := HJ_81 y3_81 y4_81 r_y3_81 r_y4_81 hR
          obtain ⟨z5_81, e_z5_81⟩ : ∃ q : Int, q = wr (x5_9 + 1) := ⟨_, rfl⟩
          have r_z5_81 : rg z5_81 := by rw [e_z5_81]; exact wr_rg _
          replace H := H z5_81 e_z5_81
          refine f_iinc (ls2 := [some (.ref 284), some (iv x1), some (iv x2), some (iv y3_81), some (iv y4_81), some (iv z5_81), some (iv z6_26), g7_81]) 1 rfl rfl rfl e_z5_81 rfl ?_
          refine w_st (fun _ => rfl) ?_
          exact ih_9 y3_81 y4_81 z5_81 (some (iv z6_26)) g7_81 (Nat.lt_of_lt_of_le H.2 (Nat.le_of_lt_succ hz_9)) r_y3_81 r_y4_81 r_z5_81 H.1
        refine z_ge rfl r_z6_26 (fun hq => ?_) (fun hq => ?_)
        · replace H := H.1 hq
          refine w_st (fun _ => rfl) ?_
          obtain ⟨R_58, H, HJ_58⟩ := H
          have tl_58 : ∀ (s0_58 : Int) , rg s0_58 → R_58 s0_58 → mm_W d mc_263 58 [some (.ref 284), some (iv x1), some (iv x2), some (iv x3_9), some (iv x4_9), some (iv x5_9), some (iv z6_26), g7_9] [iv s0_58] (fm m) (XK Q) := by
            intro s0_58 r_s0_58 hR
            have H := HJ_58 s0_58 r_s0_58 hR
            refine w_st (ls2 := [some (.ref 284), some (iv x1), some (iv x2), some (iv x3_9), some (iv x4_9), some (iv x5_9), some (iv z6_26), some (iv s0_58)]) (fun _ => rfl) ?_
            refine w_st (fun _ => rfl) ?_
            obtain ⟨R_74, H, HJ_74⟩ := H
            have tl_74 : R_74 → mm_W d mc_263 74 [some (.ref 284), some (iv x1), some (iv x2), some (iv x3_9), some (iv x4_9), some (iv x5_9), some (iv z6_26), some (iv s0_58)] [] (fm m) (XK Q) := by
              intro   hR
              have H := HJ_74   hR
              refine w_st (fun _ => rfl) ?_
              refine w_st (ls2 := [some (.ref 284), some (iv x1), some (iv x2), some (iv x5_9), some (iv x4_9), some (iv x5_9), some (iv z6_26), some (iv s0_58)]) (fun _ => rfl) ?_
              refine w_st (fun _ => rfl) ?_
              refine w_st (ls2 := [some (.ref 284), some (iv x1), some (iv x2), some (iv x5_9), some (iv s0_58), some (iv x5_9), some (iv z6_26), some (iv s0_58)]) (fun _ => rfl) ?_
              exact tl_81 x5_9 s0_58 (some (iv s0_58)) r_x5_9 r_s0_58 H
            refine z_lt rfl r_x3_9 (fun hq => ?_) (fun hq => ?_)
            · replace H := H.1 hq
              exact tl_74   H
            · replace H := H.2 hq
              refine w_st (fun _ => rfl) ?_
              refine w_st (fun _ => rfl) ?_
              refine b_gt rfl r_s0_58 r_x4_9 (fun hq => ?_) (fun hq => ?_)
              · replace H := H.1 hq
                exact tl_74   H
              · replace H := H.2 hq
                refine w_st (fun _ => rfl) ?_
                exact tl_81 x3_9 x4_9 (some (iv s0_58)) r_x3_9 r_x4_9 H
          refine z_eq rfl r_x2 (fun hq => ?_) (fun hq => ?_)
          · replace H := H.1 hq
            refine w_st (fun _ => rfl) ?_
            refine g_284_70 rfl ?_
            refine w_st (fun _ => rfl) ?_
            refine f_ld ir_332 rfl H.1 ?_
            replace H := H.2
            refine f_ngI rfl ?_
            exact tl_58 (ngI (rd m 332 (Int.toNat z6_26))) (i1o_rg _ _) H
          · replace H := H.2 hq
            refine w_st (fun _ => rfl) ?_
            refine g_284_70 rfl ?_
            refine w_st (fun _ => rfl) ?_
            refine f_ld ir_332 rfl H.1 ?_
            replace H := H.2
            refine w_st (fun _ => rfl) ?_
            exact tl_58 (rd m 332 (Int.toNat z6_26)) (rd_rg _ _ _) H
        · replace H := H.2 hq
          refine w_st (fun _ => rfl) ?_
          exact tl_81 x3_9 x4_9 g7_9 r_x3_9 r_x4_9 H
  exact lp_9 _ (-2) 0 0 none none (Nat.lt_succ_self _) (by unfold rg; decide) (by unfold rg; decide) (by unfold rg; decide) H0_9
/-- TippedCratesModel.game(III)I -/
def P_264 (d : Nat) (m : Mm) (x1 : Int) (x2 : Int) (x3 : Int) (Q : Mm → Int → Prop) : Prop :=
  CK d 210 [.ref 284, iv x1] m (fun m2 v2 =>
    (∃ R_27 : Mm → Prop,
    ((v2 = 0 → R_27 m2) ∧
    (¬ v2 = 0 → CK d 206 [iv x2, iv 1, iv 6] m2 (fun m12 v12 =>
      ((v12 = 0 → R_27 m12) ∧
      (¬ v12 = 0 → CK d 206 [iv x3, iv 0, iv 1] m12 (fun m21 v21 =>
        ((¬ v21 = 0 → CV d 246 [.ref 284, iv x1] m21 (fun m31 =>
          (((0 : Int) ≤ (wr (43 + x1)) ∧ (wr (43 + x1)) < 51) ∧ (∀ z4_46 : Int, z4_46 = (wr (24 * (rd m31 323 (Int.toNat (wr (43 + x1)))))) → (∃ (I_51 : Int → Mm → Prop) (mu_51 : Int → Mm → Nat), I_51 0 m31 ∧
          ∀ (x5_51 : Int) (m_51 : Mm), rg x5_51 → I_51 x5_51 m_51 →
          CK d 247 [.ref 284] m_51 (fun m54 v54 =>
              ((v54 ≤ x5_51 → (∀ z5_84 : Int, z5_84 = (wr (x2 - 1)) → (∃ (I_86 : Int → Mm → Prop) (mu_86 : Int → Mm → Nat), I_86 z5_84 m54 ∧
                ∀ (x5_86 : Int) (m_86 : Mm), rg x5_86 → I_86 x5_86 m_86 →
                ((x5_86 < 0 → (((0 : Int) ≤ z4_46 ∧ z4_46 < 600) ∧ Q m_86 (rd m_86 332 (Int.toNat z4_46)))) ∧
                    (¬ x5_86 < 0 → (∃ R_103 : Int → Prop,
                      ((¬ (rmI x5_86 2) = 0 → R_103 0) ∧
                      ((rmI x5_86 2) = 0 → R_103 1)) ∧
                      (∀ (s0_103 : Int) , rg s0_103 → R_103 s0_103 →
                      (∃ R_123 : Prop,
                        ((¬ x5_86 = 0 → R_123) ∧
                        (x5_86 = 0 → ((¬ x3 = 1 → R_123) ∧
                          (x3 = 1 → CK d 263 [.ref 284, iv z4_46, iv 1] m_86 (fun m119 v119 =>
                            Q m119 v119))))) ∧
                        (R_123 →
                        (∃ (I_126 : Int → Mm → Prop) (mu_126 : Int → Mm → Nat), I_126 0 m_86 ∧
                          ∀ (x7_126 : Int) (m_126 : Mm), rg x7_126 → I_126 x7_126 m_126 →
                          CK d 247 [.ref 284] m_126 (fun m129 v129 =>
                              ((v129 ≤ x7_126 → CV d 258 [.ref 284] m129 (fun m192 =>
                                (∀ z5_195 : Int, z5_195 = wr (x5_86 + (-1)) → (I_86 z5_195 m192 ∧ mu_86 z5_195 m192 < mu_86 x5_86 m_86)))) ∧
                              (¬ v129 ≤ x7_126 → CK d 263 [.ref 284, iv x7_126, iv s0_103] m129 (fun m140 v140 =>
                                (∃ R_184 : Int → Mm → Prop,
                                ((0 ≤ v140 → (((0 : Int) ≤ (wr ((wr (4 * x7_126)) + v140)) ∧ (wr ((wr (4 * x7_126)) + v140)) < 2400) ∧ (((0 : Int) ≤ (rd m140 325 (Int.toNat (wr ((wr (4 * x7_126)) + v140)))) ∧ (rd m140 325 (Int.toNat (wr ((wr (4 * x7_126)) + v140)))) < 600) ∧ R_184 (rd m140 332 (Int.toNat (rd m140 325 (Int.toNat (wr ((wr (4 * x7_126)) + v140)))))) m140))) ∧
                                (¬ 0 ≤ v140 → CK d 248 [.ref 284, iv x1, iv x7_126, iv 0] m140 (fun m161 v161 =>
                                  R_184 v161 m161))) ∧
                                (∀ (s2_184 : Int) (m_184 : Mm), rg s2_184 → R_184 s2_184 m_184 →
                                (((0 : Int) ≤ x7_126 ∧ x7_126 < 600) ∧ (∀ m184 : Mm, m184 = wt m_184 333 (Int.toNat x7_126) s2_184 → (∀ z7_185 : Int, z7_185 = wr (x7_126 + 1) → (I_126 z7_185 m184 ∧ mu_126 z7_185 m184 < mu_126 x7_126 m_126)))))))))))))))))))) ∧
              (¬ v54 ≤ x5_51 → CK d 248 [.ref 284, iv x1, iv x5_51, iv 0] m54 (fun m71 v71 =>
                (((0 : Int) ≤ x5_51 ∧ x5_51 < 600) ∧ (∀ m74 : Mm, m74 = wt m71 332 (Int.toNat x5_51) v71 → (∀ z5_75 : Int, z5_75 = wr (x5_51 + 1) → (I_51 z5_75 m74 ∧ mu_51 z5_75 m74 < mu_51 x5_51 m_51))))))))))))) ∧
        (v21 = 0 → R_27 m21)))))))) ∧
    (∀ (m_27 : Mm), R_27 m_27 →
    Q m_27 (-1))))
set_option maxRecDepth 20000 in
theorem br_264 {d : Nat} {m : Mm} {x1 : Int} {x2 : Int} {x3 : Int} {Q : Mm → Int → Prop} (r_x1 : rg x1) (r_x2 : rg x2) (r_x3 : rg x3) (H : P_264 d m x1 x2 x3 Q) : CK (d + 1) 264 [.ref 284, iv x1, iv x2, iv x3] m Q := by
  unfold P_264 at H
  refine CK_of rfl ?_
  show mm_W d mc_264 0 [some (.ref 284), some (iv x1), some (iv x2), some (iv x3), none, none, none, none, none] [] (fm m) (XK Q)
  refine w_st (fun _ => rfl) ?_
  refine w_st (fun _ => rfl) ?_
  refine k_VK (as := [iv x1]) rfl mg_264 rfl rfl (by decide) rfl rfl H (fun m2 v2 r_v2 H => ?_)
  obtain ⟨R_27, H, HJ_27⟩ := H
  have tl_27 : ∀ (m_27 : Mm), R_27 m_27 → mm_W d mc_264 27 [some (.ref 284), some (iv x1), some (iv x2), some (iv x3), none, none, none, none, none] [] (fm m_27) (XK Q) := by
    intro m_27  hR
    have H := HJ_27 m_27  hR
    refine f_int (-1) rfl rfl ?_
    exact f_iret rfl (by unfold rg; decide) H
  refine z_eq rfl r_v2 (fun hq => ?_) (fun hq => ?_)
  · replace H := H.1 hq
    exact tl_27 m2  H
  · replace H := H.2 hq
    refine w_st (fun _ => rfl) ?_
    refine f_int 1 rfl rfl ?_
    refine f_int 6 rfl rfl ?_
    refine k_SK (as := [iv x2, iv 1, iv 6]) rfl mg_264 rfl rfl rfl H (fun m12 v12 r_v12 H => ?_)
    refine z_eq rfl r_v12 (fun hq => ?_) (fun hq => ?_)
    · replace H := H.1 hq
      exact tl_27 m12  H
    · replace H := H.2 hq
      refine w_st (fun _ => rfl) ?_
      refine f_int 0 rfl rfl ?_
      refine f_int 1 rfl rfl ?_
      refine k_SK (as := [iv x3, iv 0, iv 1]) rfl mg_264 rfl rfl rfl H (fun m21 v21 r_v21 H => ?_)
      refine z_ne rfl r_v21 (fun hq => ?_) (fun hq => ?_)
      · replace H := H.1 hq
        refine w_st (fun _ => rfl) ?_
        refine w_st (fun _ => rfl) ?_
        refine k_VV (as := [iv x1]) rfl mg_264 rfl rfl (by decide) rfl rfl H (fun m31 H => ?_)
        refine f_int 24 rfl rfl ?_
        refine w_st (fun _ => rfl) ?_
        refine g_284_57 rfl ?_
        refine f_int 43 rfl rfl ?_
        refine w_st (fun _ => rfl) ?_
        refine f_add rfl ?_
        refine f_ld ir_323 rfl H.1 ?_
        replace H := H.2
        refine f_mul rfl ?_
        obtain ⟨z4_46, e_z4_46⟩ : ∃ q : Int, q = (wr (24 * (rd m31 323 (Int.toNat (wr (43 + x1)))))) := ⟨_, rfl⟩
        have r_z4_46 : rg z4_46 := by rw [e_z4_46]; exact (wr_rg _)
        replace H := H z4_46 e_z4_46
        refine f_nm e_z4_46 ?_
        refine w_st (ls2 := [some (.ref 284), some (iv x1), some (iv x2), some (iv x3), some (iv z4_46), none, none, none, none]) (fun _ => rfl) ?_
        refine f_int 0 rfl rfl ?_
        refine w_st (ls2 := [some (.ref 284), some (iv x1), some (iv x2), some (iv x3), some (iv z4_46), some (iv 0), none, none, none]) (fun _ => rfl) ?_
        obtain ⟨I_51, mu_51, H0_51, HB_51⟩ := H
        have lp_51 : ∀ (z : Nat) (x5_51 : Int) (m_51 : Mm), mu_51 x5_51 m_51 < z → rg x5_51 → I_51 x5_51 m_51 → mm_W d mc_264 51 [some (.ref 284), some (iv x1), some (iv x2), some (iv x3), some (iv z4_46), some (iv x5_51), none, none, none] [] (fm m_51) (XK Q) := by
          intro z
          induction z with
          | zero => intro x5_51 m_51 hz; exact absurd hz (Nat.not_lt_zero _)
          | succ z ih_51 =>
            intro x5_51 m_51 hz_51 r_x5_51 hI
            have H := HB_51 x5_51 m_51 r_x5_51 hI
            refine w_st (fun _ => rfl) ?_
            refine w_st (fun _ => rfl) ?_
            refine k_VK (as := []) rfl mg_264 rfl rfl (by decide) rfl rfl H (fun m54 v54 r_v54 H => ?_)
            refine b_ge rfl r_x5_51 r_v54 (fun hq => ?_) (fun hq => ?_)
            · replace H := H.1 hq
              refine w_st (fun _ => rfl) ?_
              refine f_int 1 rfl rfl ?_
              refine f_sub rfl ?_
              obtain ⟨z5_84, e_z5_84⟩ : ∃ q : Int, q = (wr (x2 - 1)) := ⟨_, rfl⟩
              have r_z5_84 : rg z5_84 := by rw [e_z5_84]; exact (wr_rg _)
              replace H := H z5_84 e_z5_84
              refine f_nm e_z5_84 ?_
              refine w_st (ls2 := [some (.ref 284), some (iv x1), some (iv x2), some (iv x3), some (iv z4_46), some (iv z5_84), none, none, none]) (fun _ => rfl) ?_
              obtain ⟨I_86, mu_86, H0_86, HB_86⟩ := H
              have lp_86 : ∀ (z : Nat) (x5_86 : Int) (m_86 : Mm) (g6_86 g7_86 g8_86 : Option Value), mu_86 x5_86 m_86 < z → rg x5_86 → I_86 x5_86 m_86 → mm_W d mc_264 86 [some (.ref 284), some (iv x1), some (iv x2), some (iv x3), some (iv z4_46), some (iv x5_86), g6_86, g7_86, g8_86] [] (fm m_86) (XK Q) := by
                intro z
                induction z with
                | zero => intro x5_86 m_86 g6_86 g7_86 g8_86 hz; exact absurd hz (Nat.not_lt_zero _)
                | succ z ih_86 =>
                  intro x5_86 m_86 g6_86 g7_86 g8_86 hz_86 r_x5_86 hI
                  have H := HB_86 x5_86 m_86 r_x5_86 hI
                  refine w_st (fun _ => rfl) ?_
                  refine z_lt rfl r_x5_86 (fun hq => ?_) (fun hq => ?_)
                  · replace H := H.1 hq
                    refine w_st (fun _ => rfl) ?_
                    refine g_284_70 rfl ?_
                    refine w_st (fun _ => rfl) ?_
                    refine f_ld ir_332 rfl H.1 ?_
                    replace H := H.2
                    exact f_iret rfl (rd_rg _ _ _) H
                  · replace H := H.2 hq
                    refine w_st (fun _ => rfl) ?_
                    refine f_int 2 rfl rfl ?_
                    refine f_rmI rfl (by unfold rg; decide) (by decide) ?_
                    obtain ⟨R_103, H, HJ_103⟩ := H
                    have tl_103 : ∀ (s0_103 : Int) , rg s0_103 → R_103 s0_103 → mm_W d mc_264 103 [some (.ref 284), some (iv x1), some (iv x2), some (iv x3), some (iv z4_46), some (iv x5_86), g6_86, g7_86, g8_86] [iv s0_103] (fm m_86) (XK Q) := by
                      intro s0_103 r_s0_103 hR
                      have H := HJ_103 s0_103 r_s0_103 hR
                      refine w_st (ls2 := [some (.ref 284), some (iv x1), some (iv x2), some (iv x3), some (iv z4_46), some (iv x5_86), some (iv s0_103), g7_86, g8_86]) (fun _ => rfl) ?_
                      refine w_st (fun _ => rfl) ?_
                      obtain ⟨R_123, H, HJ_123⟩ := H
                      have tl_123 : R_123 → mm_W d mc_264 123 [some (.ref 284), some (iv x1), some (iv x2), some (iv x3), some (iv z4_46), some (iv x5_86), some (iv s0_103), g7_86, g8_86] [] (fm m_86) (XK Q) := by
                        intro   hR
                        have H := HJ_123   hR
                        refine f_int 0 rfl rfl ?_
                        refine w_st (ls2 := [some (.ref 284), some (iv x1), some (iv x2), some (iv x3), some (iv z4_46), some (iv x5_86), some (iv s0_103), some (iv 0), g8_86]) (fun _ => rfl) ?_
                        obtain ⟨I_126, mu_126, H0_126, HB_126⟩ := H
                        have lp_126 : ∀ (z : Nat) (x7_126 : Int) (m_126 : Mm) (g8_126 : Option Value), mu_126 x7_126 m_126 < z → rg x7_126 → I_126 x7_126 m_126 → mm_W d mc_264 126 [some (.ref 284), some (iv x1), some (iv x2), some (iv x3), some (iv z4_46), some (iv x5_86), some (iv s0_103), some (iv x7_126), g8_126] [] (fm m_126) (XK Q) := by
                          intro z
                          induction z with
                          | zero => intro x7_126 m_126 g8_126 hz; exact absurd hz (Nat.not_lt_zero _)
                          | succ z ih_126 =>
                            intro x7_126 m_126 g8_126 hz_126 r_x7_126 hI
                            have H := HB_126 x7_126 m_126 r_x7_126 hI
                            refine w_st (fun _ => rfl) ?_
                            refine w_st (fun _ => rfl) ?_
                            refine k_VK (as := []) rfl mg_264 rfl rfl (by decide) rfl rfl H (fun m129 v129 r_v129 H => ?_)
                            refine b_ge rfl r_x7_126 r_v129 (fun hq => ?_) (fun hq => ?_)
                            · replace H := H.1 hq
                              refine w_st (fun _ => rfl) ?_
                              refine k_VV (as := []) rfl mg_264 rfl rfl (by decide) rfl rfl H (fun m192 H => ?_)
                              obtain ⟨z5_195, e_z5_195⟩ : ∃ q : Int, q = wr (x5_86 + (-1)) := ⟨_, rfl⟩
                              have r_z5_195 : rg z5_195 := by rw [e_z5_195]; exact wr_rg _
                              replace H := H z5_195 e_z5_195
                              refine f_iinc (ls2 := [some (.ref 284), some (iv x1), some (iv x2), some (iv x3), some (iv z4_46), some (iv z5_195), some (iv s0_103), some (iv x7_126), g8_126]) (-1) rfl rfl rfl e_z5_195 rfl ?_
                              refine w_st (fun _ => rfl) ?_
                              exact ih_86 z5_195 m192 (some (iv s0_103)) (some (iv x7_126)) g8_126 (Nat.lt_of_lt_of_le H.2 (Nat.le_of_lt_succ hz_86)) r_z5_195 H.1
                            · replace H := H.2 hq
                              refine w_st (fun _ => rfl) ?_
                              refine w_st (fun _ => rfl) ?_
                              refine w_st (fun _ => rfl) ?_
                              refine k_VK (as := [iv x7_126, iv s0_103]) rfl mg_264 rfl rfl (by decide) rfl rfl H (fun m140 v140 r_v140 H => ?_)
                              refine w_st (ls2 := [some (.ref 284), some (iv x1), some (iv x2), some (iv x3), some (iv z4_46), some (iv x5_86), some (iv s0_103), some (iv x7_126), some (iv v140)]) (fun _ => rfl) ?_
                              refine w_st (fun _ => rfl) ?_
                              refine g_284_71 rfl ?_
                              refine w_st (fun _ => rfl) ?_
                              refine w_st (fun _ => rfl) ?_
                              obtain ⟨R_184, H, HJ_184⟩ := H
                              have tl_184 : ∀ (s2_184 : Int) (m_184 : Mm), rg s2_184 → R_184 s2_184 m_184 → mm_W d mc_264 184 [some (.ref 284), some (iv x1), some (iv x2), some (iv x3), some (iv z4_46), some (iv x5_86), some (iv s0_103), some (iv x7_126), some (iv v140)] [iv s2_184, iv x7_126, .ref 333] (fm m_184) (XK Q) := by
                                intro s2_184 m_184 r_s2_184 hR
                                have H := HJ_184 s2_184 m_184 r_s2_184 hR
                                obtain ⟨m184, e_m184⟩ : ∃ q : Mm, q = wt m_184 333 (Int.toNat x7_126) s2_184 := ⟨_, rfl⟩
                                refine f_st ir_333 rfl H.1 e_m184 ?_
                                replace H := H.2 m184 e_m184
                                obtain ⟨z7_185, e_z7_185⟩ : ∃ q : Int, q = wr (x7_126 + 1) := ⟨_, rfl⟩
                                have r_z7_185 : rg z7_185 := by rw [e_z7_185]; exact wr_rg _
                                replace H := H z7_185 e_z7_185
                                refine f_iinc (ls2 := [some (.ref 284), some (iv x1), some (iv x2), some (iv x3), some (iv z4_46), some (iv x5_86), some (iv s0_103), some (iv z7_185), some (iv v140)]) 1 rfl rfl rfl e_z7_185 rfl ?_
                                refine w_st (fun _ => rfl) ?_
                                exact ih_126 z7_185 m184 (some (iv v140)) (Nat.lt_of_lt_of_le H.2 (Nat.le_of_lt_succ hz_126)) r_z7_185 H.1
                              refine z_ge rfl r_v140 (fun hq => ?_) (fun hq => ?_)
                              · replace H := H.1 hq
                                refine w_st (fun _ => rfl) ?_
                                refine g_284_70 rfl ?_
                                refine w_st (fun _ => rfl) ?_
                                refine g_284_62 rfl ?_
                                refine f_int 4 rfl rfl ?_
                                refine w_st (fun _ => rfl) ?_
                                refine f_mul rfl ?_
                                refine w_st (fun _ => rfl) ?_
                                refine f_add rfl ?_
                                refine f_ld ir_325 rfl H.1 ?_
                                replace H := H.2
                                refine f_ld ir_332 rfl H.1 ?_
                                replace H := H.2
                                exact tl_184 (rd m140 332 (Int.toNat (rd m140 325 (Int.toNat (wr ((wr (4 * x7_126)) + v140)))))) m140 (rd_rg _ _ _) H
                              · replace H := H.2 hq
                                refine w_st (fun _ => rfl) ?_
                                refine w_st (fun _ => rfl) ?_
                                refine w_st (fun _ => rfl) ?_
                                refine f_int 0 rfl rfl ?_
                                refine k_VK (as := [iv x1, iv x7_126, iv 0]) rfl mg_264 rfl rfl (by decide) rfl rfl H (fun m161 v161 r_v161 H => ?_)
                                refine w_st (fun _ => rfl) ?_
                                exact tl_184 v161 m161 r_v161 H
                        exact lp_126 _ 0 m_86 g8_86 (Nat.lt_succ_self _) (by unfold rg; decide) H0_126
                      refine z_ne rfl r_x5_86 (fun hq => ?_) (fun hq => ?_)
                      · replace H := H.1 hq
                        exact tl_123   H
                      · replace H := H.2 hq
                        refine w_st (fun _ => rfl) ?_
                        refine f_int 1 rfl rfl ?_
                        refine b_ne rfl r_x3 (by unfold rg; decide) (fun hq => ?_) (fun hq => ?_)
                        · replace H := H.1 hq
                          exact tl_123   H
                        · replace H := H.2 hq
                          refine w_st (fun _ => rfl) ?_
                          refine w_st (fun _ => rfl) ?_
                          refine f_int 1 rfl rfl ?_
                          refine k_VK (as := [iv z4_46, iv 1]) rfl mg_264 rfl rfl (by decide) rfl rfl H (fun m119 v119 r_v119 H => ?_)
                          exact f_iret rfl r_v119 H
                    refine z_ne rfl (io_rg _ _ _) (fun hq => ?_) (fun hq => ?_)
                    · replace H := H.1 hq
                      refine f_int 0 rfl rfl ?_
                      exact tl_103 0 (by unfold rg; decide) H
                    · replace H := H.2 hq
                      refine f_int 1 rfl rfl ?_
                      refine w_st (fun _ => rfl) ?_
                      exact tl_103 1 (by unfold rg; decide) H
              exact lp_86 _ z5_84 m54 none none none (Nat.lt_succ_self _) r_z5_84 H0_86
            · replace H := H.2 hq
              refine w_st (fun _ => rfl) ?_
              refine g_284_70 rfl ?_
              refine w_st (fun _ => rfl) ?_
              refine w_st (fun _ => rfl) ?_
              refine w_st (fun _ => rfl) ?_
              refine w_st (fun _ => rfl) ?_
              refine f_int 0 rfl rfl ?_
              refine k_VK (as := [iv x1, iv x5_51, iv 0]) rfl mg_264 rfl rfl (by decide) rfl rfl H (fun m71 v71 r_v71 H => ?_)
              obtain ⟨m74, e_m74⟩ : ∃ q : Mm, q = wt m71 332 (Int.toNat x5_51) v71 := ⟨_, rfl⟩
              refine f_st ir_332 rfl H.1 e_m74 ?_
              replace H := H.2 m74 e_m74
              obtain ⟨z5_75, e_z5_75⟩ : ∃ q : Int, q = wr (x5_51 + 1) := ⟨_, rfl⟩
              have r_z5_75 : rg z5_75 := by rw [e_z5_75]; exact wr_rg _
              replace H := H z5_75 e_z5_75
              refine f_iinc (ls2 := [some (.ref 284), some (iv x1), some (iv x2), some (iv x3), some (iv z4_46), some (iv z5_75), none, none, none]) 1 rfl rfl rfl e_z5_75 rfl ?_
              refine w_st (fun _ => rfl) ?_
              exact ih_51 z5_75 m74 (Nat.lt_of_lt_of_le H.2 (Nat.le_of_lt_succ hz_51)) r_z5_75 H.1
        exact lp_51 _ 0 m31 (Nat.lt_succ_self _) (by unfold rg; decide) H0_51
      · replace H := H.2 hq
        exact tl_27 m21  H
/-- TippedCratesModel.tops(I)I -/
def P_265 (d : Nat) (m : Mm) (x1 : Int) (Q : Mm → Int → Prop) : Prop :=
  CK d 210 [.ref 284, iv x1] m (fun m2 v2 =>
    ((¬ v2 = 0 → CV d 249 [.ref 284, iv x1] m2 (fun m12 =>
      (∃ (I_19 : Int → Int → Mm → Prop) (mu_19 : Int → Int → Mm → Nat), I_19 0 0 m12 ∧
      ∀ (x2_19 x3_19 : Int) (m_19 : Mm), rg x2_19 → rg x3_19 → I_19 x2_19 x3_19 m_19 →
      (((rd m_19 284 67) ≤ x3_19 → Q m_19 x2_19) ∧
          (¬ (rd m_19 284 67) ≤ x3_19 → (((0 : Int) ≤ x3_19 ∧ x3_19 < 600) ∧ CK d 248 [.ref 284, iv x1, iv (rd m_19 329 (Int.toNat x3_19)), iv 0] m_19 (fun m38 v38 =>
            (∀ z2_43 : Int, z2_43 = (orI x2_19 (slI 1 v38)) → (∀ z3_44 : Int, z3_44 = wr (x3_19 + 1) → (I_19 z2_43 z3_44 m38 ∧ mu_19 z2_43 z3_44 m38 < mu_19 x2_19 x3_19 m_19)))))))))) ∧
    (v2 = 0 → Q m2 (-1))))
set_option maxRecDepth 20000 in
theorem br_265 {d : Nat} {m : Mm} {x1 : Int} {Q : Mm → Int → Prop} (r_x1 : rg x1) (H : P_265 d m x1 Q) : CK (d + 1) 265 [.ref 284, iv x1] m Q := by
  unfold P_265 at H
  refine CK_of rfl ?_
  show mm_W d mc_265 0 [some (.ref 284), some (iv x1), none, none] [] (fm m) (XK Q)
  refine w_st (fun _ => rfl) ?_
  refine w_st (fun _ => rfl) ?_
  refine k_VK (as := [iv x1]) rfl mg_265 rfl rfl (by decide) rfl rfl H (fun m2 v2 r_v2 H => ?_)
  refine z_ne rfl r_v2 (fun hq => ?_) (fun hq => ?_)
  · replace H := H.1 hq
    refine w_st (fun _ => rfl) ?_
    refine w_st (fun _ => rfl) ?_
    refine k_VV (as := [iv x1]) rfl mg_265 rfl rfl (by decide) rfl rfl H (fun m12 H => ?_)
    refine f_int 0 rfl rfl ?_
    refine w_st (ls2 := [some (.ref 284), some (iv x1), some (iv 0), none]) (fun _ => rfl) ?_
    refine f_int 0 rfl rfl ?_
    refine w_st (ls2 := [some (.ref 284), some (iv x1), some (iv 0), some (iv 0)]) (fun _ => rfl) ?_
    obtain ⟨I_19, mu_19, H0_19, HB_19⟩ := H
    have lp_19 : ∀ (z : Nat) (x2_19 x3_19 : Int) (m_19 : Mm), mu_19 x2_19 x3_19 m_19 < z → rg x2_19 → rg x3_19 → I_19 x2_19 x3_19 m_19 → mm_W d mc_265 19 [some (.ref 284), some (iv x1), some (iv x2_19), some (iv x3_19)] [] (fm m_19) (XK Q) := by
      intro z
      induction z with
      | zero => intro x2_19 x3_19 m_19 hz; exact absurd hz (Nat.not_lt_zero _)
      | succ z ih_19 =>
        intro x2_19 x3_19 m_19 hz_19 r_x2_19 r_x3_19 hI
        have H := HB_19 x2_19 x3_19 m_19 r_x2_19 r_x3_19 hI
        refine w_st (fun _ => rfl) ?_
        refine w_st (fun _ => rfl) ?_
        refine g_284_67 rfl ?_
        refine b_ge rfl r_x3_19 (rd_rg _ _ _) (fun hq => ?_) (fun hq => ?_)
        · replace H := H.1 hq
          refine w_st (fun _ => rfl) ?_
          exact f_iret rfl r_x2_19 H
        · replace H := H.2 hq
          refine w_st (fun _ => rfl) ?_
          refine f_int 1 rfl rfl ?_
          refine w_st (fun _ => rfl) ?_
          refine w_st (fun _ => rfl) ?_
          refine w_st (fun _ => rfl) ?_
          refine g_284_66 rfl ?_
          refine w_st (fun _ => rfl) ?_
          refine f_ld ir_329 rfl H.1 ?_
          replace H := H.2
          refine f_int 0 rfl rfl ?_
          refine k_VK (as := [iv x1, iv (rd m_19 329 (Int.toNat x3_19)), iv 0]) rfl mg_265 rfl rfl (by decide) rfl rfl H (fun m38 v38 r_v38 H => ?_)
          refine f_slI rfl ?_
          refine f_orI rfl ?_
          obtain ⟨z2_43, e_z2_43⟩ : ∃ q : Int, q = (orI x2_19 (slI 1 v38)) := ⟨_, rfl⟩
          have r_z2_43 : rg z2_43 := by rw [e_z2_43]; exact (io_rg _ _ _)
          replace H := H z2_43 e_z2_43
          refine f_nm e_z2_43 ?_
          refine w_st (ls2 := [some (.ref 284), some (iv x1), some (iv z2_43), some (iv x3_19)]) (fun _ => rfl) ?_
          obtain ⟨z3_44, e_z3_44⟩ : ∃ q : Int, q = wr (x3_19 + 1) := ⟨_, rfl⟩
          have r_z3_44 : rg z3_44 := by rw [e_z3_44]; exact wr_rg _
          replace H := H z3_44 e_z3_44
          refine f_iinc (ls2 := [some (.ref 284), some (iv x1), some (iv z2_43), some (iv z3_44)]) 1 rfl rfl rfl e_z3_44 rfl ?_
          refine w_st (fun _ => rfl) ?_
          exact ih_19 z2_43 z3_44 m38 (Nat.lt_of_lt_of_le H.2 (Nat.le_of_lt_succ hz_19)) r_z2_43 r_z3_44 H.1
    exact lp_19 _ 0 0 m12 (Nat.lt_succ_self _) (by unfold rg; decide) (by unfold rg; decide) H0_19
  · replace H := H.2 hq
    refine f_int (-1) rfl rfl ?_
    exact f_iret rfl (by unfold rg; decide) H
/-- TippedCratesModel.areBeside(II)Z -/
def P_266 (d : Nat) (m : Mm) (x1 : Int) (x2 : Int) (Q : Mm → Int → Prop) : Prop :=
  (∃ (I_2 : Int → Mm → Prop) (mu_2 : Int → Mm → Nat), I_2 0 m ∧
    ∀ (x3_2 : Int) (m_2 : Mm), rg x3_2 → I_2 x3_2 m_2 →
    ((4 ≤ x3_2 → Q m_2 0) ∧
        (¬ 4 ≤ x3_2 → CK d 221 [.ref 284, iv x1, iv x3_2] m_2 (fun m10 v10 =>
          ((¬ v10 = x2 → (∀ z3_19 : Int, z3_19 = wr (x3_2 + 1) → (I_2 z3_19 m10 ∧ mu_2 z3_19 m10 < mu_2 x3_2 m_2))) ∧
          (v10 = x2 → Q m10 1))))))
set_option maxRecDepth 20000 in
theorem br_266 {d : Nat} {m : Mm} {x1 : Int} {x2 : Int} {Q : Mm → Int → Prop} (r_x1 : rg x1) (r_x2 : rg x2) (H : P_266 d m x1 x2 Q) : CK (d + 1) 266 [.ref 284, iv x1, iv x2] m Q := by
  unfold P_266 at H
  refine CK_of rfl ?_
  show mm_W d mc_266 0 [some (.ref 284), some (iv x1), some (iv x2), none] [] (fm m) (XK Q)
  refine f_int 0 rfl rfl ?_
  refine w_st (ls2 := [some (.ref 284), some (iv x1), some (iv x2), some (iv 0)]) (fun _ => rfl) ?_
  obtain ⟨I_2, mu_2, H0_2, HB_2⟩ := H
  have lp_2 : ∀ (z : Nat) (x3_2 : Int) (m_2 : Mm), mu_2 x3_2 m_2 < z → rg x3_2 → I_2 x3_2 m_2 → mm_W d mc_266 2 [some (.ref 284), some (iv x1), some (iv x2), some (iv x3_2)] [] (fm m_2) (XK Q) := by
    intro z
    induction z with
    | zero => intro x3_2 m_2 hz; exact absurd hz (Nat.not_lt_zero _)
    | succ z ih_2 =>
      intro x3_2 m_2 hz_2 r_x3_2 hI
      have H := HB_2 x3_2 m_2 r_x3_2 hI
      refine w_st (fun _ => rfl) ?_
      refine f_int 4 rfl rfl ?_
      refine b_ge rfl r_x3_2 (by unfold rg; decide) (fun hq => ?_) (fun hq => ?_)
      · replace H := H.1 hq
        refine f_int 0 rfl rfl ?_
        exact f_zret rfl (by unfold rg; decide) (Or.inl rfl) H
      · replace H := H.2 hq
        refine w_st (fun _ => rfl) ?_
        refine w_st (fun _ => rfl) ?_
        refine w_st (fun _ => rfl) ?_
        refine k_VK (as := [iv x1, iv x3_2]) rfl mg_266 rfl rfl (by decide) rfl rfl H (fun m10 v10 r_v10 H => ?_)
        refine w_st (fun _ => rfl) ?_
        refine b_ne rfl r_v10 r_x2 (fun hq => ?_) (fun hq => ?_)
        · replace H := H.1 hq
          obtain ⟨z3_19, e_z3_19⟩ : ∃ q : Int, q = wr (x3_2 + 1) := ⟨_, rfl⟩
          have r_z3_19 : rg z3_19 := by rw [e_z3_19]; exact wr_rg _
          replace H := H z3_19 e_z3_19
          refine f_iinc (ls2 := [some (.ref 284), some (iv x1), some (iv x2), some (iv z3_19)]) 1 rfl rfl rfl e_z3_19 rfl ?_
          refine w_st (fun _ => rfl) ?_
          exact ih_2 z3_19 m10 (Nat.lt_of_lt_of_le H.2 (Nat.le_of_lt_succ hz_2)) r_z3_19 H.1
        · replace H := H.2 hq
          refine f_int 1 rfl rfl ?_
          exact f_zret rfl (by unfold rg; decide) (Or.inr rfl) H
  exact lp_2 _ 0 m (Nat.lt_succ_self _) (by unfold rg; decide) H0_2
/-- TippedCratesModel.beside(II)I -/
def P_267 (d : Nat) (m : Mm) (x1 : Int) (x2 : Int) (Q : Mm → Int → Prop) : Prop :=
  CK d 210 [.ref 284, iv x1] m (fun m2 v2 =>
    (∃ R_21 : Mm → Prop,
    ((v2 = 0 → R_21 m2) ∧
    (¬ v2 = 0 → CK d 210 [.ref 284, iv x2] m2 (fun m10 v10 =>
      ((v10 = 0 → R_21 m10) ∧
      (¬ v10 = 0 → ((¬ x1 = x2 → CV d 249 [.ref 284, iv x1] m10 (fun m25 =>
          (∃ (I_30 : Int → Mm → Prop) (mu_30 : Int → Mm → Nat), I_30 0 m25 ∧
          ∀ (x3_30 : Int) (m_30 : Mm), rg x3_30 → I_30 x3_30 m_30 →
          (((rd m_30 284 67) ≤ x3_30 → Q m_30 (-2)) ∧
              (¬ (rd m_30 284 67) ≤ x3_30 → (((0 : Int) ≤ x3_30 ∧ x3_30 < 600) ∧ (((0 : Int) ≤ (wr (43 + x2)) ∧ (wr (43 + x2)) < 51) ∧ CK d 266 [.ref 284, iv (dvI (rd m_30 329 (Int.toNat x3_30)) 24), iv (rd m_30 323 (Int.toNat (wr (43 + x2))))] m_30 (fun m57 v57 =>
                ((v57 = 0 → (∀ z3_75 : Int, z3_75 = wr (x3_30 + 1) → (I_30 z3_75 m57 ∧ mu_30 z3_75 m57 < mu_30 x3_30 m_30))) ∧
                (¬ v57 = 0 → (((0 : Int) ≤ x3_30 ∧ x3_30 < 600) ∧ (((0 : Int) ≤ (rd m57 329 (Int.toNat x3_30)) ∧ (rd m57 329 (Int.toNat x3_30)) < 600) ∧ Q m57 (rd m57 326 (Int.toNat (rd m57 329 (Int.toNat x3_30)))))))))))))))) ∧
        (x1 = x2 → R_21 m10))))))) ∧
    (∀ (m_21 : Mm), R_21 m_21 →
    Q m_21 (-1))))
set_option maxRecDepth 20000 in
theorem br_267 {d : Nat} {m : Mm} {x1 : Int} {x2 : Int} {Q : Mm → Int → Prop} (r_x1 : rg x1) (r_x2 : rg x2) (H : P_267 d m x1 x2 Q) : CK (d + 1) 267 [.ref 284, iv x1, iv x2] m Q := by
  unfold P_267 at H
  refine CK_of rfl ?_
  show mm_W d mc_267 0 [some (.ref 284), some (iv x1), some (iv x2), none] [] (fm m) (XK Q)
  refine w_st (fun _ => rfl) ?_
  refine w_st (fun _ => rfl) ?_
  refine k_VK (as := [iv x1]) rfl mg_267 rfl rfl (by decide) rfl rfl H (fun m2 v2 r_v2 H => ?_)
  obtain ⟨R_21, H, HJ_21⟩ := H
  have tl_21 : ∀ (m_21 : Mm), R_21 m_21 → mm_W d mc_267 21 [some (.ref 284), some (iv x1), some (iv x2), none] [] (fm m_21) (XK Q) := by
    intro m_21  hR
    have H := HJ_21 m_21  hR
    refine f_int (-1) rfl rfl ?_
    exact f_iret rfl (by unfold rg; decide) H
  refine z_eq rfl r_v2 (fun hq => ?_) (fun hq => ?_)
  · replace H := H.1 hq
    exact tl_21 m2  H
  · replace H := H.2 hq
    refine w_st (fun _ => rfl) ?_
    refine w_st (fun _ => rfl) ?_
    refine k_VK (as := [iv x2]) rfl mg_267 rfl rfl (by decide) rfl rfl H (fun m10 v10 r_v10 H => ?_)
    refine z_eq rfl r_v10 (fun hq => ?_) (fun hq => ?_)
    · replace H := H.1 hq
      exact tl_21 m10  H
    · replace H := H.2 hq
      refine w_st (fun _ => rfl) ?_
      refine w_st (fun _ => rfl) ?_
      refine b_ne rfl r_x1 r_x2 (fun hq => ?_) (fun hq => ?_)
      · replace H := H.1 hq
        refine w_st (fun _ => rfl) ?_
        refine w_st (fun _ => rfl) ?_
        refine k_VV (as := [iv x1]) rfl mg_267 rfl rfl (by decide) rfl rfl H (fun m25 H => ?_)
        refine f_int 0 rfl rfl ?_
        refine w_st (ls2 := [some (.ref 284), some (iv x1), some (iv x2), some (iv 0)]) (fun _ => rfl) ?_
        obtain ⟨I_30, mu_30, H0_30, HB_30⟩ := H
        have lp_30 : ∀ (z : Nat) (x3_30 : Int) (m_30 : Mm), mu_30 x3_30 m_30 < z → rg x3_30 → I_30 x3_30 m_30 → mm_W d mc_267 30 [some (.ref 284), some (iv x1), some (iv x2), some (iv x3_30)] [] (fm m_30) (XK Q) := by
          intro z
          induction z with
          | zero => intro x3_30 m_30 hz; exact absurd hz (Nat.not_lt_zero _)
          | succ z ih_30 =>
            intro x3_30 m_30 hz_30 r_x3_30 hI
            have H := HB_30 x3_30 m_30 r_x3_30 hI
            refine w_st (fun _ => rfl) ?_
            refine w_st (fun _ => rfl) ?_
            refine g_284_67 rfl ?_
            refine b_ge rfl r_x3_30 (rd_rg _ _ _) (fun hq => ?_) (fun hq => ?_)
            · replace H := H.1 hq
              refine f_int (-2) rfl rfl ?_
              exact f_iret rfl (by unfold rg; decide) H
            · replace H := H.2 hq
              refine w_st (fun _ => rfl) ?_
              refine w_st (fun _ => rfl) ?_
              refine g_284_66 rfl ?_
              refine w_st (fun _ => rfl) ?_
              refine f_ld ir_329 rfl H.1 ?_
              replace H := H.2
              refine f_int 24 rfl rfl ?_
              refine f_dvI rfl (by unfold rg; decide) (by decide) ?_
              refine w_st (fun _ => rfl) ?_
              refine g_284_57 rfl ?_
              refine f_int 43 rfl rfl ?_
              refine w_st (fun _ => rfl) ?_
              refine f_add rfl ?_
              refine f_ld ir_323 rfl H.1 ?_
              replace H := H.2
              refine k_VK (as := [iv (dvI (rd m_30 329 (Int.toNat x3_30)) 24), iv (rd m_30 323 (Int.toNat (wr (43 + x2))))]) rfl mg_267 rfl rfl (by decide) rfl rfl H (fun m57 v57 r_v57 H => ?_)
              refine z_eq rfl r_v57 (fun hq => ?_) (fun hq => ?_)
              · replace H := H.1 hq
                obtain ⟨z3_75, e_z3_75⟩ : ∃ q : Int, q = wr (x3_30 + 1) := ⟨_, rfl⟩
                have r_z3_75 : rg z3_75 := by rw [e_z3_75]; exact wr_rg _
                replace H := H z3_75 e_z3_75
                refine f_iinc (ls2 := [some (.ref 284), some (iv x1), some (iv x2), some (iv z3_75)]) 1 rfl rfl rfl e_z3_75 rfl ?_
                refine w_st (fun _ => rfl) ?_
                exact ih_30 z3_75 m57 (Nat.lt_of_lt_of_le H.2 (Nat.le_of_lt_succ hz_30)) r_z3_75 H.1
              · replace H := H.2 hq
                refine w_st (fun _ => rfl) ?_
                refine g_284_63 rfl ?_
                refine w_st (fun _ => rfl) ?_
                refine g_284_66 rfl ?_
                refine w_st (fun _ => rfl) ?_
                refine f_ld ir_329 rfl H.1 ?_
                replace H := H.2
                refine f_ld ir_326 rfl H.1 ?_
                replace H := H.2
                exact f_iret rfl (rd_rg _ _ _) H
        exact lp_30 _ 0 m25 (Nat.lt_succ_self _) (by unfold rg; decide) H0_30
      · replace H := H.2 hq
        exact tl_21 m10  H
/-- TippedCratesModel.isAs(II)Z -/
def P_268 (d : Nat) (m : Mm) (x1 : Int) (x2 : Int) (Q : Mm → Int → Prop) : Prop :=
  (∃ (I_2 : Int → Mm → Prop) (mu_2 : Int → Mm → Nat), I_2 0 m ∧
    ∀ (x3_2 : Int) (m_2 : Mm), rg x3_2 → I_2 x3_2 m_2 →
    ((6 ≤ x3_2 → Q m_2 1) ∧
        (¬ 6 ≤ x3_2 → CK d 227 [.ref 284, iv x1, iv x2, iv x3_2] m_2 (fun m12 v12 =>
          (((0 : Int) ≤ x3_2 ∧ x3_2 < 6) ∧ ((v12 = (rd m12 321 (Int.toNat x3_2)) → (∀ z3_26 : Int, z3_26 = wr (x3_2 + 1) → (I_2 z3_26 m12 ∧ mu_2 z3_26 m12 < mu_2 x3_2 m_2))) ∧
          (¬ v12 = (rd m12 321 (Int.toNat x3_2)) → Q m12 0)))))))
set_option maxRecDepth 20000 in
theorem br_268 {d : Nat} {m : Mm} {x1 : Int} {x2 : Int} {Q : Mm → Int → Prop} (r_x1 : rg x1) (r_x2 : rg x2) (H : P_268 d m x1 x2 Q) : CK (d + 1) 268 [.ref 284, iv x1, iv x2] m Q := by
  unfold P_268 at H
  refine CK_of rfl ?_
  show mm_W d mc_268 0 [some (.ref 284), some (iv x1), some (iv x2), none] [] (fm m) (XK Q)
  refine f_int 0 rfl rfl ?_
  refine w_st (ls2 := [some (.ref 284), some (iv x1), some (iv x2), some (iv 0)]) (fun _ => rfl) ?_
  obtain ⟨I_2, mu_2, H0_2, HB_2⟩ := H
  have lp_2 : ∀ (z : Nat) (x3_2 : Int) (m_2 : Mm), mu_2 x3_2 m_2 < z → rg x3_2 → I_2 x3_2 m_2 → mm_W d mc_268 2 [some (.ref 284), some (iv x1), some (iv x2), some (iv x3_2)] [] (fm m_2) (XK Q) := by
    intro z
    induction z with
    | zero => intro x3_2 m_2 hz; exact absurd hz (Nat.not_lt_zero _)
    | succ z ih_2 =>
      intro x3_2 m_2 hz_2 r_x3_2 hI
      have H := HB_2 x3_2 m_2 r_x3_2 hI
      refine w_st (fun _ => rfl) ?_
      refine f_int 6 rfl rfl ?_
      refine b_ge rfl r_x3_2 (by unfold rg; decide) (fun hq => ?_) (fun hq => ?_)
      · replace H := H.1 hq
        refine f_int 1 rfl rfl ?_
        exact f_zret rfl (by unfold rg; decide) (Or.inr rfl) H
      · replace H := H.2 hq
        refine w_st (fun _ => rfl) ?_
        refine w_st (fun _ => rfl) ?_
        refine w_st (fun _ => rfl) ?_
        refine w_st (fun _ => rfl) ?_
        refine k_VK (as := [iv x1, iv x2, iv x3_2]) rfl mg_268 rfl rfl (by decide) rfl rfl H (fun m12 v12 r_v12 H => ?_)
        refine w_st (fun _ => rfl) ?_
        refine g_284_54 rfl ?_
        refine w_st (fun _ => rfl) ?_
        refine f_ld ir_321 rfl H.1 ?_
        replace H := H.2
        refine b_eq rfl r_v12 (rd_rg _ _ _) (fun hq => ?_) (fun hq => ?_)
        · replace H := H.1 hq
          obtain ⟨z3_26, e_z3_26⟩ : ∃ q : Int, q = wr (x3_2 + 1) := ⟨_, rfl⟩
          have r_z3_26 : rg z3_26 := by rw [e_z3_26]; exact wr_rg _
          replace H := H z3_26 e_z3_26
          refine f_iinc (ls2 := [some (.ref 284), some (iv x1), some (iv x2), some (iv z3_26)]) 1 rfl rfl rfl e_z3_26 rfl ?_
          refine w_st (fun _ => rfl) ?_
          exact ih_2 z3_26 m12 (Nat.lt_of_lt_of_le H.2 (Nat.le_of_lt_succ hz_2)) r_z3_26 H.1
        · replace H := H.2 hq
          refine f_int 0 rfl rfl ?_
          exact f_zret rfl (by unfold rg; decide) (Or.inl rfl) H
  exact lp_2 _ 0 m (Nat.lt_succ_self _) (by unfold rg; decide) H0_2
/-- TippedCratesModel.isAny(I)Z -/
def P_269 (d : Nat) (m : Mm) (x1 : Int) (Q : Mm → Int → Prop) : Prop :=
  (∃ (I_2 : Int → Mm → Prop) (mu_2 : Int → Mm → Nat), I_2 0 m ∧
    ∀ (x2_2 : Int) (m_2 : Mm), rg x2_2 → I_2 x2_2 m_2 →
    ((24 ≤ x2_2 → Q m_2 0) ∧
        (¬ 24 ≤ x2_2 → CK d 268 [.ref 284, iv x1, iv x2_2] m_2 (fun m11 v11 =>
          ((v11 = 0 → (∀ z2_19 : Int, z2_19 = wr (x2_2 + 1) → (I_2 z2_19 m11 ∧ mu_2 z2_19 m11 < mu_2 x2_2 m_2))) ∧
          (¬ v11 = 0 → Q m11 1))))))
set_option maxRecDepth 20000 in
theorem br_269 {d : Nat} {m : Mm} {x1 : Int} {Q : Mm → Int → Prop} (r_x1 : rg x1) (H : P_269 d m x1 Q) : CK (d + 1) 269 [.ref 284, iv x1] m Q := by
  unfold P_269 at H
  refine CK_of rfl ?_
  show mm_W d mc_269 0 [some (.ref 284), some (iv x1), none] [] (fm m) (XK Q)
  refine f_int 0 rfl rfl ?_
  refine w_st (ls2 := [some (.ref 284), some (iv x1), some (iv 0)]) (fun _ => rfl) ?_
  obtain ⟨I_2, mu_2, H0_2, HB_2⟩ := H
  have lp_2 : ∀ (z : Nat) (x2_2 : Int) (m_2 : Mm), mu_2 x2_2 m_2 < z → rg x2_2 → I_2 x2_2 m_2 → mm_W d mc_269 2 [some (.ref 284), some (iv x1), some (iv x2_2)] [] (fm m_2) (XK Q) := by
    intro z
    induction z with
    | zero => intro x2_2 m_2 hz; exact absurd hz (Nat.not_lt_zero _)
    | succ z ih_2 =>
      intro x2_2 m_2 hz_2 r_x2_2 hI
      have H := HB_2 x2_2 m_2 r_x2_2 hI
      refine w_st (fun _ => rfl) ?_
      refine f_int 24 rfl rfl ?_
      refine b_ge rfl r_x2_2 (by unfold rg; decide) (fun hq => ?_) (fun hq => ?_)
      · replace H := H.1 hq
        refine f_int 0 rfl rfl ?_
        exact f_zret rfl (by unfold rg; decide) (Or.inl rfl) H
      · replace H := H.2 hq
        refine w_st (fun _ => rfl) ?_
        refine w_st (fun _ => rfl) ?_
        refine w_st (fun _ => rfl) ?_
        refine k_VK (as := [iv x1, iv x2_2]) rfl mg_269 rfl rfl (by decide) rfl rfl H (fun m11 v11 r_v11 H => ?_)
        refine z_eq rfl r_v11 (fun hq => ?_) (fun hq => ?_)
        · replace H := H.1 hq
          obtain ⟨z2_19, e_z2_19⟩ : ∃ q : Int, q = wr (x2_2 + 1) := ⟨_, rfl⟩
          have r_z2_19 : rg z2_19 := by rw [e_z2_19]; exact wr_rg _
          replace H := H z2_19 e_z2_19
          refine f_iinc (ls2 := [some (.ref 284), some (iv x1), some (iv z2_19)]) 1 rfl rfl rfl e_z2_19 rfl ?_
          refine w_st (fun _ => rfl) ?_
          exact ih_2 z2_19 m11 (Nat.lt_of_lt_of_le H.2 (Nat.le_of_lt_succ hz_2)) r_z2_19 H.1
        · replace H := H.2 hq
          refine f_int 1 rfl rfl ?_
          exact f_zret rfl (by unfold rg; decide) (Or.inr rfl) H
  exact lp_2 _ 0 m (Nat.lt_succ_self _) (by unfold rg; decide) H0_2
/-- TippedCratesModel.alike(II)I -/
def P_270 (d : Nat) (m : Mm) (x1 : Int) (x2 : Int) (Q : Mm → Int → Prop) : Prop :=
  CK d 210 [.ref 284, iv x1] m (fun m2 v2 =>
    (∃ R_16 : Mm → Prop,
    ((v2 = 0 → R_16 m2) ∧
    (¬ v2 = 0 → CK d 210 [.ref 284, iv x2] m2 (fun m10 v10 =>
      ((¬ v10 = 0 → CV d 216 [.ref 284] m10 (fun m19 =>
        (∃ (I_24 : Int → Mm → Prop) (mu_24 : Int → Mm → Nat), I_24 0 m19 ∧
        ∀ (x3_24 : Int) (m_24 : Mm), rg x3_24 → I_24 x3_24 m_24 →
        ((6 ≤ x3_24 → CK d 269 [.ref 284, iv x1] m_24 (fun m51 v51 =>
              (∃ R_62 : Int → Prop,
              ((v51 = 0 → R_62 0) ∧
              (¬ v51 = 0 → R_62 1)) ∧
              (∀ (s0_62 : Int) , rg s0_62 → R_62 s0_62 →
              Q m51 s0_62)))) ∧
            (¬ 6 ≤ x3_24 → CK d 227 [.ref 284, iv x2, iv 0, iv x3_24] m_24 (fun m39 v39 =>
              (((0 : Int) ≤ x3_24 ∧ x3_24 < 6) ∧ (∀ m42 : Mm, m42 = wt m39 321 (Int.toNat x3_24) v39 → (∀ z3_43 : Int, z3_43 = wr (x3_24 + 1) → (I_24 z3_43 m42 ∧ mu_24 z3_43 m42 < mu_24 x3_24 m_24)))))))))) ∧
      (v10 = 0 → R_16 m10))))) ∧
    (∀ (m_16 : Mm), R_16 m_16 →
    Q m_16 (-1))))
set_option maxRecDepth 20000 in
theorem br_270 {d : Nat} {m : Mm} {x1 : Int} {x2 : Int} {Q : Mm → Int → Prop} (r_x1 : rg x1) (r_x2 : rg x2) (H : P_270 d m x1 x2 Q) : CK (d + 1) 270 [.ref 284, iv x1, iv x2] m Q := by
  unfold P_270 at H
  refine CK_of rfl ?_
  show mm_W d mc_270 0 [some (.ref 284), some (iv x1), some (iv x2), none] [] (fm m) (XK Q)
  refine w_st (fun _ => rfl) ?_
  refine w_st (fun _ => rfl) ?_
  refine k_VK (as := [iv x1]) rfl mg_270 rfl rfl (by decide) rfl rfl H (fun m2 v2 r_v2 H => ?_)
  obtain ⟨R_16, H, HJ_16⟩ := H
  have tl_16 : ∀ (m_16 : Mm), R_16 m_16 → mm_W d mc_270 16 [some (.ref 284), some (iv x1), some (iv x2), none] [] (fm m_16) (XK Q) := by
    intro m_16  hR
    have H := HJ_16 m_16  hR
    refine f_int (-1) rfl rfl ?_
    exact f_iret rfl (by unfold rg; decide) H
  refine z_eq rfl r_v2 (fun hq => ?_) (fun hq => ?_)
  · replace H := H.1 hq
    exact tl_16 m2  H
  · replace H := H.2 hq
    refine w_st (fun _ => rfl) ?_
    refine w_st (fun _ => rfl) ?_
    refine k_VK (as := [iv x2]) rfl mg_270 rfl rfl (by decide) rfl rfl H (fun m10 v10 r_v10 H => ?_)
    refine z_ne rfl r_v10 (fun hq => ?_) (fun hq => ?_)
    · replace H := H.1 hq
      refine w_st (fun _ => rfl) ?_
      refine k_VV (as := []) rfl mg_270 rfl rfl (by decide) rfl rfl H (fun m19 H => ?_)
      refine f_int 0 rfl rfl ?_
      refine w_st (ls2 := [some (.ref 284), some (iv x1), some (iv x2), some (iv 0)]) (fun _ => rfl) ?_
      obtain ⟨I_24, mu_24, H0_24, HB_24⟩ := H
      have lp_24 : ∀ (z : Nat) (x3_24 : Int) (m_24 : Mm), mu_24 x3_24 m_24 < z → rg x3_24 → I_24 x3_24 m_24 → mm_W d mc_270 24 [some (.ref 284), some (iv x1), some (iv x2), some (iv x3_24)] [] (fm m_24) (XK Q) := by
        intro z
        induction z with
        | zero => intro x3_24 m_24 hz; exact absurd hz (Nat.not_lt_zero _)
        | succ z ih_24 =>
          intro x3_24 m_24 hz_24 r_x3_24 hI
          have H := HB_24 x3_24 m_24 r_x3_24 hI
          refine w_st (fun _ => rfl) ?_
          refine f_int 6 rfl rfl ?_
          refine b_ge rfl r_x3_24 (by unfold rg; decide) (fun hq => ?_) (fun hq => ?_)
          · replace H := H.1 hq
            refine w_st (fun _ => rfl) ?_
            refine w_st (fun _ => rfl) ?_
            refine k_VK (as := [iv x1]) rfl mg_270 rfl rfl (by decide) rfl rfl H (fun m51 v51 r_v51 H => ?_)
            obtain ⟨R_62, H, HJ_62⟩ := H
            have tl_62 : ∀ (s0_62 : Int) , rg s0_62 → R_62 s0_62 → mm_W d mc_270 62 [some (.ref 284), some (iv x1), some (iv x2), some (iv x3_24)] [iv s0_62] (fm m51) (XK Q) := by
              intro s0_62 r_s0_62 hR
              have H := HJ_62 s0_62 r_s0_62 hR
              exact f_iret rfl r_s0_62 H
            refine z_eq rfl r_v51 (fun hq => ?_) (fun hq => ?_)
            · replace H := H.1 hq
              refine f_int 0 rfl rfl ?_
              exact tl_62 0 (by unfold rg; decide) H
            · replace H := H.2 hq
              refine f_int 1 rfl rfl ?_
              refine w_st (fun _ => rfl) ?_
              exact tl_62 1 (by unfold rg; decide) H
          · replace H := H.2 hq
            refine w_st (fun _ => rfl) ?_
            refine g_284_54 rfl ?_
            refine w_st (fun _ => rfl) ?_
            refine w_st (fun _ => rfl) ?_
            refine w_st (fun _ => rfl) ?_
            refine f_int 0 rfl rfl ?_
            refine w_st (fun _ => rfl) ?_
            refine k_VK (as := [iv x2, iv 0, iv x3_24]) rfl mg_270 rfl rfl (by decide) rfl rfl H (fun m39 v39 r_v39 H => ?_)
            obtain ⟨m42, e_m42⟩ : ∃ q : Mm, q = wt m39 321 (Int.toNat x3_24) v39 := ⟨_, rfl⟩
            refine f_st ir_321 rfl H.1 e_m42 ?_
            replace H := H.2 m42 e_m42
            obtain ⟨z3_43, e_z3_43⟩ : ∃ q : Int, q = wr (x3_24 + 1) := ⟨_, rfl⟩
            have r_z3_43 : rg z3_43 := by rw [e_z3_43]; exact wr_rg _
            replace H := H z3_43 e_z3_43
            refine f_iinc (ls2 := [some (.ref 284), some (iv x1), some (iv x2), some (iv z3_43)]) 1 rfl rfl rfl e_z3_43 rfl ?_
            refine w_st (fun _ => rfl) ?_
            exact ih_24 z3_43 m42 (Nat.lt_of_lt_of_le H.2 (Nat.le_of_lt_succ hz_24)) r_z3_43 H.1
      exact lp_24 _ 0 m19 (Nat.lt_succ_self _) (by unfold rg; decide) H0_24
    · replace H := H.2 hq
      exact tl_16 m10  H
/-- TippedCratesModel.looks(I)I -/
def P_271 (d : Nat) (m : Mm) (x1 : Int) (Q : Mm → Int → Prop) : Prop :=
  CK d 210 [.ref 284, iv x1] m (fun m2 v2 =>
    ((¬ v2 = 0 → CV d 216 [.ref 284] m2 (fun m11 =>
      (∃ (I_18 : Int → Int → Mm → Prop) (mu_18 : Int → Int → Mm → Nat), I_18 0 0 m11 ∧
      ∀ (x2_18 x3_18 : Int) (m_18 : Mm), rg x2_18 → rg x3_18 → I_18 x2_18 x3_18 m_18 →
      ((24 ≤ x3_18 → Q m_18 x2_18) ∧
          (¬ 24 ≤ x3_18 → (∃ (I_27 : Int → Mm → Prop) (mu_27 : Int → Mm → Nat), I_27 0 m_18 ∧
            ∀ (x4_27 : Int) (m_27 : Mm), rg x4_27 → I_27 x4_27 m_27 →
            ((6 ≤ x4_27 → (∃ (I_61 : Int → Int → Mm → Prop) (mu_61 : Int → Int → Mm → Nat), I_61 1 0 m_27 ∧
                  ∀ (x4_61 x5_61 : Int) (m_61 : Mm), rg x4_61 → rg x5_61 → I_61 x4_61 x5_61 m_61 →
                  ((x3_18 ≤ x5_61 → (∃ R_94 : Int → Prop,
                        ((x4_61 = 0 → R_94 x2_18) ∧
                        (¬ x4_61 = 0 → (∀ z2_91 : Int, z2_91 = wr (x2_18 + 1) → R_94 z2_91))) ∧
                        (∀ (y2_94 : Int) , rg y2_94 → R_94 y2_94 →
                        (∀ z3_94 : Int, z3_94 = wr (x3_18 + 1) → (I_18 y2_94 z3_94 m_61 ∧ mu_18 y2_94 z3_94 m_61 < mu_18 x2_18 x3_18 m_18))))) ∧
                      (¬ x3_18 ≤ x5_61 → CK d 268 [.ref 284, iv x1, iv x5_61] m_61 (fun m71 v71 =>
                        (∃ R_80 : Int → Prop,
                        ((v71 = 0 → R_80 x4_61) ∧
                        (¬ v71 = 0 → R_80 0)) ∧
                        (∀ (y4_80 : Int) , rg y4_80 → R_80 y4_80 →
                        (∀ z5_80 : Int, z5_80 = wr (x5_61 + 1) → (I_61 y4_80 z5_80 m71 ∧ mu_61 y4_80 z5_80 m71 < mu_61 x4_61 x5_61 m_61))))))))) ∧
                (¬ 6 ≤ x4_27 → CK d 227 [.ref 284, iv x1, iv x3_18, iv x4_27] m_27 (fun m45 v45 =>
                  (((0 : Int) ≤ x4_27 ∧ x4_27 < 6) ∧ (∀ m48 : Mm, m48 = wt m45 321 (Int.toNat x4_27) v45 → (∀ z4_49 : Int, z4_49 = wr (x4_27 + 1) → (I_27 z4_49 m48 ∧ mu_27 z4_49 m48 < mu_27 x4_27 m_27))))))))))))) ∧
    (v2 = 0 → Q m2 (-1))))
set_option maxRecDepth 20000 in
theorem br_271 {d : Nat} {m : Mm} {x1 : Int} {Q : Mm → Int → Prop} (r_x1 : rg x1) (H : P_271 d m x1 Q) : CK (d + 1) 271 [.ref 284, iv x1] m Q := by
  unfold P_271 at H
  refine CK_of rfl ?_
  show mm_W d mc_271 0 [some (.ref 284), some (iv x1), none, none, none, none] [] (fm m) (XK Q)
  refine w_st (fun _ => rfl) ?_
  refine w_st (fun _ => rfl) ?_
  refine k_VK (as := [iv x1]) rfl mg_271 rfl rfl (by decide) rfl rfl H (fun m2 v2 r_v2 H => ?_)
  refine z_ne rfl r_v2 (fun hq => ?_) (fun hq => ?_)
  · replace H := H.1 hq
    refine w_st (fun _ => rfl) ?_
    refine k_VV (as := []) rfl mg_271 rfl rfl (by decide) rfl rfl H (fun m11 H => ?_)
    refine f_int 0 rfl rfl ?_
    refine w_st (ls2 := [some (.ref 284), some (iv x1), some (iv 0), none, none, none]) (fun _ => rfl) ?_
    refine f_int 0 rfl rfl ?_
    refine w_st (ls2 := [some (.ref 284), some (iv x1), some (iv 0), some (iv 0), none, none]) (fun _ => rfl) ?_
    obtain ⟨I_18, mu_18, H0_18, HB_18⟩ := H
    have lp_18 : ∀ (z : Nat) (x2_18 x3_18 : Int) (m_18 : Mm) (g4_18 g5_18 : Option Value), mu_18 x2_18 x3_18 m_18 < z → rg x2_18 → rg x3_18 → I_18 x2_18 x3_18 m_18 → mm_W d mc_271 18 [some (.ref 284), some (iv x1), some (iv x2_18), some (iv x3_18), g4_18, g5_18] [] (fm m_18) (XK Q) := by
      intro z
      induction z with
      | zero => intro x2_18 x3_18 m_18 g4_18 g5_18 hz; exact absurd hz (Nat.not_lt_zero _)
      | succ z ih_18 =>
        intro x2_18 x3_18 m_18 g4_18 g5_18 hz_18 r_x2_18 r_x3_18 hI
        have H := HB_18 x2_18 x3_18 m_18 r_x2_18 r_x3_18 hI
        refine w_st (fun _ => rfl) ?_
        refine f_int 24 rfl rfl ?_
        refine b_ge rfl r_x3_18 (by unfold rg; decide) (fun hq => ?_) (fun hq => ?_)
        · replace H := H.1 hq
          refine w_st (fun _ => rfl) ?_
          exact f_iret rfl r_x2_18 H
        · replace H := H.2 hq
          refine f_int 0 rfl rfl ?_
          refine w_st (ls2 := [some (.ref 284), some (iv x1), some (iv x2_18), some (iv x3_18), some (iv 0), g5_18]) (fun _ => rfl) ?_
          obtain ⟨I_27, mu_27, H0_27, HB_27⟩ := H
          have lp_27 : ∀ (z : Nat) (x4_27 : Int) (m_27 : Mm), mu_27 x4_27 m_27 < z → rg x4_27 → I_27 x4_27 m_27 → mm_W d mc_271 27 [some (.ref 284), some (iv x1), some (iv x2_18), some (iv x3_18), some (iv x4_27), g5_18] [] (fm m_27) (XK Q) := by
            intro z
            induction z with
            | zero => intro x4_27 m_27 hz; exact absurd hz (Nat.not_lt_zero _)
            | succ z ih_27 =>
              intro x4_27 m_27 hz_27 r_x4_27 hI
              have H := HB_27 x4_27 m_27 r_x4_27 hI
              refine w_st (fun _ => rfl) ?_
              refine f_int 6 rfl rfl ?_
              refine b_ge rfl r_x4_27 (by unfold rg; decide) (fun hq => ?_) (fun hq => ?_)
              · replace H := H.1 hq
                refine f_int 1 rfl rfl ?_
                refine w_st (ls2 := [some (.ref 284), some (iv x1), some (iv x2_18), some (iv x3_18), some (iv 1), g5_18]) (fun _ => rfl) ?_
                refine f_int 0 rfl rfl ?_
                refine w_st (ls2 := [some (.ref 284), some (iv x1), some (iv x2_18), some (iv x3_18), some (iv 1), some (iv 0)]) (fun _ => rfl) ?_
                obtain ⟨I_61, mu_61, H0_61, HB_61⟩ := H
                have lp_61 : ∀ (z : Nat) (x4_61 x5_61 : Int) (m_61 : Mm), mu_61 x4_61 x5_61 m_61 < z → rg x4_61 → rg x5_61 → I_61 x4_61 x5_61 m_61 → mm_W d mc_271 61 [some (.ref 284), some (iv x1), some (iv x2_18), some (iv x3_18), some (iv x4_61), some (iv x5_61)] [] (fm m_61) (XK Q) := by
                  intro z
                  induction z with
                  | zero => intro x4_61 x5_61 m_61 hz; exact absurd hz (Nat.not_lt_zero _)
                  | succ z ih_61 =>
                    intro x4_61 x5_61 m_61 hz_61 r_x4_61 r_x5_61 hI
                    have H := HB_61 x4_61 x5_61 m_61 r_x4_61 r_x5_61 hI
                    refine w_st (fun _ => rfl) ?_
                    refine w_st (fun _ => rfl) ?_
                    refine b_ge rfl r_x5_61 r_x3_18 (fun hq => ?_) (fun hq => ?_)
                    · replace H := H.1 hq
                      refine w_st (fun _ => rfl) ?_
                      obtain ⟨R_94, H, HJ_94⟩ := H
                      have tl_94 : ∀ (y2_94 : Int) , rg y2_94 → R_94 y2_94 → mm_W d mc_271 94 [some (.ref 284), some (iv x1), some (iv y2_94), some (iv x3_18), some (iv x4_61), some (iv x5_61)] [] (fm m_61) (XK Q) := by
                        intro y2_94 r_y2_94 hR
                        have H := HJ_94 y2_94 r_y2_94 hR
                        obtain ⟨z3_94, e_z3_94⟩ : ∃ q : Int, q = wr (x3_18 + 1) := ⟨_, rfl⟩
                        have r_z3_94 : rg z3_94 := by rw [e_z3_94]; exact wr_rg _
                        replace H := H z3_94 e_z3_94
                        refine f_iinc (ls2 := [some (.ref 284), some (iv x1), some (iv y2_94), some (iv z3_94), some (iv x4_61), some (iv x5_61)]) 1 rfl rfl rfl e_z3_94 rfl ?_
                        refine w_st (fun _ => rfl) ?_
                        exact ih_18 y2_94 z3_94 m_61 (some (iv x4_61)) (some (iv x5_61)) (Nat.lt_of_lt_of_le H.2 (Nat.le_of_lt_succ hz_18)) r_y2_94 r_z3_94 H.1
                      refine z_eq rfl r_x4_61 (fun hq => ?_) (fun hq => ?_)
                      · replace H := H.1 hq
                        exact tl_94 x2_18 r_x2_18 H
                      · replace H := H.2 hq
                        obtain ⟨z2_91, e_z2_91⟩ : ∃ q : Int, q = wr (x2_18 + 1) := ⟨_, rfl⟩
                        have r_z2_91 : rg z2_91 := by rw [e_z2_91]; exact wr_rg _
                        replace H := H z2_91 e_z2_91
                        refine f_iinc (ls2 := [some (.ref 284), some (iv x1), some (iv z2_91), some (iv x3_18), some (iv x4_61), some (iv x5_61)]) 1 rfl rfl rfl e_z2_91 rfl ?_
                        exact tl_94 z2_91 r_z2_91 H
                    · replace H := H.2 hq
                      refine w_st (fun _ => rfl) ?_
                      refine w_st (fun _ => rfl) ?_
                      refine w_st (fun _ => rfl) ?_
                      refine k_VK (as := [iv x1, iv x5_61]) rfl mg_271 rfl rfl (by decide) rfl rfl H (fun m71 v71 r_v71 H => ?_)
                      obtain ⟨R_80, H, HJ_80⟩ := H
                      have tl_80 : ∀ (y4_80 : Int) , rg y4_80 → R_80 y4_80 → mm_W d mc_271 80 [some (.ref 284), some (iv x1), some (iv x2_18), some (iv x3_18), some (iv y4_80), some (iv x5_61)] [] (fm m71) (XK Q) := by
                        intro y4_80 r_y4_80 hR
                        have H := HJ_80 y4_80 r_y4_80 hR
                        obtain ⟨z5_80, e_z5_80⟩ : ∃ q : Int, q = wr (x5_61 + 1) := ⟨_, rfl⟩
                        have r_z5_80 : rg z5_80 := by rw [e_z5_80]; exact wr_rg _
                        replace H := H z5_80 e_z5_80
                        refine f_iinc (ls2 := [some (.ref 284), some (iv x1), some (iv x2_18), some (iv x3_18), some (iv y4_80), some (iv z5_80)]) 1 rfl rfl rfl e_z5_80 rfl ?_
                        refine w_st (fun _ => rfl) ?_
                        exact ih_61 y4_80 z5_80 m71 (Nat.lt_of_lt_of_le H.2 (Nat.le_of_lt_succ hz_61)) r_y4_80 r_z5_80 H.1
                      refine z_eq rfl r_v71 (fun hq => ?_) (fun hq => ?_)
                      · replace H := H.1 hq
                        exact tl_80 x4_61 r_x4_61 H
                      · replace H := H.2 hq
                        refine f_int 0 rfl rfl ?_
                        refine w_st (ls2 := [some (.ref 284), some (iv x1), some (iv x2_18), some (iv x3_18), some (iv 0), some (iv x5_61)]) (fun _ => rfl) ?_
                        exact tl_80 0 (by unfold rg; decide) H
                exact lp_61 _ 1 0 m_27 (Nat.lt_succ_self _) (by unfold rg; decide) (by unfold rg; decide) H0_61
              · replace H := H.2 hq
                refine w_st (fun _ => rfl) ?_
                refine g_284_54 rfl ?_
                refine w_st (fun _ => rfl) ?_
                refine w_st (fun _ => rfl) ?_
                refine w_st (fun _ => rfl) ?_
                refine w_st (fun _ => rfl) ?_
                refine w_st (fun _ => rfl) ?_
                refine k_VK (as := [iv x1, iv x3_18, iv x4_27]) rfl mg_271 rfl rfl (by decide) rfl rfl H (fun m45 v45 r_v45 H => ?_)
                obtain ⟨m48, e_m48⟩ : ∃ q : Mm, q = wt m45 321 (Int.toNat x4_27) v45 := ⟨_, rfl⟩
                refine f_st ir_321 rfl H.1 e_m48 ?_
                replace H := H.2 m48 e_m48
                obtain ⟨z4_49, e_z4_49⟩ : ∃ q : Int, q = wr (x4_27 + 1) := ⟨_, rfl⟩
                have r_z4_49 : rg z4_49 := by rw [e_z4_49]; exact wr_rg _
                replace H := H z4_49 e_z4_49
                refine f_iinc (ls2 := [some (.ref 284), some (iv x1), some (iv x2_18), some (iv x3_18), some (iv z4_49), g5_18]) 1 rfl rfl rfl e_z4_49 rfl ?_
                refine w_st (fun _ => rfl) ?_
                exact ih_27 z4_49 m48 (Nat.lt_of_lt_of_le H.2 (Nat.le_of_lt_succ hz_27)) r_z4_49 H.1
          exact lp_27 _ 0 m_18 (Nat.lt_succ_self _) (by unfold rg; decide) H0_27
    exact lp_18 _ 0 0 m11 none none (Nat.lt_succ_self _) (by unfold rg; decide) (by unfold rg; decide) H0_18
  · replace H := H.2 hq
    refine f_int (-1) rfl rfl ?_
    exact f_iret rfl (by unfold rg; decide) H
/-- TippedCratesModel.mirror(I)I -/
def P_272 (d : Nat) (m : Mm) (x1 : Int) (Q : Mm → Int → Prop) : Prop :=
  CK d 210 [.ref 284, iv x1] m (fun m2 v2 =>
    ((¬ v2 = 0 → CV d 216 [.ref 284] m2 (fun m11 =>
      (∃ (I_16 : Int → Mm → Prop) (mu_16 : Int → Mm → Nat), I_16 0 m11 ∧
      ∀ (x2_16 : Int) (m_16 : Mm), rg x2_16 → I_16 x2_16 m_16 →
      ((6 ≤ x2_16 → CK d 269 [.ref 284, iv x1] m_16 (fun m61 v61 =>
            (∃ R_72 : Int → Prop,
            ((v61 = 0 → R_72 0) ∧
            (¬ v61 = 0 → R_72 1)) ∧
            (∀ (s0_72 : Int) , rg s0_72 → R_72 s0_72 →
            Q m61 s0_72)))) ∧
          (¬ 6 ≤ x2_16 → (∃ R_49 : Int → Prop,
            ((¬ x2_16 = 4 → ((¬ x2_16 = 5 → R_49 x2_16) ∧
              (x2_16 = 5 → R_49 4))) ∧
            (x2_16 = 4 → R_49 5)) ∧
            (∀ (s5_49 : Int) , rg s5_49 → R_49 s5_49 →
            CK d 227 [.ref 284, iv x1, iv 0, iv s5_49] m_16 (fun m49 v49 =>
              (((0 : Int) ≤ x2_16 ∧ x2_16 < 6) ∧ (∀ m52 : Mm, m52 = wt m49 321 (Int.toNat x2_16) v49 → (∀ z2_53 : Int, z2_53 = wr (x2_16 + 1) → (I_16 z2_53 m52 ∧ mu_16 z2_53 m52 < mu_16 x2_16 m_16)))))))))))) ∧
    (v2 = 0 → Q m2 (-1))))
set_option maxRecDepth 20000 in
theorem br_272 {d : Nat} {m : Mm} {x1 : Int} {Q : Mm → Int → Prop} (r_x1 : rg x1) (H : P_272 d m x1 Q) : CK (d + 1) 272 [.ref 284, iv x1] m Q := by
  unfold P_272 at H
  refine CK_of rfl ?_
  show mm_W d mc_272 0 [some (.ref 284), some (iv x1), none] [] (fm m) (XK Q)
  refine w_st (fun _ => rfl) ?_
  refine w_st (fun _ => rfl) ?_
  refine k_VK (as := [iv x1]) rfl mg_272 rfl rfl (by decide) rfl rfl H (fun m2 v2 r_v2 H => ?_)
  refine z_ne rfl r_v2 (fun hq => ?_) (fun hq => ?_)
  · replace H := H.1 hq
    refine w_st (fun _ => rfl) ?_
    refine k_VV (as := []) rfl mg_272 rfl rfl (by decide) rfl rfl H (fun m11 H => ?_)
    refine f_int 0 rfl rfl ?_
    refine w_st (ls2 := [some (.ref 284), some (iv x1), some (iv 0)]) (fun _ => rfl) ?_
    obtain ⟨I_16, mu_16, H0_16, HB_16⟩ := H
    have lp_16 : ∀ (z : Nat) (x2_16 : Int) (m_16 : Mm), mu_16 x2_16 m_16 < z → rg x2_16 → I_16 x2_16 m_16 → mm_W d mc_272 16 [some (.ref 284), some (iv x1), some (iv x2_16)] [] (fm m_16) (XK Q) := by
      intro z
      induction z with
      | zero => intro x2_16 m_16 hz; exact absurd hz (Nat.not_lt_zero _)
      | succ z ih_16 =>
        intro x2_16 m_16 hz_16 r_x2_16 hI
        have H := HB_16 x2_16 m_16 r_x2_16 hI
        refine w_st (fun _ => rfl) ?_
        refine f_int 6 rfl rfl ?_
        refine b_ge rfl r_x2_16 (by unfold rg; decide) (fun hq => ?_) (fun hq => ?_)
        · replace H := H.1 hq
          refine w_st (fun _ => rfl) ?_
          refine w_st (fun _ => rfl) ?_
          refine k_VK (as := [iv x1]) rfl mg_272 rfl rfl (by decide) rfl rfl H (fun m61 v61 r_v61 H => ?_)
          obtain ⟨R_72, H, HJ_72⟩ := H
          have tl_72 : ∀ (s0_72 : Int) , rg s0_72 → R_72 s0_72 → mm_W d mc_272 72 [some (.ref 284), some (iv x1), some (iv x2_16)] [iv s0_72] (fm m61) (XK Q) := by
            intro s0_72 r_s0_72 hR
            have H := HJ_72 s0_72 r_s0_72 hR
            exact f_iret rfl r_s0_72 H
          refine z_eq rfl r_v61 (fun hq => ?_) (fun hq => ?_)
          · replace H := H.1 hq
            refine f_int 0 rfl rfl ?_
            exact tl_72 0 (by unfold rg; decide) H
          · replace H := H.2 hq
            refine f_int 1 rfl rfl ?_
            refine w_st (fun _ => rfl) ?_
            exact tl_72 1 (by unfold rg; decide) H
        · replace H := H.2 hq
          refine w_st (fun _ => rfl) ?_
          refine g_284_54 rfl ?_
          refine w_st (fun _ => rfl) ?_
          refine w_st (fun _ => rfl) ?_
          refine w_st (fun _ => rfl) ?_
          refine f_int 0 rfl rfl ?_
          refine w_st (fun _ => rfl) ?_
          refine f_int 4 rfl rfl ?_
          obtain ⟨R_49, H, HJ_49⟩ := H
          have tl_49 : ∀ (s5_49 : Int) , rg s5_49 → R_49 s5_49 → mm_W d mc_272 49 [some (.ref 284), some (iv x1), some (iv x2_16)] [iv s5_49, iv 0, iv x1, .ref 284, iv x2_16, .ref 321] (fm m_16) (XK Q) := by
            intro s5_49 r_s5_49 hR
            have H := HJ_49 s5_49 r_s5_49 hR
            refine k_VK (as := [iv x1, iv 0, iv s5_49]) rfl mg_272 rfl rfl (by decide) rfl rfl H (fun m49 v49 r_v49 H => ?_)
            obtain ⟨m52, e_m52⟩ : ∃ q : Mm, q = wt m49 321 (Int.toNat x2_16) v49 := ⟨_, rfl⟩
            refine f_st ir_321 rfl H.1 e_m52 ?_
            replace H := H.2 m52 e_m52
            obtain ⟨z2_53, e_z2_53⟩ : ∃ q : Int, q = wr (x2_16 + 1) := ⟨_, rfl⟩
            have r_z2_53 : rg z2_53 := by rw [e_z2_53]; exact wr_rg _
            replace H := H z2_53 e_z2_53
            refine f_iinc (ls2 := [some (.ref 284), some (iv x1), some (iv z2_53)]) 1 rfl rfl rfl e_z2_53 rfl ?_
            refine w_st (fun _ => rfl) ?_
            exact ih_16 z2_53 m52 (Nat.lt_of_lt_of_le H.2 (Nat.le_of_lt_succ hz_16)) r_z2_53 H.1
          refine b_ne rfl r_x2_16 (by unfold rg; decide) (fun hq => ?_) (fun hq => ?_)
          · replace H := H.1 hq
            refine w_st (fun _ => rfl) ?_
            refine f_int 5 rfl rfl ?_
            refine b_ne rfl r_x2_16 (by unfold rg; decide) (fun hq => ?_) (fun hq => ?_)
            · replace H := H.1 hq
              refine w_st (fun _ => rfl) ?_
              exact tl_49 x2_16 r_x2_16 H
            · replace H := H.2 hq
              refine f_int 4 rfl rfl ?_
              refine w_st (fun _ => rfl) ?_
              exact tl_49 4 (by unfold rg; decide) H
          · replace H := H.2 hq
            refine f_int 5 rfl rfl ?_
            refine w_st (fun _ => rfl) ?_
            exact tl_49 5 (by unfold rg; decide) H
    exact lp_16 _ 0 m11 (Nat.lt_succ_self _) (by unfold rg; decide) H0_16
  · replace H := H.2 hq
    refine f_int (-1) rfl rfl ?_
    exact f_iret rfl (by unfold rg; decide) H
