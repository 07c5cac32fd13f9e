/-- TippedCrates$Walks.richestWalk(II)I -/
def P_119 (d : Nat) (m : Mm) (x1 : Int) (x2 : Int) (Q : Mm → Int → Prop) : Prop :=
  (((Int.toNat (rd m 39 7)) = 44 ∨ (Int.toNat (rd m 39 7)) = 45) ∧ CV d 299 [.ref (Int.toNat (rd m 39 7)), iv (-1)] m (fun m5 =>
    (((Int.toNat (rd m5 39 7)) = 44 ∨ (Int.toNat (rd m5 39 7)) = 45) ∧ (((0 : Int) ≤ (rd m5 36 1) ∧ (rd m5 36 1) < 600) ∧ (∀ m20 : Mm, m20 = wt m5 (Int.toNat (rd m5 39 7)) (Int.toNat (rd m5 36 1)) 0 → (∃ (I_23 : Int → Mm → Prop) (mu_23 : Int → Mm → Nat), I_23 0 m20 ∧
    ∀ (x3_23 : Int) (m_23 : Mm), rg x3_23 → I_23 x3_23 m_23 →
    ((x1 ≤ x3_23 → (((Int.toNat (rd m_23 39 7)) = 44 ∨ (Int.toNat (rd m_23 39 7)) = 45) ∧ (∃ (I_113 : Int → Int → Prop) (mu_113 : Int → Int → Nat), I_113 (-1) 0 ∧
          ∀ (x3_113 x6_113 : Int) , rg x3_113 → rg x6_113 → I_113 x3_113 x6_113 →
          ((600 ≤ x6_113 → (∃ R_154 : Prop,
                ((x3_113 = (-1) → R_154) ∧
                (¬ x3_113 = (-1) → (∃ R_157 : Prop,
                  ((¬ x1 = 0 → R_157) ∧
                  (x1 = 0 → ((¬ x2 = 1 → R_157) ∧
                    (x2 = 1 → R_154)))) ∧
                  (R_157 →
                  (∃ R_172 : Int → Prop,
                    ((¬ x2 = 0 → R_172 (wr (3 - (rmI x3_113 4)))) ∧
                    (x2 = 0 → R_172 (dvI x3_113 4))) ∧
                    (∀ (s0_172 : Int) , rg s0_172 → R_172 s0_172 →
                    Q m_23 s0_172)))))) ∧
                (R_154 →
                Q m_23 (-2)))) ∧
              (¬ 600 ≤ x6_113 → (((0 : Int) ≤ x6_113 ∧ x6_113 < 600) ∧ (∀ z7_125 : Int, z7_125 = (rd m_23 (Int.toNat (rd m_23 39 7)) (Int.toNat x6_113)) → (∀ z3_133 : Int, z3_133 = (max x3_113 z7_125) → (∀ z6_134 : Int, z6_134 = wr (x6_113 + 1) → (I_113 z3_133 z6_134 ∧ mu_113 z3_133 z6_134 < mu_113 x3_113 x6_113)))))))))) ∧
        (¬ x1 ≤ x3_23 → (((Int.toNat (rd m_23 39 8)) = 44 ∨ (Int.toNat (rd m_23 39 8)) = 45) ∧ CV d 299 [.ref (Int.toNat (rd m_23 39 8)), iv (-1)] m_23 (fun m33 =>
          (∃ (I_39 : Int → Mm → Prop) (mu_39 : Int → Mm → Nat), I_39 0 m33 ∧
          ∀ (x4_39 : Int) (m_39 : Mm), rg x4_39 → I_39 x4_39 m_39 →
          ((600 ≤ x4_39 → (((Int.toNat (rd m_39 39 7)) = 44 ∨ (Int.toNat (rd m_39 39 7)) = 45) ∧ (((Int.toNat (rd m_39 39 8)) = 44 ∨ (Int.toNat (rd m_39 39 8)) = 45) ∧ (∀ m82 : Mm, m82 = wt m_39 39 7 ((Int.toNat (rd m_39 39 8)) : Nat) → (∀ m88 : Mm, m88 = wt m82 39 8 ((Int.toNat (rd m_39 39 7)) : Nat) → (∀ z3_91 : Int, z3_91 = wr (x3_23 + 1) → (I_23 z3_91 m88 ∧ mu_23 z3_91 m88 < mu_23 x3_23 m_23))))))) ∧
              (¬ 600 ≤ x4_39 → (((Int.toNat (rd m_39 39 7)) = 44 ∨ (Int.toNat (rd m_39 39 7)) = 45) ∧ (((0 : Int) ≤ x4_39 ∧ x4_39 < 600) ∧ (∃ R_65 : Mm → Prop,
                (((rd m_39 (Int.toNat (rd m_39 39 7)) (Int.toNat x4_39)) = (-1) → R_65 m_39) ∧
                (¬ (rd m_39 (Int.toNat (rd m_39 39 7)) (Int.toNat x4_39)) = (-1) → CV d 120 [.ref 39, iv x4_39, iv x3_23] m_39 (fun m62 =>
                  R_65 m62))) ∧
                (∀ (m_65 : Mm), R_65 m_65 →
                (∀ z4_65 : Int, z4_65 = wr (x4_39 + 1) → (I_39 z4_65 m_65 ∧ mu_39 z4_65 m_65 < mu_39 x4_39 m_39)))))))))))))))))))
set_option maxRecDepth 20000 in
theorem br_119 {d : Nat} {m : Mm} {x1 : Int} {x2 : Int} {Q : Mm → Int → Prop} (r_x1 : rg x1) (r_x2 : rg x2) (H : P_119 d m x1 x2 Q) : CK (d + 1) 119 [.ref 39, iv x1, iv x2] m Q := by
  unfold P_119 at H
  refine CK_of rfl ?_
  show mm_W d mc_119 0 [some (.ref 39), some (iv x1), some (iv x2), none, none, none, none, none] [] (fm m) (XK Q)
  refine w_st (fun _ => rfl) ?_
  refine g_39_7 rfl ?_
  obtain ⟨hw1, H⟩ := H
  refine f_int (-1) rfl rfl ?_
  refine k_SV (as := [.ref (Int.toNat (rd m 39 7)), iv (-1)]) rfl mg_119 rfl rfl rfl H (fun m5 H => ?_)
  refine w_st (fun _ => rfl) ?_
  refine g_39_7 rfl ?_
  obtain ⟨hw2, H⟩ := H
  refine w_st (fun _ => rfl) ?_
  refine g_39_1 rfl ?_
  refine g_36_1 rfl ?_
  refine f_int 0 rfl rfl ?_
  obtain ⟨m20, e_m20⟩ : ∃ q : Mm, q = wt m5 (Int.toNat (rd m5 39 7)) (Int.toNat (rd m5 36 1)) 0 := ⟨_, rfl⟩
  refine f_st (wk_R hw2) rfl H.1 e_m20 ?_
  replace H := H.2 m20 e_m20
  refine f_int 0 rfl rfl ?_
  refine w_st (ls2 := [some (.ref 39), some (iv x1), some (iv x2), some (iv 0), none, none, none, none]) (fun _ => rfl) ?_
  obtain ⟨I_23, mu_23, H0_23, HB_23⟩ := H
  have lp_23 : ∀ (z : Nat) (x3_23 : Int) (m_23 : Mm) (g4_23 : Option Value), mu_23 x3_23 m_23 < z → rg x3_23 → I_23 x3_23 m_23 → mm_W d mc_119 23 [some (.ref 39), some (iv x1), some (iv x2), some (iv x3_23), g4_23, none, none, none] [] (fm m_23) (XK Q) := by
    intro z
    induction z with
    | zero => intro x3_23 m_23 g4_23 hz; exact absurd hz (Nat.not_lt_zero _)
    | succ z ih_23 =>
      intro x3_23 m_23 g4_23 hz_23 r_x3_23 hI
      have H := HB_23 x3_23 m_23 r_x3_23 hI
      refine w_st (fun _ => rfl) ?_
      refine w_st (fun _ => rfl) ?_
      refine b_ge rfl r_x3_23 r_x1 (fun hq => ?_) (fun hq => ?_)
      · replace H := H.1 hq
        refine f_int (-1) rfl rfl ?_
        refine w_st (ls2 := [some (.ref 39), some (iv x1), some (iv x2), some (iv (-1)), g4_23, none, none, none]) (fun _ => rfl) ?_
        refine w_st (fun _ => rfl) ?_
        refine g_39_7 rfl ?_
        obtain ⟨hw3, H⟩ := H
        refine w_st (ls2 := [some (.ref 39), some (iv x1), some (iv x2), some (iv (-1)), some (.ref (Int.toNat (rd m_23 39 7))), none, none, none]) (fun _ => rfl) ?_
        refine w_st (fun _ => rfl) ?_
        refine f_len (wk_R hw3) rfl ?_
        refine w_st (ls2 := [some (.ref 39), some (iv x1), some (iv x2), some (iv (-1)), some (.ref (Int.toNat (rd m_23 39 7))), some (iv 600), none, none]) (fun _ => rfl) ?_
        refine f_int 0 rfl rfl ?_
        refine w_st (ls2 := [some (.ref 39), some (iv x1), some (iv x2), some (iv (-1)), some (.ref (Int.toNat (rd m_23 39 7))), some (iv 600), some (iv 0), none]) (fun _ => rfl) ?_
        obtain ⟨I_113, mu_113, H0_113, HB_113⟩ := H
        have lp_113 : ∀ (z : Nat) (x3_113 x6_113 : Int)  (g7_113 : Option Value), mu_113 x3_113 x6_113 < z → rg x3_113 → rg x6_113 → I_113 x3_113 x6_113 → mm_W d mc_119 113 [some (.ref 39), some (iv x1), some (iv x2), some (iv x3_113), some (.ref (Int.toNat (rd m_23 39 7))), some (iv 600), some (iv x6_113), g7_113] [] (fm m_23) (XK Q) := by
          intro z
          induction z with
          | zero => intro x3_113 x6_113 g7_113 hz; exact absurd hz (Nat.not_lt_zero _)
          | succ z ih_113 =>
            intro x3_113 x6_113 g7_113 hz_113 r_x3_113 r_x6_113 hI
            have H := HB_113 x3_113 x6_113 r_x3_113 r_x6_113 hI
            refine w_st (fun _ => rfl) ?_
            refine w_st (fun _ => rfl) ?_
            refine b_ge rfl r_x6_113 (isR_rg (wk_R hw3)) (fun hq => ?_) (fun hq => ?_)
            · replace H := H.1 hq
              refine w_st (fun _ => rfl) ?_
              refine f_int (-1) rfl rfl ?_
              obtain ⟨R_154, H, HJ_154⟩ := H
              have tl_154 : R_154 → mm_W d mc_119 154 [some (.ref 39), some (iv x1), some (iv x2), some (iv x3_113), some (.ref (Int.toNat (rd m_23 39 7))), some (iv 600), some (iv x6_113), g7_113] [] (fm m_23) (XK Q) := by
                intro   hR
                have H := HJ_154   hR
                refine f_int (-2) rfl rfl ?_
                exact f_iret rfl (by unfold rg; decide) H
              refine b_eq rfl r_x3_113 (by unfold rg; decide) (fun hq => ?_) (fun hq => ?_)
              · replace H := H.1 hq
                exact tl_154   H
              · replace H := H.2 hq
                refine w_st (fun _ => rfl) ?_
                obtain ⟨R_157, H, HJ_157⟩ := H
                have tl_157 : R_157 → mm_W d mc_119 157 [some (.ref 39), some (iv x1), some (iv x2), some (iv x3_113), some (.ref (Int.toNat (rd m_23 39 7))), some (iv 600), some (iv x6_113), g7_113] [] (fm m_23) (XK Q) := by
                  intro   hR
                  have H := HJ_157   hR
                  refine w_st (fun _ => rfl) ?_
                  obtain ⟨R_172, H, HJ_172⟩ := H
                  have tl_172 : ∀ (s0_172 : Int) , rg s0_172 → R_172 s0_172 → mm_W d mc_119 172 [some (.ref 39), some (iv x1), some (iv x2), some (iv x3_113), some (.ref (Int.toNat (rd m_23 39 7))), some (iv 600), some (iv x6_113), g7_113] [iv s0_172] (fm m_23) (XK Q) := by
                    intro s0_172 r_s0_172 hR
                    have H := HJ_172 s0_172 r_s0_172 hR
                    exact f_iret rfl r_s0_172 H
                  refine z_ne rfl r_x2 (fun hq => ?_) (fun hq => ?_)
                  · replace H := H.1 hq
                    refine f_int 3 rfl rfl ?_
                    refine w_st (fun _ => rfl) ?_
                    refine f_int 4 rfl rfl ?_
                    refine f_rmI rfl (by unfold rg; decide) (by decide) ?_
                    refine f_sub rfl ?_
                    exact tl_172 (wr (3 - (rmI x3_113 4))) (wr_rg _) H
                  · replace H := H.2 hq
                    refine w_st (fun _ => rfl) ?_
                    refine f_int 4 rfl rfl ?_
                    refine f_dvI rfl (by unfold rg; decide) (by decide) ?_
                    refine w_st (fun _ => rfl) ?_
                    exact tl_172 (dvI x3_113 4) (io_rg _ _ _) H
                refine z_ne rfl r_x1 (fun hq => ?_) (fun hq => ?_)
                · replace H := H.1 hq
                  exact tl_157   H
                · replace H := H.2 hq
                  refine w_st (fun _ => rfl) ?_
                  refine f_int 1 rfl rfl ?_
                  refine b_ne rfl r_x2 (by unfold rg; decide) (fun hq => ?_) (fun hq => ?_)
                  · replace H := H.1 hq
                    exact tl_157   H
                  · replace H := H.2 hq
                    exact tl_154   H
            · replace H := H.2 hq
              refine w_st (fun _ => rfl) ?_
              refine w_st (fun _ => rfl) ?_
              refine f_ld (wk_R hw3) rfl H.1 ?_
              replace H := H.2
              obtain ⟨z7_125, e_z7_125⟩ : ∃ q : Int, q = (rd m_23 (Int.toNat (rd m_23 39 7)) (Int.toNat x6_113)) := ⟨_, rfl⟩
              have r_z7_125 : rg z7_125 := by rw [e_z7_125]; exact (rd_rg _ _ _)
              replace H := H z7_125 e_z7_125
              refine f_nm e_z7_125 ?_
              refine w_st (ls2 := [some (.ref 39), some (iv x1), some (iv x2), some (iv x3_113), some (.ref (Int.toNat (rd m_23 39 7))), some (iv 600), some (iv x6_113), some (iv z7_125)]) (fun _ => rfl) ?_
              refine w_st (fun _ => rfl) ?_
              refine w_st (fun _ => rfl) ?_
              refine f_max rfl r_x3_113 r_z7_125 rfl ?_
              obtain ⟨z3_133, e_z3_133⟩ : ∃ q : Int, q = (max x3_113 z7_125) := ⟨_, rfl⟩
              have r_z3_133 : rg z3_133 := by rw [e_z3_133]; exact (mx_rg r_x3_113 r_z7_125)
              replace H := H z3_133 e_z3_133
              refine f_nm e_z3_133 ?_
              refine w_st (ls2 := [some (.ref 39), some (iv x1), some (iv x2), some (iv z3_133), some (.ref (Int.toNat (rd m_23 39 7))), some (iv 600), some (iv x6_113), some (iv z7_125)]) (fun _ => rfl) ?_
              obtain ⟨z6_134, e_z6_134⟩ : ∃ q : Int, q = wr (x6_113 + 1) := ⟨_, rfl⟩
              have r_z6_134 : rg z6_134 := by rw [e_z6_134]; exact wr_rg _
              replace H := H z6_134 e_z6_134
              refine f_iinc (ls2 := [some (.ref 39), some (iv x1), some (iv x2), some (iv z3_133), some (.ref (Int.toNat (rd m_23 39 7))), some (iv 600), some (iv z6_134), some (iv z7_125)]) 1 rfl rfl rfl e_z6_134 rfl ?_
              refine w_st (fun _ => rfl) ?_
              exact ih_113 z3_133 z6_134 (some (iv z7_125)) (Nat.lt_of_lt_of_le H.2 (Nat.le_of_lt_succ hz_113)) r_z3_133 r_z6_134 H.1
        exact lp_113 _ (-1) 0 none (Nat.lt_succ_self _) (by unfold rg; decide) (by unfold rg; decide) H0_113
      · replace H := H.2 hq
        refine w_st (fun _ => rfl) ?_
        refine g_39_8 rfl ?_
        obtain ⟨hw4, H⟩ := H
        refine f_int (-1) rfl rfl ?_
        refine k_SV (as := [.ref (Int.toNat (rd m_23 39 8)), iv (-1)]) rfl mg_119 rfl rfl rfl H (fun m33 H => ?_)
        refine f_int 0 rfl rfl ?_
        refine w_st (ls2 := [some (.ref 39), some (iv x1), some (iv x2), some (iv x3_23), some (iv 0), none, none, none]) (fun _ => rfl) ?_
        obtain ⟨I_39, mu_39, H0_39, HB_39⟩ := H
        have lp_39 : ∀ (z : Nat) (x4_39 : Int) (m_39 : Mm), mu_39 x4_39 m_39 < z → rg x4_39 → I_39 x4_39 m_39 → mm_W d mc_119 39 [some (.ref 39), some (iv x1), some (iv x2), some (iv x3_23), some (iv x4_39), none, none, none] [] (fm m_39) (XK Q) := by
          intro z
          induction z with
          | zero => intro x4_39 m_39 hz; exact absurd hz (Nat.not_lt_zero _)
          | succ z ih_39 =>
            intro x4_39 m_39 hz_39 r_x4_39 hI
            have H := HB_39 x4_39 m_39 r_x4_39 hI
            refine w_st (fun _ => rfl) ?_
            refine f_int 600 rfl rfl ?_
            refine b_ge rfl r_x4_39 (by unfold rg; decide) (fun hq => ?_) (fun hq => ?_)
            · replace H := H.1 hq
              refine w_st (fun _ => rfl) ?_
              refine g_39_7 rfl ?_
              obtain ⟨hw5, H⟩ := H
              refine w_st (ls2 := [some (.ref 39), some (iv x1), some (iv x2), some (iv x3_23), some (.ref (Int.toNat (rd m_39 39 7))), none, none, none]) (fun _ => rfl) ?_
              refine w_st (fun _ => rfl) ?_
              refine w_st (fun _ => rfl) ?_
              refine g_39_8 rfl ?_
              obtain ⟨hw6, H⟩ := H
              obtain ⟨m82, e_m82⟩ : ∃ q : Mm, q = wt m_39 39 7 ((Int.toNat (rd m_39 39 8)) : Nat) := ⟨_, rfl⟩
              replace H := H m82 e_m82
              refine p_39_7 (by have := (wk_R hw6).1; omega) rfl e_m82 ?_
              refine w_st (fun _ => rfl) ?_
              refine w_st (fun _ => rfl) ?_
              obtain ⟨m88, e_m88⟩ : ∃ q : Mm, q = wt m82 39 8 ((Int.toNat (rd m_39 39 7)) : Nat) := ⟨_, rfl⟩
              replace H := H m88 e_m88
              refine p_39_8 (by have := (wk_R hw5).1; omega) rfl e_m88 ?_
              obtain ⟨z3_91, e_z3_91⟩ : ∃ q : Int, q = wr (x3_23 + 1) := ⟨_, rfl⟩
              have r_z3_91 : rg z3_91 := by rw [e_z3_91]; exact wr_rg _
              replace H := H z3_91 e_z3_91
              refine f_iinc (ls2 := [some (.ref 39), some (iv x1), some (iv x2), some (iv z3_91), some (.ref (Int.toNat (rd m_39 39 7))), none, none, none]) 1 rfl rfl rfl e_z3_91 rfl ?_
              refine w_st (fun _ => rfl) ?_
              exact ih_23 z3_91 m88 (some (.ref (Int.toNat (rd m_39 39 7)))) (Nat.lt_of_lt_of_le H.2 (Nat.le_of_lt_succ hz_23)) r_z3_91 H.1
            · replace H := H.2 hq
              refine w_st (fun _ => rfl) ?_
              refine g_39_7 rfl ?_
              obtain ⟨hw7, H⟩ := H
              refine w_st (fun _ => rfl) ?_
              refine f_ld (wk_R hw7) rfl H.1 ?_
              replace H := H.2
              refine f_int (-1) rfl rfl ?_
              obtain ⟨R_65, H, HJ_65⟩ := H
              have tl_65 : ∀ (m_65 : Mm), R_65 m_65 → mm_W d mc_119 65 [some (.ref 39), some (iv x1), some (iv x2), some (iv x3_23), some (iv x4_39), none, none, none] [] (fm m_65) (XK Q) := by
                intro m_65  hR
                have H := HJ_65 m_65  hR
                obtain ⟨z4_65, e_z4_65⟩ : ∃ q : Int, q = wr (x4_39 + 1) := ⟨_, rfl⟩
                have r_z4_65 : rg z4_65 := by rw [e_z4_65]; exact wr_rg _
                replace H := H z4_65 e_z4_65
                refine f_iinc (ls2 := [some (.ref 39), some (iv x1), some (iv x2), some (iv x3_23), some (iv z4_65), none, none, none]) 1 rfl rfl rfl e_z4_65 rfl ?_
                refine w_st (fun _ => rfl) ?_
                exact ih_39 z4_65 m_65 (Nat.lt_of_lt_of_le H.2 (Nat.le_of_lt_succ hz_39)) r_z4_65 H.1
              refine b_eq rfl (rd_rg _ _ _) (by unfold rg; decide) (fun hq => ?_) (fun hq => ?_)
              · replace H := H.1 hq
                exact tl_65 m_39  H
              · replace H := H.2 hq
                refine w_st (fun _ => rfl) ?_
                refine w_st (fun _ => rfl) ?_
                refine w_st (fun _ => rfl) ?_
                refine k_VV (as := [iv x4_39, iv x3_23]) rfl mg_119 rfl rfl (by decide) rfl rfl H (fun m62 H => ?_)
                exact tl_65 m62  H
        exact lp_39 _ 0 m33 (Nat.lt_succ_self _) (by unfold rg; decide) H0_39
  exact lp_23 _ 0 m20 none (Nat.lt_succ_self _) (by unfold rg; decide) H0_23
/-- TippedCrates$Walks.enrich(II)V -/
def P_120 (d : Nat) (m : Mm) (x1 : Int) (x2 : Int) (Q : Mm → Prop) : Prop :=
  (∃ (I_2 : Int → Mm → Prop) (mu_2 : Int → Mm → Nat), I_2 0 m ∧
    ∀ (x3_2 : Int) (m_2 : Mm), rg x3_2 → I_2 x3_2 m_2 →
    ((4 ≤ x3_2 → Q m_2) ∧
        (¬ 4 ≤ x3_2 → CK d 71 [.ref 36, iv x1, iv x3_2] m_2 (fun m13 v13 =>
          (∃ R_79 : Mm → Prop,
          ((v13 = (-1) → R_79 m13) ∧
          (¬ v13 = (-1) → (∃ R_35 : Int → Prop,
            ((¬ x2 = 0 → R_35 0) ∧
            (x2 = 0 → R_35 (wr (3 - x3_2)))) ∧
            (∀ (s0_35 : Int) , rg s0_35 → R_35 s0_35 →
            (((Int.toNat (rd m13 39 7)) = 44 ∨ (Int.toNat (rd m13 39 7)) = 45) ∧ (((0 : Int) ≤ x1 ∧ x1 < 600) ∧ CK d 73 [.ref 36, iv v13] m13 (fun m50 v50 =>
              (∀ z6_58 : Int, z6_58 = (wr ((wr ((rd m13 (Int.toNat (rd m13 39 7)) (Int.toNat x1)) + (wr (4 * v50)))) + s0_35)) → (((Int.toNat (rd m50 39 8)) = 44 ∨ (Int.toNat (rd m50 39 8)) = 45) ∧ (((Int.toNat (rd m50 39 8)) = 44 ∨ (Int.toNat (rd m50 39 8)) = 45) ∧ (((0 : Int) ≤ v13 ∧ v13 < 600) ∧ (((0 : Int) ≤ v13 ∧ v13 < 600) ∧ (∀ m78 : Mm, m78 = wt m50 (Int.toNat (rd m50 39 8)) (Int.toNat v13) (max (rd m50 (Int.toNat (rd m50 39 8)) (Int.toNat v13)) z6_58) → R_79 m78))))))))))))) ∧
          (∀ (m_79 : Mm), R_79 m_79 →
          (∀ z3_79 : Int, z3_79 = wr (x3_2 + 1) → (I_2 z3_79 m_79 ∧ mu_2 z3_79 m_79 < mu_2 x3_2 m_2))))))))
set_option maxRecDepth 20000 in
theorem br_120 {d : Nat} {m : Mm} {x1 : Int} {x2 : Int} {Q : Mm → Prop} (r_x1 : rg x1) (r_x2 : rg x2) (H : P_120 d m x1 x2 Q) : CV (d + 1) 120 [.ref 39, iv x1, iv x2] m Q := by
  unfold P_120 at H
  refine CV_of rfl ?_
  show mm_W d mc_120 0 [some (.ref 39), some (iv x1), some (iv x2), none, none, none, none] [] (fm m) (XV Q)
  refine f_int 0 rfl rfl ?_
  refine w_st (ls2 := [some (.ref 39), some (iv x1), some (iv x2), some (iv 0), none, none, none]) (fun _ => rfl) ?_
  obtain ⟨I_2, mu_2, H0_2, HB_2⟩ := H
  have lp_2 : ∀ (z : Nat) (x3_2 : Int) (m_2 : Mm) (g4_2 g5_2 g6_2 : Option Value), mu_2 x3_2 m_2 < z → rg x3_2 → I_2 x3_2 m_2 → mm_W d mc_120 2 [some (.ref 39), some (iv x1), some (iv x2), some (iv x3_2), g4_2, g5_2, g6_2] [] (fm m_2) (XV Q) := by
    intro z
    induction z with
    | zero => intro x3_2 m_2 g4_2 g5_2 g6_2 hz; exact absurd hz (Nat.not_lt_zero _)
    | succ z ih_2 =>
      intro x3_2 m_2 g4_2 g5_2 g6_2 hz_2 r_x3_2 hI
      have H := HB_2 x3_2 m_2 r_x3_2 hI
      refine w_st (fun _ => rfl) ?_
      refine f_int 4 rfl rfl ?_
      refine b_ge rfl r_x3_2 (by unfold rg; decide) (fun hq => ?_) (fun hq => ?_)
      · replace H := H.1 hq
        exact f_ret rfl H
      · replace H := H.2 hq
        refine w_st (fun _ => rfl) ?_
        refine g_39_1 rfl ?_
        refine w_st (fun _ => rfl) ?_
        refine w_st (fun _ => rfl) ?_
        refine k_VK (as := [iv x1, iv x3_2]) rfl mg_120 rfl rfl (by decide) rfl rfl H (fun m13 v13 r_v13 H => ?_)
        refine w_st (ls2 := [some (.ref 39), some (iv x1), some (iv x2), some (iv x3_2), some (iv v13), g5_2, g6_2]) (fun _ => rfl) ?_
        refine w_st (fun _ => rfl) ?_
        refine f_int (-1) rfl rfl ?_
        obtain ⟨R_79, H, HJ_79⟩ := H
        have tl_79 : ∀ (m_79 : Mm) (g5_79 g6_79 : Option Value), R_79 m_79 → mm_W d mc_120 79 [some (.ref 39), some (iv x1), some (iv x2), some (iv x3_2), some (iv v13), g5_79, g6_79] [] (fm m_79) (XV Q) := by
          intro m_79 g5_79 g6_79  hR
          have H := HJ_79 m_79  hR
          obtain ⟨z3_79, e_z3_79⟩ : ∃ q : Int, q = wr (x3_2 + 1) := ⟨_, rfl⟩
          have r_z3_79 : rg z3_79 := by rw [e_z3_79]; exact wr_rg _
          replace H := H z3_79 e_z3_79
          refine f_iinc (ls2 := [some (.ref 39), some (iv x1), some (iv x2), some (iv z3_79), some (iv v13), g5_79, g6_79]) 1 rfl rfl rfl e_z3_79 rfl ?_
          refine w_st (fun _ => rfl) ?_
          exact ih_2 z3_79 m_79 (some (iv v13)) g5_79 g6_79 (Nat.lt_of_lt_of_le H.2 (Nat.le_of_lt_succ hz_2)) r_z3_79 H.1
        refine b_eq rfl r_v13 (by unfold rg; decide) (fun hq => ?_) (fun hq => ?_)
        · replace H := H.1 hq
          exact tl_79 m13 g5_2 g6_2  H
        · replace H := H.2 hq
          refine w_st (fun _ => rfl) ?_
          obtain ⟨R_35, H, HJ_35⟩ := H
          have tl_35 : ∀ (s0_35 : Int) , rg s0_35 → R_35 s0_35 → mm_W d mc_120 35 [some (.ref 39), some (iv x1), some (iv x2), some (iv x3_2), some (iv v13), g5_2, g6_2] [iv s0_35] (fm m13) (XV Q) := by
            intro s0_35 r_s0_35 hR
            have H := HJ_35 s0_35 r_s0_35 hR
            refine w_st (ls2 := [some (.ref 39), some (iv x1), some (iv x2), some (iv x3_2), some (iv v13), some (iv s0_35), g6_2]) (fun _ => rfl) ?_
            refine w_st (fun _ => rfl) ?_
            refine g_39_7 rfl ?_
            obtain ⟨hw1, H⟩ := H
            refine w_st (fun _ => rfl) ?_
            refine f_ld (wk_R hw1) rfl H.1 ?_
            replace H := H.2
            refine f_int 4 rfl rfl ?_
            refine w_st (fun _ => rfl) ?_
            refine g_39_1 rfl ?_
            refine w_st (fun _ => rfl) ?_
            refine k_VK (as := [iv v13]) rfl mg_120 rfl rfl (by decide) rfl rfl H (fun m50 v50 r_v50 H => ?_)
            refine f_mul rfl ?_
            refine f_add rfl ?_
            refine w_st (fun _ => rfl) ?_
            refine f_add rfl ?_
            obtain ⟨z6_58, e_z6_58⟩ : ∃ q : Int, q = (wr ((wr ((rd m13 (Int.toNat (rd m13 39 7)) (Int.toNat x1)) + (wr (4 * v50)))) + s0_35)) := ⟨_, rfl⟩
            have r_z6_58 : rg z6_58 := by rw [e_z6_58]; exact (wr_rg _)
            replace H := H z6_58 e_z6_58
            refine f_nm e_z6_58 ?_
            refine w_st (ls2 := [some (.ref 39), some (iv x1), some (iv x2), some (iv x3_2), some (iv v13), some (iv s0_35), some (iv z6_58)]) (fun _ => rfl) ?_
            refine w_st (fun _ => rfl) ?_
            refine g_39_8 rfl ?_
            obtain ⟨hw2, H⟩ := H
            refine w_st (fun _ => rfl) ?_
            refine w_st (fun _ => rfl) ?_
            refine g_39_8 rfl ?_
            obtain ⟨hw3, H⟩ := H
            refine w_st (fun _ => rfl) ?_
            refine f_ld (wk_R hw3) rfl H.1 ?_
            replace H := H.2
            refine w_st (fun _ => rfl) ?_
            refine f_max rfl (rd_rg _ _ _) r_z6_58 rfl ?_
            obtain ⟨m78, e_m78⟩ : ∃ q : Mm, q = wt m50 (Int.toNat (rd m50 39 8)) (Int.toNat v13) (max (rd m50 (Int.toNat (rd m50 39 8)) (Int.toNat v13)) z6_58) := ⟨_, rfl⟩
            refine f_st (wk_R hw2) rfl H.1 e_m78 ?_
            replace H := H.2 m78 e_m78
            exact tl_79 m78 (some (iv s0_35)) (some (iv z6_58))  H
          refine z_ne rfl r_x2 (fun hq => ?_) (fun hq => ?_)
          · replace H := H.1 hq
            refine f_int 0 rfl rfl ?_
            exact tl_35 0 (by unfold rg; decide) H
          · replace H := H.2 hq
            refine f_int 3 rfl rfl ?_
            refine w_st (fun _ => rfl) ?_
            refine f_sub rfl ?_
            refine w_st (fun _ => rfl) ?_
            exact tl_35 (wr (3 - x3_2)) (wr_rg _) H
  exact lp_2 _ 0 m none none none (Nat.lt_succ_self _) (by unfold rg; decide) H0_2
/-- TippedCrates.feed(IIIII)I -/
def P_122 (d : Nat) (m : Mm) (x1 : Int) (x2 : Int) (x3 : Int) (x4 : Int) (x5 : Int) (Q : Mm → Int → Prop) : Prop :=
  (((rd m 1 0) ≤ 1980 → CV d 86 [.ref 1, iv x1] m (fun m20 =>
      CV d 86 [.ref 1, iv x2] m20 (fun m28 =>
      CV d 86 [.ref 1, iv x3] m28 (fun m36 =>
      CV d 86 [.ref 1, iv x4] m36 (fun m45 =>
      CV d 86 [.ref 1, iv x5] m45 (fun m54 =>
      Q m54 (rd m54 1 0))))))) ∧
    (¬ (rd m 1 0) ≤ 1980 → Q m (-1)))
set_option maxRecDepth 20000 in
theorem br_122 {d : Nat} {m : Mm} {x1 : Int} {x2 : Int} {x3 : Int} {x4 : Int} {x5 : Int} {Q : Mm → Int → Prop} (r_x1 : rg x1) (r_x2 : rg x2) (r_x3 : rg x3) (r_x4 : rg x4) (r_x5 : rg x5) (H : P_122 d m x1 x2 x3 x4 x5 Q) : CK (d + 1) 122 [.ref 0, iv x1, iv x2, iv x3, iv x4, iv x5] m Q := by
  unfold P_122 at H
  refine CK_of rfl ?_
  show mm_W d mc_122 0 [some (.ref 0), some (iv x1), some (iv x2), some (iv x3), some (iv x4), some (iv x5)] [] (fm m) (XK Q)
  refine w_st (fun _ => rfl) ?_
  refine g_0_0 rfl ?_
  refine g_1_0 rfl ?_
  refine f_int 1980 rfl rfl ?_
  refine b_le rfl (rd_rg _ _ _) (by unfold rg; decide) (fun hq => ?_) (fun hq => ?_)
  · replace H := H.1 hq
    refine w_st (fun _ => rfl) ?_
    refine g_0_0 rfl ?_
    refine w_st (fun _ => rfl) ?_
    refine k_VV (as := [iv x1]) rfl mg_122 rfl rfl (by decide) rfl rfl H (fun m20 H => ?_)
    refine w_st (fun _ => rfl) ?_
    refine g_0_0 rfl ?_
    refine w_st (fun _ => rfl) ?_
    refine k_VV (as := [iv x2]) rfl mg_122 rfl rfl (by decide) rfl rfl H (fun m28 H => ?_)
    refine w_st (fun _ => rfl) ?_
    refine g_0_0 rfl ?_
    refine w_st (fun _ => rfl) ?_
    refine k_VV (as := [iv x3]) rfl mg_122 rfl rfl (by decide) rfl rfl H (fun m36 H => ?_)
    refine w_st (fun _ => rfl) ?_
    refine g_0_0 rfl ?_
    refine w_st (fun _ => rfl) ?_
    refine k_VV (as := [iv x4]) rfl mg_122 rfl rfl (by decide) rfl rfl H (fun m45 H => ?_)
    refine w_st (fun _ => rfl) ?_
    refine g_0_0 rfl ?_
    refine w_st (fun _ => rfl) ?_
    refine k_VV (as := [iv x5]) rfl mg_122 rfl rfl (by decide) rfl rfl H (fun m54 H => ?_)
    refine w_st (fun _ => rfl) ?_
    refine g_0_0 rfl ?_
    refine g_1_0 rfl ?_
    exact f_iret rfl (rd_rg _ _ _) H
  · replace H := H.2 hq
    refine f_int (-1) rfl rfl ?_
    exact f_iret rfl (by unfold rg; decide) H
/-- TippedCrates.back(I)I -/
def P_123 (d : Nat) (m : Mm) (x1 : Int) (Q : Mm → Int → Prop) : Prop :=
  (∃ R_15 : Prop,
    ((x1 < 0 → R_15) ∧
    (¬ x1 < 0 → ((x1 ≤ (rd m 1 0) → (∀ m27 : Mm, m27 = wt m 1 0 (wr ((rd m 1 0) - x1)) → Q m27 (rd m27 1 0))) ∧
      (¬ x1 ≤ (rd m 1 0) → R_15)))) ∧
    (R_15 →
    Q m (-1)))
set_option maxRecDepth 20000 in
theorem br_123 {d : Nat} {m : Mm} {x1 : Int} {Q : Mm → Int → Prop} (r_x1 : rg x1) (H : P_123 d m x1 Q) : CK (d + 1) 123 [.ref 0, iv x1] m Q := by
  unfold P_123 at H
  refine CK_of rfl ?_
  show mm_W d mc_123 0 [some (.ref 0), some (iv x1)] [] (fm m) (XK Q)
  refine w_st (fun _ => rfl) ?_
  obtain ⟨R_15, H, HJ_15⟩ := H
  have tl_15 : R_15 → mm_W d mc_123 15 [some (.ref 0), some (iv x1)] [] (fm m) (XK Q) := by
    intro   hR
    have H := HJ_15   hR
    refine f_int (-1) rfl rfl ?_
    exact f_iret rfl (by unfold rg; decide) H
  refine z_lt rfl r_x1 (fun hq => ?_) (fun hq => ?_)
  · replace H := H.1 hq
    exact tl_15   H
  · replace H := H.2 hq
    refine w_st (fun _ => rfl) ?_
    refine w_st (fun _ => rfl) ?_
    refine g_0_0 rfl ?_
    refine g_1_0 rfl ?_
    refine b_le rfl r_x1 (rd_rg _ _ _) (fun hq => ?_) (fun hq => ?_)
    · replace H := H.1 hq
      refine w_st (fun _ => rfl) ?_
      refine g_0_0 rfl ?_
      refine w_st (fun _ => rfl) ?_
      refine g_1_0 rfl ?_
      refine w_st (fun _ => rfl) ?_
      refine f_sub rfl ?_
      obtain ⟨m27, e_m27⟩ : ∃ q : Mm, q = wt m 1 0 (wr ((rd m 1 0) - x1)) := ⟨_, rfl⟩
      replace H := H m27 e_m27
      refine p_1_0 rfl e_m27 ?_
      refine w_st (fun _ => rfl) ?_
      refine g_0_0 rfl ?_
      refine g_1_0 rfl ?_
      exact f_iret rfl (rd_rg _ _ _) H
    · replace H := H.2 hq
      exact tl_15   H
/-- TippedCrates.read()I -/
def P_124 (d : Nat) (m : Mm)  (Q : Mm → Int → Prop) : Prop :=
  CK d 34 [.ref 19] m (fun m4 v4 =>
    (∀ m13 : Mm, m13 = wt m4 1 0 0 → (∃ R_46 : Mm → Prop,
    ((¬ v4 = 0 → R_46 m13) ∧
    (v4 = 0 → CV d 75 [.ref 274, .ref 7] m13 (fun m28 =>
      CV d 20 [.ref 55] m28 (fun m35 =>
      CK d 57 [.ref 49] m35 (fun m42 v42 =>
      R_46 m42))))) ∧
    (∀ (m_46 : Mm), R_46 m_46 →
    Q m_46 v4))))
set_option maxRecDepth 20000 in
theorem br_124 {d : Nat} {m : Mm}  {Q : Mm → Int → Prop}  (H : P_124 d m  Q) : CK (d + 1) 124 [.ref 0] m Q := by
  unfold P_124 at H
  refine CK_of rfl ?_
  show mm_W d mc_124 0 [some (.ref 0), none] [] (fm m) (XK Q)
  refine w_st (fun _ => rfl) ?_
  refine g_0_2 rfl ?_
  refine k_VK (as := []) rfl mg_124 rfl rfl (by decide) rfl rfl H (fun m4 v4 r_v4 H => ?_)
  refine w_st (ls2 := [some (.ref 0), some (iv v4)]) (fun _ => rfl) ?_
  refine w_st (fun _ => rfl) ?_
  refine g_0_0 rfl ?_
  refine f_int 0 rfl rfl ?_
  obtain ⟨m13, e_m13⟩ : ∃ q : Mm, q = wt m4 1 0 0 := ⟨_, rfl⟩
  replace H := H m13 e_m13
  refine p_1_0 rfl e_m13 ?_
  refine w_st (fun _ => rfl) ?_
  obtain ⟨R_46, H, HJ_46⟩ := H
  have tl_46 : ∀ (m_46 : Mm), R_46 m_46 → mm_W d mc_124 46 [some (.ref 0), some (iv v4)] [] (fm m_46) (XK Q) := by
    intro m_46  hR
    have H := HJ_46 m_46  hR
    refine w_st (fun _ => rfl) ?_
    exact f_iret rfl r_v4 H
  refine z_ne rfl r_v4 (fun hq => ?_) (fun hq => ?_)
  · replace H := H.1 hq
    exact tl_46 m13  H
  · replace H := H.2 hq
    refine w_st (fun _ => rfl) ?_
    refine g_0_9 rfl ?_
    refine w_st (fun _ => rfl) ?_
    refine g_0_1 rfl ?_
    refine k_VV (as := [.ref 7]) rfl mg_124 rfl rfl (st_l0 st_274) (st_ck st_274 _ _).1 rfl H (fun m28 H => ?_)
    refine w_st (fun _ => rfl) ?_
    refine g_0_8 rfl ?_
    refine k_VV (as := []) rfl mg_124 rfl rfl (by decide) rfl rfl H (fun m35 H => ?_)
    refine w_st (fun _ => rfl) ?_
    refine g_0_7 rfl ?_
    refine k_VK (as := []) rfl mg_124 rfl rfl (by decide) rfl rfl H (fun m42 v42 r_v42 H => ?_)
    refine w_st (fun _ => rfl) ?_
    exact tl_46 m42  H
/-- TippedCrates.place()I -/
def P_125 (d : Nat) (m : Mm)  (Q : Mm → Int → Prop) : Prop :=
  Q m (rd m 19 0)
set_option maxRecDepth 20000 in
theorem br_125 {d : Nat} {m : Mm}  {Q : Mm → Int → Prop}  (H : P_125 d m  Q) : CK (d + 1) 125 [.ref 0] m Q := by
  unfold P_125 at H
  refine CK_of rfl ?_
  show mm_W d mc_125 0 [some (.ref 0)] [] (fm m) (XK Q)
  refine w_st (fun _ => rfl) ?_
  refine g_0_2 rfl ?_
  refine g_19_0 rfl ?_
  exact f_iret rfl (rd_rg _ _ _) H
/-- TippedCrates.flag(II)I -/
def P_126 (d : Nat) (m : Mm) (x1 : Int) (x2 : Int) (Q : Mm → Int → Prop) : Prop :=
  CK d 163 [.ref 0, iv x1] m (fun m2 v2 =>
    ((¬ v2 = 0 → ((x2 = 0 → (((0 : Int) ≤ x1 ∧ x1 < 25) ∧ Q m2 (rd m2 275 (Int.toNat x1)))) ∧
      (x2 = 1 → CK d 31 [.ref 7, iv x1] m2 (fun m51 v51 =>
          (∃ R_62 : Int → Prop,
          ((v51 = 0 → R_62 0) ∧
          (¬ v51 = 0 → R_62 1)) ∧
          (∀ (s0_62 : Int) , rg s0_62 → R_62 s0_62 →
          Q m51 s0_62)))) ∧
      (x2 = 2 → CK d 77 [.ref 274, iv x1] m2 (fun m68 v68 =>
            (∃ R_83 : Int → Prop,
            ((¬ v68 = (-1) → R_83 v68) ∧
            (v68 = (-1) → R_83 (-2))) ∧
            (∀ (s0_83 : Int) , rg s0_83 → R_83 s0_83 →
            Q m68 s0_83)))) ∧
      (x2 < 0 ∨ 2 < x2 → Q m2 (-1)))) ∧
    (v2 = 0 → Q m2 (-1))))
set_option maxRecDepth 20000 in
theorem br_126 {d : Nat} {m : Mm} {x1 : Int} {x2 : Int} {Q : Mm → Int → Prop} (r_x1 : rg x1) (r_x2 : rg x2) (H : P_126 d m x1 x2 Q) : CK (d + 1) 126 [.ref 0, iv x1, iv x2] m Q := by
  unfold P_126 at H
  refine CK_of rfl ?_
  show mm_W d mc_126 0 [some (.ref 0), some (iv x1), some (iv x2), none] [] (fm m) (XK Q)
  refine w_st (fun _ => rfl) ?_
  refine w_st (fun _ => rfl) ?_
  refine k_VK (as := [iv x1]) rfl mg_126 rfl rfl (by decide) rfl rfl H (fun m2 v2 r_v2 H => ?_)
  refine z_ne rfl r_v2 (fun hq => ?_) (fun hq => ?_)
  · replace H := H.1 hq
    refine w_st (fun _ => rfl) ?_
    by_cases e0_11 : x2 = 0
    · refine f_tsw 0 rfl r_x2 e0_11 rfl rfl ?_
      replace H := H.1 e0_11
      refine w_st (fun _ => rfl) ?_
      refine g_0_9 rfl ?_
      refine f_getr rfl (st_l0 st_274) (st_ck st_274 _ _).1 rfl ?_
      refine w_st (fun _ => rfl) ?_
      refine f_ld (st_1 st_274) rfl H.1 ?_
      replace H := H.2
      exact f_iret rfl (rd_rg _ _ _) H
    · replace H := H.2
      by_cases e1_11 : x2 = 1
      · refine f_tsw 1 rfl r_x2 e1_11 rfl rfl ?_
        replace H := H.1 e1_11
        refine w_st (fun _ => rfl) ?_
        refine g_0_1 rfl ?_
        refine w_st (fun _ => rfl) ?_
        refine k_VK (as := [iv x1]) rfl mg_126 rfl rfl (by decide) rfl rfl H (fun m51 v51 r_v51 H => ?_)
        obtain ⟨R_62, H, HJ_62⟩ := H
        have tl_62 : ∀ (s0_62 : Int) , rg s0_62 → R_62 s0_62 → mm_W d mc_126 62 [some (.ref 0), some (iv x1), some (iv x2), none] [iv s0_62] (fm m51) (XK Q) := by
          intro s0_62 r_s0_62 hR
          have H := HJ_62 s0_62 r_s0_62 hR
          exact f_iret rfl r_s0_62 H
        refine z_eq rfl r_v51 (fun hq => ?_) (fun hq => ?_)
        · replace H := H.1 hq
          refine f_int 0 rfl rfl ?_
          exact tl_62 0 (by unfold rg; decide) H
        · replace H := H.2 hq
          refine f_int 1 rfl rfl ?_
          refine w_st (fun _ => rfl) ?_
          exact tl_62 1 (by unfold rg; decide) H
      · replace H := H.2
        by_cases e2_11 : x2 = 2
        · refine f_tsw 2 rfl r_x2 e2_11 rfl rfl ?_
          replace H := H.1 e2_11
          refine w_st (fun _ => rfl) ?_
          refine g_0_9 rfl ?_
          refine w_st (fun _ => rfl) ?_
          refine k_VK (as := [iv x1]) rfl mg_126 rfl rfl (st_l0 st_274) (st_ck st_274 _ _).1 rfl H (fun m68 v68 r_v68 H => ?_)
          refine w_st (ls2 := [some (.ref 0), some (iv x1), some (iv x2), some (iv v68)]) (fun _ => rfl) ?_
          refine w_st (fun _ => rfl) ?_
          refine f_int (-1) rfl rfl ?_
          obtain ⟨R_83, H, HJ_83⟩ := H
          have tl_83 : ∀ (s0_83 : Int) , rg s0_83 → R_83 s0_83 → mm_W d mc_126 83 [some (.ref 0), some (iv x1), some (iv x2), some (iv v68)] [iv s0_83] (fm m68) (XK Q) := by
            intro s0_83 r_s0_83 hR
            have H := HJ_83 s0_83 r_s0_83 hR
            exact f_iret rfl r_s0_83 H
          refine b_ne rfl r_v68 (by unfold rg; decide) (fun hq => ?_) (fun hq => ?_)
          · replace H := H.1 hq
            refine w_st (fun _ => rfl) ?_
            exact tl_83 v68 r_v68 H
          · replace H := H.2 hq
            refine f_int (-2) rfl rfl ?_
            refine w_st (fun _ => rfl) ?_
            exact tl_83 (-2) (by unfold rg; decide) H
        · replace H := H.2
          refine f_tswd rfl r_x2 (by omega) ?_
          replace H := H (by omega)
          refine f_int (-1) rfl rfl ?_
          exact f_iret rfl (by unfold rg; decide) H
  · replace H := H.2 hq
    refine f_int (-1) rfl rfl ?_
    exact f_iret rfl (by unfold rg; decide) H
/-- TippedCrates.crate(II)I -/
def P_127 (d : Nat) (m : Mm) (x1 : Int) (x2 : Int) (Q : Mm → Int → Prop) : Prop :=
  CK d 162 [.ref 0, iv x1] m (fun m2 v2 =>
    ((¬ v2 = 0 → ((¬ x2 = 6 → ((¬ x2 = 7 → CK d 166 [iv x2, iv 0, iv 5] m2 (fun m45 v45 =>
          (∃ R_69 : Int → Prop,
          ((v45 = 0 → R_69 (-1)) ∧
          (¬ v45 = 0 → (((0 : Int) ≤ (wr ((wr (x1 * 6)) + x2)) ∧ (wr ((wr (x1 * 6)) + x2)) < 18) ∧ R_69 (rd m45 277 (Int.toNat (wr ((wr (x1 * 6)) + x2))))))) ∧
          (∀ (s0_69 : Int) , rg s0_69 → R_69 s0_69 →
          Q m45 s0_69)))) ∧
        (x2 = 7 → (((0 : Int) ≤ x1 ∧ x1 < 3) ∧ Q m2 (rd m2 278 (Int.toNat x1)))))) ∧
      (x2 = 6 → (((0 : Int) ≤ x1 ∧ x1 < 3) ∧ Q m2 (rd m2 276 (Int.toNat x1)))))) ∧
    (v2 = 0 → Q m2 (-1))))
set_option maxRecDepth 20000 in
theorem br_127 {d : Nat} {m : Mm} {x1 : Int} {x2 : Int} {Q : Mm → Int → Prop} (r_x1 : rg x1) (r_x2 : rg x2) (H : P_127 d m x1 x2 Q) : CK (d + 1) 127 [.ref 0, iv x1, iv x2] m Q := by
  unfold P_127 at H
  refine CK_of rfl ?_
  show mm_W d mc_127 0 [some (.ref 0), some (iv x1), some (iv x2)] [] (fm m) (XK Q)
  refine w_st (fun _ => rfl) ?_
  refine w_st (fun _ => rfl) ?_
  refine k_VK (as := [iv x1]) rfl mg_127 rfl rfl (by decide) rfl rfl H (fun m2 v2 r_v2 H => ?_)
  refine z_ne rfl r_v2 (fun hq => ?_) (fun hq => ?_)
  · replace H := H.1 hq
    refine w_st (fun _ => rfl) ?_
    refine f_int 6 rfl rfl ?_
    refine b_ne rfl r_x2 (by unfold rg; decide) (fun hq => ?_) (fun hq => ?_)
    · replace H := H.1 hq
      refine w_st (fun _ => rfl) ?_
      refine f_int 7 rfl rfl ?_
      refine b_ne rfl r_x2 (by unfold rg; decide) (fun hq => ?_) (fun hq => ?_)
      · replace H := H.1 hq
        refine w_st (fun _ => rfl) ?_
        refine f_int 0 rfl rfl ?_
        refine f_int 5 rfl rfl ?_
        refine k_SK (as := [iv x2, iv 0, iv 5]) rfl mg_127 rfl rfl rfl H (fun m45 v45 r_v45 H => ?_)
        obtain ⟨R_69, H, HJ_69⟩ := H
        have tl_69 : ∀ (s0_69 : Int) , rg s0_69 → R_69 s0_69 → mm_W d mc_127 69 [some (.ref 0), some (iv x1), some (iv x2)] [iv s0_69] (fm m45) (XK Q) := by
          intro s0_69 r_s0_69 hR
          have H := HJ_69 s0_69 r_s0_69 hR
          exact f_iret rfl r_s0_69 H
        refine z_eq rfl r_v45 (fun hq => ?_) (fun hq => ?_)
        · replace H := H.1 hq
          refine f_int (-1) rfl rfl ?_
          exact tl_69 (-1) (by unfold rg; decide) H
        · replace H := H.2 hq
          refine w_st (fun _ => rfl) ?_
          refine g_0_9 rfl ?_
          refine f_getr rfl (st_l0 st_274) (st_ck st_274 _ _).1 rfl ?_
          refine w_st (fun _ => rfl) ?_
          refine f_int 6 rfl rfl ?_
          refine f_mul rfl ?_
          refine w_st (fun _ => rfl) ?_
          refine f_add rfl ?_
          refine f_ld (st_3 st_274) rfl H.1 ?_
          replace H := H.2
          refine w_st (fun _ => rfl) ?_
          exact tl_69 (rd m45 277 (Int.toNat (wr ((wr (x1 * 6)) + x2)))) (rd_rg _ _ _) H
      · replace H := H.2 hq
        refine w_st (fun _ => rfl) ?_
        refine g_0_9 rfl ?_
        refine f_getr rfl (st_l0 st_274) (st_ck st_274 _ _).1 rfl ?_
        refine w_st (fun _ => rfl) ?_
        refine f_ld (st_4 st_274) rfl H.1 ?_
        replace H := H.2
        exact f_iret rfl (rd_rg _ _ _) H
    · replace H := H.2 hq
      refine w_st (fun _ => rfl) ?_
      refine g_0_9 rfl ?_
      refine f_getr rfl (st_l0 st_274) (st_ck st_274 _ _).1 rfl ?_
      refine w_st (fun _ => rfl) ?_
      refine f_ld (st_2 st_274) rfl H.1 ?_
      replace H := H.2
      exact f_iret rfl (rd_rg _ _ _) H
  · replace H := H.2 hq
    refine f_int (-1) rfl rfl ?_
    exact f_iret rfl (by unfold rg; decide) H
/-- TippedCrates.tells(III)I -/
def P_128 (d : Nat) (m : Mm) (x1 : Int) (x2 : Int) (x3 : Int) (Q : Mm → Int → Prop) : Prop :=
  CK d 162 [.ref 0, iv x1] m (fun m2 v2 =>
    (∃ R_15 : Mm → Prop,
    ((v2 = 0 → R_15 m2) ∧
    (¬ v2 = 0 → CK d 165 [iv x2] m2 (fun m9 v9 =>
      ((¬ v9 = 0 → CV d 2 [.ref 30, .ref 274, iv x1, iv x2] m9 (fun m27 =>
        ((x3 = 0 → CK d 1 [.ref 30, .ref 274, iv x1, iv x2] m27 (fun m74 v74 =>
          (∃ R_85 : Int → Prop,
          ((v74 = 0 → R_85 0) ∧
          (¬ v74 = 0 → R_85 1)) ∧
          (∀ (s0_85 : Int) , rg s0_85 → R_85 s0_85 →
          Q m74 s0_85)))) ∧
        (x3 = 1 → CK d 4 [.ref 30] m27 (fun m90 v90 =>
            Q m90 v90)) ∧
        (x3 = 2 → CK d 6 [.ref 30, iv 0] m27 (fun m99 v99 =>
              (∃ R_110 : Int → Prop,
              ((v99 = 0 → R_110 0) ∧
              (¬ v99 = 0 → R_110 1)) ∧
              (∀ (s0_110 : Int) , rg s0_110 → R_110 s0_110 →
              Q m99 s0_110)))) ∧
        (x3 = 3 → CK d 6 [.ref 30, iv 1] m27 (fun m116 v116 =>
                (∃ R_127 : Int → Prop,
                ((v116 = 0 → R_127 0) ∧
                (¬ v116 = 0 → R_127 1)) ∧
                (∀ (s0_127 : Int) , rg s0_127 → R_127 s0_127 →
                Q m116 s0_127)))) ∧
        (x3 = 4 → CK d 5 [.ref 30] m27 (fun m132 v132 =>
                  Q m132 v132)) ∧
        (x3 < 0 ∨ 4 < x3 → Q m27 (-1))))) ∧
      (v9 = 0 → R_15 m9))))) ∧
    (∀ (m_15 : Mm), R_15 m_15 →
    Q m_15 (-1))))
set_option maxRecDepth 20000 in
theorem br_128 {d : Nat} {m : Mm} {x1 : Int} {x2 : Int} {x3 : Int} {Q : Mm → Int → Prop} (r_x1 : rg x1) (r_x2 : rg x2) (r_x3 : rg x3) (H : P_128 d m x1 x2 x3 Q) : CK (d + 1) 128 [.ref 0, iv x1, iv x2, iv x3] m Q := by
  unfold P_128 at H
  refine CK_of rfl ?_
  show mm_W d mc_128 0 [some (.ref 0), some (iv x1), some (iv x2), some (iv x3)] [] (fm m) (XK Q)
  refine w_st (fun _ => rfl) ?_
  refine w_st (fun _ => rfl) ?_
  refine k_VK (as := [iv x1]) rfl mg_128 rfl rfl (by decide) rfl rfl H (fun m2 v2 r_v2 H => ?_)
  obtain ⟨R_15, H, HJ_15⟩ := H
  have tl_15 : ∀ (m_15 : Mm), R_15 m_15 → mm_W d mc_128 15 [some (.ref 0), some (iv x1), some (iv x2), some (iv x3)] [] (fm m_15) (XK Q) := by
    intro m_15  hR
    have H := HJ_15 m_15  hR
    refine f_int (-1) rfl rfl ?_
    exact f_iret rfl (by unfold rg; decide) H
  refine z_eq rfl r_v2 (fun hq => ?_) (fun hq => ?_)
  · replace H := H.1 hq
    exact tl_15 m2  H
  · replace H := H.2 hq
    refine w_st (fun _ => rfl) ?_
    refine k_SK (as := [iv x2]) rfl mg_128 rfl rfl rfl H (fun m9 v9 r_v9 H => ?_)
    refine z_ne rfl r_v9 (fun hq => ?_) (fun hq => ?_)
    · replace H := H.1 hq
      refine w_st (fun _ => rfl) ?_
      refine g_0_3 rfl ?_
      refine w_st (fun _ => rfl) ?_
      refine g_0_9 rfl ?_
      refine w_st (fun _ => rfl) ?_
      refine w_st (fun _ => rfl) ?_
      refine k_VV (as := [.ref 274, iv x1, iv x2]) rfl mg_128 rfl rfl (by decide) rfl rfl H (fun m27 H => ?_)
      refine w_st (fun _ => rfl) ?_
      by_cases e0_31 : x3 = 0
      · refine f_tsw 0 rfl r_x3 e0_31 rfl rfl ?_
        replace H := H.1 e0_31
        refine w_st (fun _ => rfl) ?_
        refine g_0_3 rfl ?_
        refine w_st (fun _ => rfl) ?_
        refine g_0_9 rfl ?_
        refine w_st (fun _ => rfl) ?_
        refine w_st (fun _ => rfl) ?_
        refine k_VK (as := [.ref 274, iv x1, iv x2]) rfl mg_128 rfl rfl (by decide) rfl rfl H (fun m74 v74 r_v74 H => ?_)
        obtain ⟨R_85, H, HJ_85⟩ := H
        have tl_85 : ∀ (s0_85 : Int) , rg s0_85 → R_85 s0_85 → mm_W d mc_128 85 [some (.ref 0), some (iv x1), some (iv x2), some (iv x3)] [iv s0_85] (fm m74) (XK Q) := by
          intro s0_85 r_s0_85 hR
          have H := HJ_85 s0_85 r_s0_85 hR
          exact f_iret rfl r_s0_85 H
        refine z_eq rfl r_v74 (fun hq => ?_) (fun hq => ?_)
        · replace H := H.1 hq
          refine f_int 0 rfl rfl ?_
          exact tl_85 0 (by unfold rg; decide) H
        · replace H := H.2 hq
          refine f_int 1 rfl rfl ?_
          refine w_st (fun _ => rfl) ?_
          exact tl_85 1 (by unfold rg; decide) H
      · replace H := H.2
        by_cases e1_31 : x3 = 1
        · refine f_tsw 1 rfl r_x3 e1_31 rfl rfl ?_
          replace H := H.1 e1_31
          refine w_st (fun _ => rfl) ?_
          refine g_0_3 rfl ?_
          refine k_VK (as := []) rfl mg_128 rfl rfl (by decide) rfl rfl H (fun m90 v90 r_v90 H => ?_)
          exact f_iret rfl r_v90 H
        · replace H := H.2
          by_cases e2_31 : x3 = 2
          · refine f_tsw 2 rfl r_x3 e2_31 rfl rfl ?_
            replace H := H.1 e2_31
            refine w_st (fun _ => rfl) ?_
            refine g_0_3 rfl ?_
            refine f_int 0 rfl rfl ?_
            refine k_VK (as := [iv 0]) rfl mg_128 rfl rfl (by decide) rfl rfl H (fun m99 v99 r_v99 H => ?_)
            obtain ⟨R_110, H, HJ_110⟩ := H
            have tl_110 : ∀ (s0_110 : Int) , rg s0_110 → R_110 s0_110 → mm_W d mc_128 110 [some (.ref 0), some (iv x1), some (iv x2), some (iv x3)] [iv s0_110] (fm m99) (XK Q) := by
              intro s0_110 r_s0_110 hR
              have H := HJ_110 s0_110 r_s0_110 hR
              exact f_iret rfl r_s0_110 H
            refine z_eq rfl r_v99 (fun hq => ?_) (fun hq => ?_)
            · replace H := H.1 hq
              refine f_int 0 rfl rfl ?_
              exact tl_110 0 (by unfold rg; decide) H
            · replace H := H.2 hq
              refine f_int 1 rfl rfl ?_
              refine w_st (fun _ => rfl) ?_
              exact tl_110 1 (by unfold rg; decide) H
          · replace H := H.2
            by_cases e3_31 : x3 = 3
            · refine f_tsw 3 rfl r_x3 e3_31 rfl rfl ?_
              replace H := H.1 e3_31
              refine w_st (fun _ => rfl) ?_
              refine g_0_3 rfl ?_
              refine f_int 1 rfl rfl ?_
              refine k_VK (as := [iv 1]) rfl mg_128 rfl rfl (by decide) rfl rfl H (fun m116 v116 r_v116 H => ?_)
              obtain ⟨R_127, H, HJ_127⟩ := H
              have tl_127 : ∀ (s0_127 : Int) , rg s0_127 → R_127 s0_127 → mm_W d mc_128 127 [some (.ref 0), some (iv x1), some (iv x2), some (iv x3)] [iv s0_127] (fm m116) (XK Q) := by
                intro s0_127 r_s0_127 hR
                have H := HJ_127 s0_127 r_s0_127 hR
                exact f_iret rfl r_s0_127 H
              refine z_eq rfl r_v116 (fun hq => ?_) (fun hq => ?_)
              · replace H := H.1 hq
                refine f_int 0 rfl rfl ?_
                exact tl_127 0 (by unfold rg; decide) H
              · replace H := H.2 hq
                refine f_int 1 rfl rfl ?_
                refine w_st (fun _ => rfl) ?_
                exact tl_127 1 (by unfold rg; decide) H
            · replace H := H.2
              by_cases e4_31 : x3 = 4
              · refine f_tsw 4 rfl r_x3 e4_31 rfl rfl ?_
                replace H := H.1 e4_31
                refine w_st (fun _ => rfl) ?_
                refine g_0_3 rfl ?_
                refine k_VK (as := []) rfl mg_128 rfl rfl (by decide) rfl rfl H (fun m132 v132 r_v132 H => ?_)
                exact f_iret rfl r_v132 H
              · replace H := H.2
                refine f_tswd rfl r_x3 (by omega) ?_
                replace H := H (by omega)
                refine f_int (-1) rfl rfl ?_
                exact f_iret rfl (by unfold rg; decide) H
    · replace H := H.2 hq
      exact tl_15 m9  H
/-- TippedCrates.tip(II)I -/
def P_129 (d : Nat) (m : Mm) (x1 : Int) (x2 : Int) (Q : Mm → Int → Prop) : Prop :=
  CK d 162 [.ref 0, iv x1] m (fun m2 v2 =>
    (∃ R_31 : Mm → Prop,
    ((v2 = 0 → R_31 m2) ∧
    (¬ v2 = 0 → CK d 165 [iv x2] m2 (fun m9 v9 =>
      ((v9 = 0 → R_31 m9) ∧
      (¬ v9 = 0 → CK d 1 [.ref 30, .ref 274, iv x1, iv x2] m9 (fun m25 v25 =>
        ((¬ v25 = 0 → CV d 21 [.ref 55, .ref 274] m25 (fun m41 =>
          CV d 7 [.ref 30, .ref 274, iv x1, iv x2] m41 (fun m54 =>
          (((0 : Int) ≤ x1 ∧ x1 < 3) ∧ Q m54 (rd m54 276 (Int.toNat x1)))))) ∧
        (v25 = 0 → R_31 m25)))))))) ∧
    (∀ (m_31 : Mm), R_31 m_31 →
    Q m_31 (-1))))
set_option maxRecDepth 20000 in
theorem br_129 {d : Nat} {m : Mm} {x1 : Int} {x2 : Int} {Q : Mm → Int → Prop} (r_x1 : rg x1) (r_x2 : rg x2) (H : P_129 d m x1 x2 Q) : CK (d + 1) 129 [.ref 0, iv x1, iv x2] m Q := by
  unfold P_129 at H
  refine CK_of rfl ?_
  show mm_W d mc_129 0 [some (.ref 0), some (iv x1), some (iv x2)] [] (fm m) (XK Q)
  refine w_st (fun _ => rfl) ?_
  refine w_st (fun _ => rfl) ?_
  refine k_VK (as := [iv x1]) rfl mg_129 rfl rfl (by decide) rfl rfl H (fun m2 v2 r_v2 H => ?_)
  obtain ⟨R_31, H, HJ_31⟩ := H
  have tl_31 : ∀ (m_31 : Mm), R_31 m_31 → mm_W d mc_129 31 [some (.ref 0), some (iv x1), some (iv x2)] [] (fm m_31) (XK Q) := by
    intro m_31  hR
    have H := HJ_31 m_31  hR
    refine f_int (-1) rfl rfl ?_
    exact f_iret rfl (by unfold rg; decide) H
  refine z_eq rfl r_v2 (fun hq => ?_) (fun hq => ?_)
  · replace H := H.1 hq
    exact tl_31 m2  H
  · replace H := H.2 hq
    refine w_st (fun _ => rfl) ?_
    refine k_SK (as := [iv x2]) rfl mg_129 rfl rfl rfl H (fun m9 v9 r_v9 H => ?_)
    refine z_eq rfl r_v9 (fun hq => ?_) (fun hq => ?_)
    · replace H := H.1 hq
      exact tl_31 m9  H
    · replace H := H.2 hq
      refine w_st (fun _ => rfl) ?_
      refine g_0_3 rfl ?_
      refine w_st (fun _ => rfl) ?_
      refine g_0_9 rfl ?_
      refine w_st (fun _ => rfl) ?_
      refine w_st (fun _ => rfl) ?_
      refine k_VK (as := [.ref 274, iv x1, iv x2]) rfl mg_129 rfl rfl (by decide) rfl rfl H (fun m25 v25 r_v25 H => ?_)
      refine z_ne rfl r_v25 (fun hq => ?_) (fun hq => ?_)
      · replace H := H.1 hq
        refine w_st (fun _ => rfl) ?_
        refine g_0_8 rfl ?_
        refine w_st (fun _ => rfl) ?_
        refine g_0_9 rfl ?_
        refine k_VV (as := [.ref 274]) rfl mg_129 rfl rfl (by decide) rfl rfl H (fun m41 H => ?_)
        refine w_st (fun _ => rfl) ?_
        refine g_0_3 rfl ?_
        refine w_st (fun _ => rfl) ?_
        refine g_0_9 rfl ?_
        refine w_st (fun _ => rfl) ?_
        refine w_st (fun _ => rfl) ?_
        refine k_VV (as := [.ref 274, iv x1, iv x2]) rfl mg_129 rfl rfl (by decide) rfl rfl H (fun m54 H => ?_)
        refine w_st (fun _ => rfl) ?_
        refine g_0_9 rfl ?_
        refine f_getr rfl (st_l0 st_274) (st_ck st_274 _ _).1 rfl ?_
        refine w_st (fun _ => rfl) ?_
        refine f_ld (st_2 st_274) rfl H.1 ?_
        replace H := H.2
        exact f_iret rfl (rd_rg _ _ _) H
      · replace H := H.2 hq
        exact tl_31 m25  H
/-- TippedCrates.paint(II)Z -/
def P_130 (d : Nat) (m : Mm) (x1 : Int) (x2 : Int) (Q : Mm → Int → Prop) : Prop :=
  CK d 163 [.ref 0, iv x1] m (fun m2 v2 =>
    (∃ R_28 : Mm → Prop,
    ((v2 = 0 → R_28 m2) ∧
    (¬ v2 = 0 → CK d 164 [iv x2] m2 (fun m9 v9 =>
      ((v9 = 0 → R_28 m9) ∧
      (¬ v9 = 0 → (((0 : Int) ≤ x1 ∧ x1 < 25) ∧ ((¬ (rd m9 275 (Int.toNat x1)) = x2 → CK d 31 [.ref 7, iv x1] m9 (fun m35 v35 =>
          (∃ R_53 : Mm → Prop,
          ((¬ v35 = 0 → R_53 m35) ∧
          (v35 = 0 → CK d 77 [.ref 274, iv x1] m35 (fun m46 v46 =>
            ((v46 = (-1) → CV d 21 [.ref 55, .ref 274] m46 (fun m63 =>
              (((0 : Int) ≤ x1 ∧ x1 < 25) ∧ (∀ m75 : Mm, m75 = wt m63 275 (Int.toNat x1) x2 → Q m75 1)))) ∧
            (¬ v46 = (-1) → R_53 m46))))) ∧
          (∀ (m_53 : Mm), R_53 m_53 →
          Q m_53 0)))) ∧
        ((rd m9 275 (Int.toNat x1)) = x2 → R_28 m9)))))))) ∧
    (∀ (m_28 : Mm), R_28 m_28 →
    Q m_28 0)))
set_option maxRecDepth 20000 in
theorem br_130 {d : Nat} {m : Mm} {x1 : Int} {x2 : Int} {Q : Mm → Int → Prop} (r_x1 : rg x1) (r_x2 : rg x2) (H : P_130 d m x1 x2 Q) : CK (d + 1) 130 [.ref 0, iv x1, iv x2] m Q := by
  unfold P_130 at H
  refine CK_of rfl ?_
  show mm_W d mc_130 0 [some (.ref 0), some (iv x1), some (iv x2)] [] (fm m) (XK Q)
  refine w_st (fun _ => rfl) ?_
  refine w_st (fun _ => rfl) ?_
  refine k_VK (as := [iv x1]) rfl mg_130 rfl rfl (by decide) rfl rfl H (fun m2 v2 r_v2 H => ?_)
  obtain ⟨R_28, H, HJ_28⟩ := H
  have tl_28 : ∀ (m_28 : Mm), R_28 m_28 → mm_W d mc_130 28 [some (.ref 0), some (iv x1), some (iv x2)] [] (fm m_28) (XK Q) := by
    intro m_28  hR
    have H := HJ_28 m_28  hR
    refine f_int 0 rfl rfl ?_
    exact f_zret rfl (by unfold rg; decide) (Or.inl rfl) H
  refine z_eq rfl r_v2 (fun hq => ?_) (fun hq => ?_)
  · replace H := H.1 hq
    exact tl_28 m2  H
  · replace H := H.2 hq
    refine w_st (fun _ => rfl) ?_
    refine k_SK (as := [iv x2]) rfl mg_130 rfl rfl rfl H (fun m9 v9 r_v9 H => ?_)
    refine z_eq rfl r_v9 (fun hq => ?_) (fun hq => ?_)
    · replace H := H.1 hq
      exact tl_28 m9  H
    · replace H := H.2 hq
      refine w_st (fun _ => rfl) ?_
      refine g_0_9 rfl ?_
      refine f_getr rfl (st_l0 st_274) (st_ck st_274 _ _).1 rfl ?_
      refine w_st (fun _ => rfl) ?_
      refine f_ld (st_1 st_274) rfl H.1 ?_
      replace H := H.2
      refine w_st (fun _ => rfl) ?_
      refine b_ne rfl (rd_rg _ _ _) r_x2 (fun hq => ?_) (fun hq => ?_)
      · replace H := H.1 hq
        refine w_st (fun _ => rfl) ?_
        refine g_0_1 rfl ?_
        refine w_st (fun _ => rfl) ?_
        refine k_VK (as := [iv x1]) rfl mg_130 rfl rfl (by decide) rfl rfl H (fun m35 v35 r_v35 H => ?_)
        obtain ⟨R_53, H, HJ_53⟩ := H
        have tl_53 : ∀ (m_53 : Mm), R_53 m_53 → mm_W d mc_130 53 [some (.ref 0), some (iv x1), some (iv x2)] [] (fm m_53) (XK Q) := by
          intro m_53  hR
          have H := HJ_53 m_53  hR
          refine f_int 0 rfl rfl ?_
          exact f_zret rfl (by unfold rg; decide) (Or.inl rfl) H
        refine z_ne rfl r_v35 (fun hq => ?_) (fun hq => ?_)
        · replace H := H.1 hq
          exact tl_53 m35  H
        · replace H := H.2 hq
          refine w_st (fun _ => rfl) ?_
          refine g_0_9 rfl ?_
          refine w_st (fun _ => rfl) ?_
          refine k_VK (as := [iv x1]) rfl mg_130 rfl rfl (st_l0 st_274) (st_ck st_274 _ _).1 rfl H (fun m46 v46 r_v46 H => ?_)
          refine f_int (-1) rfl rfl ?_
          refine b_eq rfl r_v46 (by unfold rg; decide) (fun hq => ?_) (fun hq => ?_)
          · replace H := H.1 hq
            refine w_st (fun _ => rfl) ?_
            refine g_0_8 rfl ?_
            refine w_st (fun _ => rfl) ?_
            refine g_0_9 rfl ?_
            refine k_VV (as := [.ref 274]) rfl mg_130 rfl rfl (by decide) rfl rfl H (fun m63 H => ?_)
            refine w_st (fun _ => rfl) ?_
            refine g_0_9 rfl ?_
            refine f_getr rfl (st_l0 st_274) (st_ck st_274 _ _).1 rfl ?_
            refine w_st (fun _ => rfl) ?_
            refine w_st (fun _ => rfl) ?_
            obtain ⟨m75, e_m75⟩ : ∃ q : Mm, q = wt m63 275 (Int.toNat x1) x2 := ⟨_, rfl⟩
            refine f_st (st_1 st_274) rfl H.1 e_m75 ?_
            replace H := H.2 m75 e_m75
            refine f_int 1 rfl rfl ?_
            exact f_zret rfl (by unfold rg; decide) (Or.inr rfl) H
          · replace H := H.2 hq
            exact tl_53 m46  H
      · replace H := H.2 hq
        exact tl_28 m9  H
/-- TippedCrates.minutes(I)I -/
def P_131 (d : Nat) (m : Mm) (x1 : Int) (Q : Mm → Int → Prop) : Prop :=
  CK d 166 [iv x1, iv 0, iv 60] m (fun m4 v4 =>
    ((¬ v4 = 0 → (∃ R_46 : Mm → Prop,
      ((x1 ≤ 0 → R_46 m4) ∧
      (¬ x1 ≤ 0 → CV d 21 [.ref 55, .ref 274] m4 (fun m24 =>
        CV d 8 [.ref 30, .ref 274, iv x1, iv (rd m24 7 2)] m24 (fun m43 =>
        R_46 m43)))) ∧
      (∀ (m_46 : Mm), R_46 m_46 →
      Q m_46 (rd m_46 274 5)))) ∧
    (v4 = 0 → Q m4 (-1))))
set_option maxRecDepth 20000 in
theorem br_131 {d : Nat} {m : Mm} {x1 : Int} {Q : Mm → Int → Prop} (r_x1 : rg x1) (H : P_131 d m x1 Q) : CK (d + 1) 131 [.ref 0, iv x1] m Q := by
  unfold P_131 at H
  refine CK_of rfl ?_
  show mm_W d mc_131 0 [some (.ref 0), some (iv x1)] [] (fm m) (XK Q)
  refine w_st (fun _ => rfl) ?_
  refine f_int 0 rfl rfl ?_
  refine f_int 60 rfl rfl ?_
  refine k_SK (as := [iv x1, iv 0, iv 60]) rfl mg_131 rfl rfl rfl H (fun m4 v4 r_v4 H => ?_)
  refine z_ne rfl r_v4 (fun hq => ?_) (fun hq => ?_)
  · replace H := H.1 hq
    refine w_st (fun _ => rfl) ?_
    obtain ⟨R_46, H, HJ_46⟩ := H
    have tl_46 : ∀ (m_46 : Mm), R_46 m_46 → mm_W d mc_131 46 [some (.ref 0), some (iv x1)] [] (fm m_46) (XK Q) := by
      intro m_46  hR
      have H := HJ_46 m_46  hR
      refine w_st (fun _ => rfl) ?_
      refine g_0_9 rfl ?_
      refine f_get rfl (st_l0 st_274) (st_ck st_274 _ _).1 rfl ?_
      exact f_iret rfl (rd_rg _ _ _) H
    refine z_le rfl r_x1 (fun hq => ?_) (fun hq => ?_)
    · replace H := H.1 hq
      exact tl_46 m4  H
    · replace H := H.2 hq
      refine w_st (fun _ => rfl) ?_
      refine g_0_8 rfl ?_
      refine w_st (fun _ => rfl) ?_
      refine g_0_9 rfl ?_
      refine k_VV (as := [.ref 274]) rfl mg_131 rfl rfl (by decide) rfl rfl H (fun m24 H => ?_)
      refine w_st (fun _ => rfl) ?_
      refine g_0_3 rfl ?_
      refine w_st (fun _ => rfl) ?_
      refine g_0_9 rfl ?_
      refine w_st (fun _ => rfl) ?_
      refine w_st (fun _ => rfl) ?_
      refine g_0_1 rfl ?_
      refine g_7_2 rfl ?_
      refine k_VV (as := [.ref 274, iv x1, iv (rd m24 7 2)]) rfl mg_131 rfl rfl (by decide) rfl rfl H (fun m43 H => ?_)
      exact tl_46 m43  H
  · replace H := H.2 hq
    refine f_int (-1) rfl rfl ?_
    exact f_iret rfl (by unfold rg; decide) H
/-- TippedCrates.undo()Z -/
def P_132 (d : Nat) (m : Mm)  (Q : Mm → Int → Prop) : Prop :=
  CK d 22 [.ref 55, .ref 274] m (fun m8 v8 =>
    ((v8 = 0 ∨ v8 = 1) ∧ Q m8 v8))
set_option maxRecDepth 20000 in
theorem br_132 {d : Nat} {m : Mm}  {Q : Mm → Int → Prop}  (H : P_132 d m  Q) : CK (d + 1) 132 [.ref 0] m Q := by
  unfold P_132 at H
  refine CK_of rfl ?_
  show mm_W d mc_132 0 [some (.ref 0)] [] (fm m) (XK Q)
  refine w_st (fun _ => rfl) ?_
  refine g_0_8 rfl ?_
  refine w_st (fun _ => rfl) ?_
  refine g_0_9 rfl ?_
  refine k_VK (as := [.ref 274]) rfl mg_132 rfl rfl (by decide) rfl rfl H (fun m8 v8 r_v8 H => ?_)
  exact f_zret rfl r_v8 H.1 H.2
/-- TippedCrates.fewest(IIII)I -/
def P_133 (d : Nat) (m : Mm) (x1 : Int) (x2 : Int) (x3 : Int) (x4 : Int) (Q : Mm → Int → Prop) : Prop :=
  CK d 162 [.ref 0, iv x1] m (fun m2 v2 =>
    (∃ R_23 : Mm → Prop,
    ((v2 = 0 → R_23 m2) ∧
    (¬ v2 = 0 → CK d 163 [.ref 0, iv x2] m2 (fun m10 v10 =>
      ((v10 = 0 → R_23 m10) ∧
      (¬ v10 = 0 → CK d 164 [iv x3] m10 (fun m17 v17 =>
        ((¬ v17 = 0 → CV d 70 [.ref 36, .ref 274, iv x1] m17 (fun m34 =>
          CV d 105 [.ref 39] m34 (fun m41 =>
          CK d 107 [.ref 39, iv x2, iv x3] m41 (fun m54 v54 =>
          CK d 108 [.ref 39, iv v54, iv x4] m54 (fun m59 v59 =>
          Q m59 v59))))) ∧
        (v17 = 0 → R_23 m17)))))))) ∧
    (∀ (m_23 : Mm), R_23 m_23 →
    Q m_23 (-1))))
set_option maxRecDepth 20000 in
theorem br_133 {d : Nat} {m : Mm} {x1 : Int} {x2 : Int} {x3 : Int} {x4 : Int} {Q : Mm → Int → Prop} (r_x1 : rg x1) (r_x2 : rg x2) (r_x3 : rg x3) (r_x4 : rg x4) (H : P_133 d m x1 x2 x3 x4 Q) : CK (d + 1) 133 [.ref 0, iv x1, iv x2, iv x3, iv x4] m Q := by
  unfold P_133 at H
  refine CK_of rfl ?_
  show mm_W d mc_133 0 [some (.ref 0), some (iv x1), some (iv x2), some (iv x3), some (iv x4)] [] (fm m) (XK Q)
  refine w_st (fun _ => rfl) ?_
  refine w_st (fun _ => rfl) ?_
  refine k_VK (as := [iv x1]) rfl mg_133 rfl rfl (by decide) rfl rfl H (fun m2 v2 r_v2 H => ?_)
  obtain ⟨R_23, H, HJ_23⟩ := H
  have tl_23 : ∀ (m_23 : Mm), R_23 m_23 → mm_W d mc_133 23 [some (.ref 0), some (iv x1), some (iv x2), some (iv x3), some (iv x4)] [] (fm m_23) (XK Q) := by
    intro m_23  hR
    have H := HJ_23 m_23  hR
    refine f_int (-1) rfl rfl ?_
    exact f_iret rfl (by unfold rg; decide) H
  refine z_eq rfl r_v2 (fun hq => ?_) (fun hq => ?_)
  · replace H := H.1 hq
    exact tl_23 m2  H
  · replace H := H.2 hq
    refine w_st (fun _ => rfl) ?_
    refine w_st (fun _ => rfl) ?_
    refine k_VK (as := [iv x2]) rfl mg_133 rfl rfl (by decide) rfl rfl H (fun m10 v10 r_v10 H => ?_)
    refine z_eq rfl r_v10 (fun hq => ?_) (fun hq => ?_)
    · replace H := H.1 hq
      exact tl_23 m10  H
    · replace H := H.2 hq
      refine w_st (fun _ => rfl) ?_
      refine k_SK (as := [iv x3]) rfl mg_133 rfl rfl rfl H (fun m17 v17 r_v17 H => ?_)
      refine z_ne rfl r_v17 (fun hq => ?_) (fun hq => ?_)
      · replace H := H.1 hq
        refine w_st (fun _ => rfl) ?_
        refine g_0_5 rfl ?_
        refine w_st (fun _ => rfl) ?_
        refine g_0_9 rfl ?_
        refine w_st (fun _ => rfl) ?_
        refine k_VV (as := [.ref 274, iv x1]) rfl mg_133 rfl rfl (by decide) rfl rfl H (fun m34 H => ?_)
        refine w_st (fun _ => rfl) ?_
        refine g_0_6 rfl ?_
        refine k_VV (as := []) rfl mg_133 rfl rfl (by decide) rfl rfl H (fun m41 H => ?_)
        refine w_st (fun _ => rfl) ?_
        refine g_0_6 rfl ?_
        refine w_st (fun _ => rfl) ?_
        refine g_0_6 rfl ?_
        refine w_st (fun _ => rfl) ?_
        refine w_st (fun _ => rfl) ?_
        refine k_VK (as := [iv x2, iv x3]) rfl mg_133 rfl rfl (by decide) rfl rfl H (fun m54 v54 r_v54 H => ?_)
        refine w_st (fun _ => rfl) ?_
        refine k_VK (as := [iv v54, iv x4]) rfl mg_133 rfl rfl (by decide) rfl rfl H (fun m59 v59 r_v59 H => ?_)
        exact f_iret rfl r_v59 H
      · replace H := H.2 hq
        exact tl_23 m17  H
/-- TippedCrates.cheapest(II)I -/
def P_134 (d : Nat) (m : Mm) (x1 : Int) (x2 : Int) (Q : Mm → Int → Prop) : Prop :=
  CK d 162 [.ref 0, iv x1] m (fun m2 v2 =>
    (∃ R_16 : Mm → Prop,
    ((v2 = 0 → R_16 m2) ∧
    (¬ v2 = 0 → CK d 163 [.ref 0, iv x2] m2 (fun m10 v10 =>
      ((¬ v10 = 0 → CV d 70 [.ref 36, .ref 274, iv x1] m10 (fun m27 =>
        CK d 115 [.ref 39, .ref 274, iv x1, iv x2] m27 (fun m40 v40 =>
        Q m40 v40))) ∧
      (v10 = 0 → R_16 m10))))) ∧
    (∀ (m_16 : Mm), R_16 m_16 →
    Q m_16 (-1))))
set_option maxRecDepth 20000 in
theorem br_134 {d : Nat} {m : Mm} {x1 : Int} {x2 : Int} {Q : Mm → Int → Prop} (r_x1 : rg x1) (r_x2 : rg x2) (H : P_134 d m x1 x2 Q) : CK (d + 1) 134 [.ref 0, iv x1, iv x2] m Q := by
  unfold P_134 at H
  refine CK_of rfl ?_
  show mm_W d mc_134 0 [some (.ref 0), some (iv x1), some (iv x2)] [] (fm m) (XK Q)
  refine w_st (fun _ => rfl) ?_
  refine w_st (fun _ => rfl) ?_
  refine k_VK (as := [iv x1]) rfl mg_134 rfl rfl (by decide) rfl rfl H (fun m2 v2 r_v2 H => ?_)
  obtain ⟨R_16, H, HJ_16⟩ := H
  have tl_16 : ∀ (m_16 : Mm), R_16 m_16 → mm_W d mc_134 16 [some (.ref 0), some (iv x1), some (iv x2)] [] (fm m_16) (XK Q) := by
    intro m_16  hR
    have H := HJ_16 m_16  hR
    refine f_int (-1) rfl rfl ?_
    exact f_iret rfl (by unfold rg; decide) H
  refine z_eq rfl r_v2 (fun hq => ?_) (fun hq => ?_)
  · replace H := H.1 hq
    exact tl_16 m2  H
  · replace H := H.2 hq
    refine w_st (fun _ => rfl) ?_
    refine w_st (fun _ => rfl) ?_
    refine k_VK (as := [iv x2]) rfl mg_134 rfl rfl (by decide) rfl rfl H (fun m10 v10 r_v10 H => ?_)
    refine z_ne rfl r_v10 (fun hq => ?_) (fun hq => ?_)
    · replace H := H.1 hq
      refine w_st (fun _ => rfl) ?_
      refine g_0_5 rfl ?_
      refine w_st (fun _ => rfl) ?_
      refine g_0_9 rfl ?_
      refine w_st (fun _ => rfl) ?_
      refine k_VV (as := [.ref 274, iv x1]) rfl mg_134 rfl rfl (by decide) rfl rfl H (fun m27 H => ?_)
      refine w_st (fun _ => rfl) ?_
      refine g_0_6 rfl ?_
      refine w_st (fun _ => rfl) ?_
      refine g_0_9 rfl ?_
      refine w_st (fun _ => rfl) ?_
      refine w_st (fun _ => rfl) ?_
      refine k_VK (as := [.ref 274, iv x1, iv x2]) rfl mg_134 rfl rfl (by decide) rfl rfl H (fun m40 v40 r_v40 H => ?_)
      exact f_iret rfl r_v40 H
    · replace H := H.2 hq
      exact tl_16 m10  H
/-- TippedCrates.never(II)I -/
def P_135 (d : Nat) (m : Mm) (x1 : Int) (x2 : Int) (Q : Mm → Int → Prop) : Prop :=
  CK d 162 [.ref 0, iv x1] m (fun m2 v2 =>
    (∃ R_15 : Mm → Prop,
    ((v2 = 0 → R_15 m2) ∧
    (¬ v2 = 0 → CK d 164 [iv x2] m2 (fun m9 v9 =>
      ((¬ v9 = 0 → CV d 70 [.ref 36, .ref 274, iv x1] m9 (fun m26 =>
        CV d 105 [.ref 39] m26 (fun m33 =>
        CK d 32 [.ref 7] m33 (fun m40 v40 =>
        CK d 109 [.ref 39, iv x2] m40 (fun m48 v48 =>
        Q m48 (anI v40 (xoI v48 (-1)))))))) ∧
      (v9 = 0 → R_15 m9))))) ∧
    (∀ (m_15 : Mm), R_15 m_15 →
    Q m_15 (-1))))
set_option maxRecDepth 20000 in
theorem br_135 {d : Nat} {m : Mm} {x1 : Int} {x2 : Int} {Q : Mm → Int → Prop} (r_x1 : rg x1) (r_x2 : rg x2) (H : P_135 d m x1 x2 Q) : CK (d + 1) 135 [.ref 0, iv x1, iv x2] m Q := by
  unfold P_135 at H
  refine CK_of rfl ?_
  show mm_W d mc_135 0 [some (.ref 0), some (iv x1), some (iv x2)] [] (fm m) (XK Q)
  refine w_st (fun _ => rfl) ?_
  refine w_st (fun _ => rfl) ?_
  refine k_VK (as := [iv x1]) rfl mg_135 rfl rfl (by decide) rfl rfl H (fun m2 v2 r_v2 H => ?_)
  obtain ⟨R_15, H, HJ_15⟩ := H
  have tl_15 : ∀ (m_15 : Mm), R_15 m_15 → mm_W d mc_135 15 [some (.ref 0), some (iv x1), some (iv x2)] [] (fm m_15) (XK Q) := by
    intro m_15  hR
    have H := HJ_15 m_15  hR
    refine f_int (-1) rfl rfl ?_
    exact f_iret rfl (by unfold rg; decide) H
  refine z_eq rfl r_v2 (fun hq => ?_) (fun hq => ?_)
  · replace H := H.1 hq
    exact tl_15 m2  H
  · replace H := H.2 hq
    refine w_st (fun _ => rfl) ?_
    refine k_SK (as := [iv x2]) rfl mg_135 rfl rfl rfl H (fun m9 v9 r_v9 H => ?_)
    refine z_ne rfl r_v9 (fun hq => ?_) (fun hq => ?_)
    · replace H := H.1 hq
      refine w_st (fun _ => rfl) ?_
      refine g_0_5 rfl ?_
      refine w_st (fun _ => rfl) ?_
      refine g_0_9 rfl ?_
      refine w_st (fun _ => rfl) ?_
      refine k_VV (as := [.ref 274, iv x1]) rfl mg_135 rfl rfl (by decide) rfl rfl H (fun m26 H => ?_)
      refine w_st (fun _ => rfl) ?_
      refine g_0_6 rfl ?_
      refine k_VV (as := []) rfl mg_135 rfl rfl (by decide) rfl rfl H (fun m33 H => ?_)
      refine w_st (fun _ => rfl) ?_
      refine g_0_1 rfl ?_
      refine k_VK (as := []) rfl mg_135 rfl rfl (by decide) rfl rfl H (fun m40 v40 r_v40 H => ?_)
      refine w_st (fun _ => rfl) ?_
      refine g_0_6 rfl ?_
      refine w_st (fun _ => rfl) ?_
      refine k_VK (as := [iv x2]) rfl mg_135 rfl rfl (by decide) rfl rfl H (fun m48 v48 r_v48 H => ?_)
      refine f_int (-1) rfl rfl ?_
      refine f_xoI rfl ?_
      refine f_anI rfl ?_
      exact f_iret rfl (io_rg _ _ _) H
    · replace H := H.2 hq
      exact tl_15 m9  H
/-- TippedCrates.nearest(III)I -/
def P_136 (d : Nat) (m : Mm) (x1 : Int) (x2 : Int) (x3 : Int) (Q : Mm → Int → Prop) : Prop :=
  CK d 162 [.ref 0, iv x1] m (fun m2 v2 =>
    (∃ R_24 : Mm → Prop,
    ((v2 = 0 → R_24 m2) ∧
    (¬ v2 = 0 → CK d 164 [iv x2] m2 (fun m9 v9 =>
      ((v9 = 0 → R_24 m9) ∧
      (¬ v9 = 0 → CK d 166 [iv x3, iv 0, iv 1] m9 (fun m18 v18 =>
        ((¬ v18 = 0 → CV d 70 [.ref 36, .ref 274, iv x1] m18 (fun m35 =>
          CV d 105 [.ref 39] m35 (fun m42 =>
          CK d 110 [.ref 39, iv x2, iv x3] m42 (fun m51 v51 =>
          Q m51 v51)))) ∧
        (v18 = 0 → R_24 m18)))))))) ∧
    (∀ (m_24 : Mm), R_24 m_24 →
    Q m_24 (-1))))
set_option maxRecDepth 20000 in
theorem br_136 {d : Nat} {m : Mm} {x1 : Int} {x2 : Int} {x3 : Int} {Q : Mm → Int → Prop} (r_x1 : rg x1) (r_x2 : rg x2) (r_x3 : rg x3) (H : P_136 d m x1 x2 x3 Q) : CK (d + 1) 136 [.ref 0, iv x1, iv x2, iv x3] m Q := by
  unfold P_136 at H
  refine CK_of rfl ?_
  show mm_W d mc_136 0 [some (.ref 0), some (iv x1), some (iv x2), some (iv x3)] [] (fm m) (XK Q)
  refine w_st (fun _ => rfl) ?_
  refine w_st (fun _ => rfl) ?_
  refine k_VK (as := [iv x1]) rfl mg_136 rfl rfl (by decide) rfl rfl H (fun m2 v2 r_v2 H => ?_)
  obtain ⟨R_24, H, HJ_24⟩ := H
  have tl_24 : ∀ (m_24 : Mm), R_24 m_24 → mm_W d mc_136 24 [some (.ref 0), some (iv x1), some (iv x2), some (iv x3)] [] (fm m_24) (XK Q) := by
    intro m_24  hR
    have H := HJ_24 m_24  hR
    refine f_int (-1) rfl rfl ?_
    exact f_iret rfl (by unfold rg; decide) H
  refine z_eq rfl r_v2 (fun hq => ?_) (fun hq => ?_)
  · replace H := H.1 hq
    exact tl_24 m2  H
  · replace H := H.2 hq
    refine w_st (fun _ => rfl) ?_
    refine k_SK (as := [iv x2]) rfl mg_136 rfl rfl rfl H (fun m9 v9 r_v9 H => ?_)
    refine z_eq rfl r_v9 (fun hq => ?_) (fun hq => ?_)
    · replace H := H.1 hq
      exact tl_24 m9  H
    · replace H := H.2 hq
      refine w_st (fun _ => rfl) ?_
      refine f_int 0 rfl rfl ?_
      refine f_int 1 rfl rfl ?_
      refine k_SK (as := [iv x3, iv 0, iv 1]) rfl mg_136 rfl rfl rfl H (fun m18 v18 r_v18 H => ?_)
      refine z_ne rfl r_v18 (fun hq => ?_) (fun hq => ?_)
      · replace H := H.1 hq
        refine w_st (fun _ => rfl) ?_
        refine g_0_5 rfl ?_
        refine w_st (fun _ => rfl) ?_
        refine g_0_9 rfl ?_
        refine w_st (fun _ => rfl) ?_
        refine k_VV (as := [.ref 274, iv x1]) rfl mg_136 rfl rfl (by decide) rfl rfl H (fun m35 H => ?_)
        refine w_st (fun _ => rfl) ?_
        refine g_0_6 rfl ?_
        refine k_VV (as := []) rfl mg_136 rfl rfl (by decide) rfl rfl H (fun m42 H => ?_)
        refine w_st (fun _ => rfl) ?_
        refine g_0_6 rfl ?_
        refine w_st (fun _ => rfl) ?_
        refine w_st (fun _ => rfl) ?_
        refine k_VK (as := [iv x2, iv x3]) rfl mg_136 rfl rfl (by decide) rfl rfl H (fun m51 v51 r_v51 H => ?_)
        exact f_iret rfl r_v51 H
      · replace H := H.2 hq
        exact tl_24 m18  H
/-- TippedCrates.spots(I)I -/
def P_137 (d : Nat) (m : Mm) (x1 : Int) (Q : Mm → Int → Prop) : Prop :=
  CK d 162 [.ref 0, iv x1] m (fun m2 v2 =>
    ((¬ v2 = 0 → CV d 70 [.ref 36, .ref 274, iv x1] m2 (fun m19 =>
      CV d 105 [.ref 39] m19 (fun m26 =>
      Q m26 (rd m26 39 0)))) ∧
    (v2 = 0 → Q m2 (-1))))
set_option maxRecDepth 20000 in
theorem br_137 {d : Nat} {m : Mm} {x1 : Int} {Q : Mm → Int → Prop} (r_x1 : rg x1) (H : P_137 d m x1 Q) : CK (d + 1) 137 [.ref 0, iv x1] m Q := by
  unfold P_137 at H
  refine CK_of rfl ?_
  show mm_W d mc_137 0 [some (.ref 0), some (iv x1)] [] (fm m) (XK Q)
  refine w_st (fun _ => rfl) ?_
  refine w_st (fun _ => rfl) ?_
  refine k_VK (as := [iv x1]) rfl mg_137 rfl rfl (by decide) rfl rfl H (fun m2 v2 r_v2 H => ?_)
  refine z_ne rfl r_v2 (fun hq => ?_) (fun hq => ?_)
  · replace H := H.1 hq
    refine w_st (fun _ => rfl) ?_
    refine g_0_5 rfl ?_
    refine w_st (fun _ => rfl) ?_
    refine g_0_9 rfl ?_
    refine w_st (fun _ => rfl) ?_
    refine k_VV (as := [.ref 274, iv x1]) rfl mg_137 rfl rfl (by decide) rfl rfl H (fun m19 H => ?_)
    refine w_st (fun _ => rfl) ?_
    refine g_0_6 rfl ?_
    refine k_VV (as := []) rfl mg_137 rfl rfl (by decide) rfl rfl H (fun m26 H => ?_)
    refine w_st (fun _ => rfl) ?_
    refine g_0_6 rfl ?_
    refine g_39_0 rfl ?_
    exact f_iret rfl (rd_rg _ _ _) H
  · replace H := H.2 hq
    refine f_int (-1) rfl rfl ?_
    exact f_iret rfl (by unfold rg; decide) H
/-- TippedCrates.round(II)I -/
def P_138 (d : Nat) (m : Mm) (x1 : Int) (x2 : Int) (Q : Mm → Int → Prop) : Prop :=
  CK d 162 [.ref 0, iv x1] m (fun m2 v2 =>
    (∃ R_17 : Mm → Prop,
    ((v2 = 0 → R_17 m2) ∧
    (¬ v2 = 0 → CK d 166 [iv x2, iv 0, iv 1] m2 (fun m11 v11 =>
      ((¬ v11 = 0 → CV d 70 [.ref 36, .ref 274, iv x1] m11 (fun m28 =>
        CV d 105 [.ref 39] m28 (fun m35 =>
        (∃ R_59 : Int → Mm → Prop,
        ((¬ x2 = 0 → CK d 112 [.ref 39] m35 (fun m56 v56 =>
          R_59 v56 m56)) ∧
        (x2 = 0 → CK d 111 [.ref 39] m35 (fun m46 v46 =>
          R_59 v46 m46))) ∧
        (∀ (s0_59 : Int) (m_59 : Mm), rg s0_59 → R_59 s0_59 m_59 →
        Q m_59 s0_59))))) ∧
      (v11 = 0 → R_17 m11))))) ∧
    (∀ (m_17 : Mm), R_17 m_17 →
    Q m_17 (-1))))
set_option maxRecDepth 20000 in
theorem br_138 {d : Nat} {m : Mm} {x1 : Int} {x2 : Int} {Q : Mm → Int → Prop} (r_x1 : rg x1) (r_x2 : rg x2) (H : P_138 d m x1 x2 Q) : CK (d + 1) 138 [.ref 0, iv x1, iv x2] m Q := by
  unfold P_138 at H
  refine CK_of rfl ?_
  show mm_W d mc_138 0 [some (.ref 0), some (iv x1), some (iv x2)] [] (fm m) (XK Q)
  refine w_st (fun _ => rfl) ?_
  refine w_st (fun _ => rfl) ?_
  refine k_VK (as := [iv x1]) rfl mg_138 rfl rfl (by decide) rfl rfl H (fun m2 v2 r_v2 H => ?_)
  obtain ⟨R_17, H, HJ_17⟩ := H
  have tl_17 : ∀ (m_17 : Mm), R_17 m_17 → mm_W d mc_138 17 [some (.ref 0), some (iv x1), some (iv x2)] [] (fm m_17) (XK Q) := by
    intro m_17  hR
    have H := HJ_17 m_17  hR
    refine f_int (-1) rfl rfl ?_
    exact f_iret rfl (by unfold rg; decide) H
  refine z_eq rfl r_v2 (fun hq => ?_) (fun hq => ?_)
  · replace H := H.1 hq
    exact tl_17 m2  H
  · replace H := H.2 hq
    refine w_st (fun _ => rfl) ?_
    refine f_int 0 rfl rfl ?_
    refine f_int 1 rfl rfl ?_
    refine k_SK (as := [iv x2, iv 0, iv 1]) rfl mg_138 rfl rfl rfl H (fun m11 v11 r_v11 H => ?_)
    refine z_ne rfl r_v11 (fun hq => ?_) (fun hq => ?_)
    · replace H := H.1 hq
      refine w_st (fun _ => rfl) ?_
      refine g_0_5 rfl ?_
      refine w_st (fun _ => rfl) ?_
      refine g_0_9 rfl ?_
      refine w_st (fun _ => rfl) ?_
      refine k_VV (as := [.ref 274, iv x1]) rfl mg_138 rfl rfl (by decide) rfl rfl H (fun m28 H => ?_)
      refine w_st (fun _ => rfl) ?_
      refine g_0_6 rfl ?_
      refine k_VV (as := []) rfl mg_138 rfl rfl (by decide) rfl rfl H (fun m35 H => ?_)
      refine w_st (fun _ => rfl) ?_
      obtain ⟨R_59, H, HJ_59⟩ := H
      have tl_59 : ∀ (s0_59 : Int) (m_59 : Mm), rg s0_59 → R_59 s0_59 m_59 → mm_W d mc_138 59 [some (.ref 0), some (iv x1), some (iv x2)] [iv s0_59] (fm m_59) (XK Q) := by
        intro s0_59 m_59 r_s0_59 hR
        have H := HJ_59 s0_59 m_59 r_s0_59 hR
        exact f_iret rfl r_s0_59 H
      refine z_ne rfl r_x2 (fun hq => ?_) (fun hq => ?_)
      · replace H := H.1 hq
        refine w_st (fun _ => rfl) ?_
        refine g_0_6 rfl ?_
        refine k_VK (as := []) rfl mg_138 rfl rfl (by decide) rfl rfl H (fun m56 v56 r_v56 H => ?_)
        exact tl_59 v56 m56 r_v56 H
      · replace H := H.2 hq
        refine w_st (fun _ => rfl) ?_
        refine g_0_6 rfl ?_
        refine k_VK (as := []) rfl mg_138 rfl rfl (by decide) rfl rfl H (fun m46 v46 r_v46 H => ?_)
        refine w_st (fun _ => rfl) ?_
        exact tl_59 v46 m46 r_v46 H
    · replace H := H.2 hq
      exact tl_17 m11  H
/-- TippedCrates.richest(III)I -/
def P_139 (d : Nat) (m : Mm) (x1 : Int) (x2 : Int) (x3 : Int) (Q : Mm → Int → Prop) : Prop :=
  CK d 162 [.ref 0, iv x1] m (fun m2 v2 =>
    (∃ R_27 : Mm → Prop,
    ((v2 = 0 → R_27 m2) ∧
    (¬ v2 = 0 → CK d 166 [iv x2, iv 0, iv 40] m2 (fun m12 v12 =>
      ((v12 = 0 → R_27 m12) ∧
      (¬ v12 = 0 → CK d 166 [iv x3, iv 0, iv 1] m12 (fun m21 v21 =>
        ((¬ v21 = 0 → CV d 70 [.ref 36, .ref 274, iv x1] m21 (fun m38 =>
          CK d 119 [.ref 39, iv x2, iv x3] m38 (fun m47 v47 =>
          Q m47 v47))) ∧
        (v21 = 0 → R_27 m21)))))))) ∧
    (∀ (m_27 : Mm), R_27 m_27 →
    Q m_27 (-1))))
set_option maxRecDepth 20000 in
theorem br_139 {d : Nat} {m : Mm} {x1 : Int} {x2 : Int} {x3 : Int} {Q : Mm → Int → Prop} (r_x1 : rg x1) (r_x2 : rg x2) (r_x3 : rg x3) (H : P_139 d m x1 x2 x3 Q) : CK (d + 1) 139 [.ref 0, iv x1, iv x2, iv x3] m Q := by
  unfold P_139 at H
  refine CK_of rfl ?_
  show mm_W d mc_139 0 [some (.ref 0), some (iv x1), some (iv x2), some (iv x3)] [] (fm m) (XK Q)
  refine w_st (fun _ => rfl) ?_
  refine w_st (fun _ => rfl) ?_
  refine k_VK (as := [iv x1]) rfl mg_139 rfl rfl (by decide) rfl rfl H (fun m2 v2 r_v2 H => ?_)
  obtain ⟨R_27, H, HJ_27⟩ := H
  have tl_27 : ∀ (m_27 : Mm), R_27 m_27 → mm_W d mc_139 27 [some (.ref 0), some (iv x1), some (iv x2), some (iv x3)] [] (fm m_27) (XK Q) := by
    intro m_27  hR
    have H := HJ_27 m_27  hR
    refine f_int (-1) rfl rfl ?_
    exact f_iret rfl (by unfold rg; decide) H
  refine z_eq rfl r_v2 (fun hq => ?_) (fun hq => ?_)
  · replace H := H.1 hq
    exact tl_27 m2  H
  · replace H := H.2 hq
    refine w_st (fun _ => rfl) ?_
    refine f_int 0 rfl rfl ?_
    refine f_int 40 rfl rfl ?_
    refine k_SK (as := [iv x2, iv 0, iv 40]) rfl mg_139 rfl rfl rfl H (fun m12 v12 r_v12 H => ?_)
    refine z_eq rfl r_v12 (fun hq => ?_) (fun hq => ?_)
    · replace H := H.1 hq
      exact tl_27 m12  H
    · replace H := H.2 hq
      refine w_st (fun _ => rfl) ?_
      refine f_int 0 rfl rfl ?_
      refine f_int 1 rfl rfl ?_
      refine k_SK (as := [iv x3, iv 0, iv 1]) rfl mg_139 rfl rfl rfl H (fun m21 v21 r_v21 H => ?_)
      refine z_ne rfl r_v21 (fun hq => ?_) (fun hq => ?_)
      · replace H := H.1 hq
        refine w_st (fun _ => rfl) ?_
        refine g_0_5 rfl ?_
        refine w_st (fun _ => rfl) ?_
        refine g_0_9 rfl ?_
        refine w_st (fun _ => rfl) ?_
        refine k_VV (as := [.ref 274, iv x1]) rfl mg_139 rfl rfl (by decide) rfl rfl H (fun m38 H => ?_)
        refine w_st (fun _ => rfl) ?_
        refine g_0_6 rfl ?_
        refine w_st (fun _ => rfl) ?_
        refine w_st (fun _ => rfl) ?_
        refine k_VK (as := [iv x2, iv x3]) rfl mg_139 rfl rfl (by decide) rfl rfl H (fun m47 v47 r_v47 H => ?_)
        exact f_iret rfl r_v47 H
      · replace H := H.2 hq
        exact tl_27 m21  H
/-- TippedCrates.spell(III)I -/
def P_140 (d : Nat) (m : Mm) (x1 : Int) (x2 : Int) (x3 : Int) (Q : Mm → Int → Prop) : Prop :=
  CK d 162 [.ref 0, iv x1] m (fun m2 v2 =>
    (∃ R_18 : Mm → Prop,
    ((v2 = 0 → R_18 m2) ∧
    (¬ v2 = 0 → CK d 166 [iv x3, iv 1, iv 6] m2 (fun m12 v12 =>
      ((¬ v12 = 0 → (∃ R_33 : Prop,
        ((x2 < 0 → R_33) ∧
        (¬ x2 < 0 → (((0 : Int) ≤ x3 ∧ x3 < 7) ∧ ((x2 < (sx 4 x3) → CV d 70 [.ref 36, .ref 274, iv x1] m12 (fun m44 =>
            CK d 64 [.ref 49, iv x2, iv x3] m44 (fun m53 v53 =>
            Q m53 v53))) ∧
          (¬ x2 < (sx 4 x3) → R_33))))) ∧
        (R_33 →
        Q m12 (-1)))) ∧
      (v12 = 0 → R_18 m12))))) ∧
    (∀ (m_18 : Mm), R_18 m_18 →
    Q m_18 (-1))))
set_option maxRecDepth 20000 in
theorem br_140 {d : Nat} {m : Mm} {x1 : Int} {x2 : Int} {x3 : Int} {Q : Mm → Int → Prop} (r_x1 : rg x1) (r_x2 : rg x2) (r_x3 : rg x3) (H : P_140 d m x1 x2 x3 Q) : CK (d + 1) 140 [.ref 0, iv x1, iv x2, iv x3] m Q := by
  unfold P_140 at H
  refine CK_of rfl ?_
  show mm_W d mc_140 0 [some (.ref 0), some (iv x1), some (iv x2), some (iv x3)] [] (fm m) (XK Q)
  refine w_st (fun _ => rfl) ?_
  refine w_st (fun _ => rfl) ?_
  refine k_VK (as := [iv x1]) rfl mg_140 rfl rfl (by decide) rfl rfl H (fun m2 v2 r_v2 H => ?_)
  obtain ⟨R_18, H, HJ_18⟩ := H
  have tl_18 : ∀ (m_18 : Mm), R_18 m_18 → mm_W d mc_140 18 [some (.ref 0), some (iv x1), some (iv x2), some (iv x3)] [] (fm m_18) (XK Q) := by
    intro m_18  hR
    have H := HJ_18 m_18  hR
    refine f_int (-1) rfl rfl ?_
    exact f_iret rfl (by unfold rg; decide) H
  refine z_eq rfl r_v2 (fun hq => ?_) (fun hq => ?_)
  · replace H := H.1 hq
    exact tl_18 m2  H
  · replace H := H.2 hq
    refine w_st (fun _ => rfl) ?_
    refine f_int 1 rfl rfl ?_
    refine f_int 6 rfl rfl ?_
    refine k_SK (as := [iv x3, iv 1, iv 6]) rfl mg_140 rfl rfl rfl H (fun m12 v12 r_v12 H => ?_)
    refine z_ne rfl r_v12 (fun hq => ?_) (fun hq => ?_)
    · replace H := H.1 hq
      refine w_st (fun _ => rfl) ?_
      obtain ⟨R_33, H, HJ_33⟩ := H
      have tl_33 : R_33 → mm_W d mc_140 33 [some (.ref 0), some (iv x1), some (iv x2), some (iv x3)] [] (fm m12) (XK Q) := by
        intro   hR
        have H := HJ_33   hR
        refine f_int (-1) rfl rfl ?_
        exact f_iret rfl (by unfold rg; decide) H
      refine z_lt rfl r_x2 (fun hq => ?_) (fun hq => ?_)
      · replace H := H.1 hq
        exact tl_33   H
      · replace H := H.2 hq
        refine w_st (fun _ => rfl) ?_
        refine w_st (fun _ => rfl) ?_
        refine w_st (fun _ => rfl) ?_
        refine f_sx (n := 7) 4 (by decide) rfl rfl H.1 ?_
        replace H := H.2
        refine b_lt rfl r_x2 (sx_rg _ _) (fun hq => ?_) (fun hq => ?_)
        · replace H := H.1 hq
          refine w_st (fun _ => rfl) ?_
          refine g_0_5 rfl ?_
          refine w_st (fun _ => rfl) ?_
          refine g_0_9 rfl ?_
          refine w_st (fun _ => rfl) ?_
          refine k_VV (as := [.ref 274, iv x1]) rfl mg_140 rfl rfl (by decide) rfl rfl H (fun m44 H => ?_)
          refine w_st (fun _ => rfl) ?_
          refine g_0_7 rfl ?_
          refine w_st (fun _ => rfl) ?_
          refine w_st (fun _ => rfl) ?_
          refine k_VK (as := [iv x2, iv x3]) rfl mg_140 rfl rfl (by decide) rfl rfl H (fun m53 v53 r_v53 H => ?_)
          exact f_iret rfl r_v53 H
        · replace H := H.2 hq
          exact tl_33   H
    · replace H := H.2 hq
      exact tl_18 m12  H
/-- TippedCrates.game(III)I -/
def P_141 (d : Nat) (m : Mm) (x1 : Int) (x2 : Int) (x3 : Int) (Q : Mm → Int → Prop) : Prop :=
  CK d 162 [.ref 0, iv x1] m (fun m2 v2 =>
    (∃ R_27 : Mm → Prop,
    ((v2 = 0 → R_27 m2) ∧
    (¬ v2 = 0 → CK d 166 [iv x2, iv 1, iv 6] m2 (fun m12 v12 =>
      ((v12 = 0 → R_27 m12) ∧
      (¬ v12 = 0 → CK d 166 [iv x3, iv 0, iv 1] m12 (fun m21 v21 =>
        ((¬ v21 = 0 → CV d 70 [.ref 36, .ref 274, iv x1] m21 (fun m38 =>
          CK d 66 [.ref 49, iv x2] m38 (fun m46 v46 =>
          (∃ R_70 : Int → Mm → Prop,
          ((¬ x3 = 0 → CK d 67 [.ref 49, iv v46, iv x2] m46 (fun m67 v67 =>
            R_70 v67 m67)) ∧
          (x3 = 0 → R_70 v46 m46)) ∧
          (∀ (s0_70 : Int) (m_70 : Mm), rg s0_70 → R_70 s0_70 m_70 →
          Q m_70 s0_70))))) ∧
        (v21 = 0 → R_27 m21)))))))) ∧
    (∀ (m_27 : Mm), R_27 m_27 →
    Q m_27 (-1))))
set_option maxRecDepth 20000 in
theorem br_141 {d : Nat} {m : Mm} {x1 : Int} {x2 : Int} {x3 : Int} {Q : Mm → Int → Prop} (r_x1 : rg x1) (r_x2 : rg x2) (r_x3 : rg x3) (H : P_141 d m x1 x2 x3 Q) : CK (d + 1) 141 [.ref 0, iv x1, iv x2, iv x3] m Q := by
  unfold P_141 at H
  refine CK_of rfl ?_
  show mm_W d mc_141 0 [some (.ref 0), some (iv x1), some (iv x2), some (iv x3), none] [] (fm m) (XK Q)
  refine w_st (fun _ => rfl) ?_
  refine w_st (fun _ => rfl) ?_
  refine k_VK (as := [iv x1]) rfl mg_141 rfl rfl (by decide) rfl rfl H (fun m2 v2 r_v2 H => ?_)
  obtain ⟨R_27, H, HJ_27⟩ := H
  have tl_27 : ∀ (m_27 : Mm), R_27 m_27 → mm_W d mc_141 27 [some (.ref 0), some (iv x1), some (iv x2), some (iv x3), none] [] (fm m_27) (XK Q) := by
    intro m_27  hR
    have H := HJ_27 m_27  hR
    refine f_int (-1) rfl rfl ?_
    exact f_iret rfl (by unfold rg; decide) H
  refine z_eq rfl r_v2 (fun hq => ?_) (fun hq => ?_)
  · replace H := H.1 hq
    exact tl_27 m2  H
  · replace H := H.2 hq
    refine w_st (fun _ => rfl) ?_
    refine f_int 1 rfl rfl ?_
    refine f_int 6 rfl rfl ?_
    refine k_SK (as := [iv x2, iv 1, iv 6]) rfl mg_141 rfl rfl rfl H (fun m12 v12 r_v12 H => ?_)
    refine z_eq rfl r_v12 (fun hq => ?_) (fun hq => ?_)
    · replace H := H.1 hq
      exact tl_27 m12  H
    · replace H := H.2 hq
      refine w_st (fun _ => rfl) ?_
      refine f_int 0 rfl rfl ?_
      refine f_int 1 rfl rfl ?_
      refine k_SK (as := [iv x3, iv 0, iv 1]) rfl mg_141 rfl rfl rfl H (fun m21 v21 r_v21 H => ?_)
      refine z_ne rfl r_v21 (fun hq => ?_) (fun hq => ?_)
      · replace H := H.1 hq
        refine w_st (fun _ => rfl) ?_
        refine g_0_5 rfl ?_
        refine w_st (fun _ => rfl) ?_
        refine g_0_9 rfl ?_
        refine w_st (fun _ => rfl) ?_
        refine k_VV (as := [.ref 274, iv x1]) rfl mg_141 rfl rfl (by decide) rfl rfl H (fun m38 H => ?_)
        refine w_st (fun _ => rfl) ?_
        refine g_0_7 rfl ?_
        refine w_st (fun _ => rfl) ?_
        refine k_VK (as := [iv x2]) rfl mg_141 rfl rfl (by decide) rfl rfl H (fun m46 v46 r_v46 H => ?_)
        refine w_st (ls2 := [some (.ref 0), some (iv x1), some (iv x2), some (iv x3), some (iv v46)]) (fun _ => rfl) ?_
        refine w_st (fun _ => rfl) ?_
        obtain ⟨R_70, H, HJ_70⟩ := H
        have tl_70 : ∀ (s0_70 : Int) (m_70 : Mm), rg s0_70 → R_70 s0_70 m_70 → mm_W d mc_141 70 [some (.ref 0), some (iv x1), some (iv x2), some (iv x3), some (iv v46)] [iv s0_70] (fm m_70) (XK Q) := by
          intro s0_70 m_70 r_s0_70 hR
          have H := HJ_70 s0_70 m_70 r_s0_70 hR
          exact f_iret rfl r_s0_70 H
        refine z_ne rfl r_x3 (fun hq => ?_) (fun hq => ?_)
        · replace H := H.1 hq
          refine w_st (fun _ => rfl) ?_
          refine g_0_7 rfl ?_
          refine w_st (fun _ => rfl) ?_
          refine w_st (fun _ => rfl) ?_
          refine k_VK (as := [iv v46, iv x2]) rfl mg_141 rfl rfl (by decide) rfl rfl H (fun m67 v67 r_v67 H => ?_)
          exact tl_70 v67 m67 r_v67 H
        · replace H := H.2 hq
          refine w_st (fun _ => rfl) ?_
          refine w_st (fun _ => rfl) ?_
          exact tl_70 v46 m46 r_v46 H
      · replace H := H.2 hq
        exact tl_27 m21  H
/-- TippedCrates.tops(I)I -/
def P_142 (d : Nat) (m : Mm) (x1 : Int) (Q : Mm → Int → Prop) : Prop :=
  CK d 162 [.ref 0, iv x1] m (fun m2 v2 =>
    ((¬ v2 = 0 → CV d 70 [.ref 36, .ref 274, iv x1] m2 (fun m19 =>
      CV d 105 [.ref 39] m19 (fun m26 =>
      CK d 113 [.ref 39] m26 (fun m33 v33 =>
      Q m33 v33)))) ∧
    (v2 = 0 → Q m2 (-1))))
set_option maxRecDepth 20000 in
theorem br_142 {d : Nat} {m : Mm} {x1 : Int} {Q : Mm → Int → Prop} (r_x1 : rg x1) (H : P_142 d m x1 Q) : CK (d + 1) 142 [.ref 0, iv x1] m Q := by
  unfold P_142 at H
  refine CK_of rfl ?_
  show mm_W d mc_142 0 [some (.ref 0), some (iv x1)] [] (fm m) (XK Q)
  refine w_st (fun _ => rfl) ?_
  refine w_st (fun _ => rfl) ?_
  refine k_VK (as := [iv x1]) rfl mg_142 rfl rfl (by decide) rfl rfl H (fun m2 v2 r_v2 H => ?_)
  refine z_ne rfl r_v2 (fun hq => ?_) (fun hq => ?_)
  · replace H := H.1 hq
    refine w_st (fun _ => rfl) ?_
    refine g_0_5 rfl ?_
    refine w_st (fun _ => rfl) ?_
    refine g_0_9 rfl ?_
    refine w_st (fun _ => rfl) ?_
    refine k_VV (as := [.ref 274, iv x1]) rfl mg_142 rfl rfl (by decide) rfl rfl H (fun m19 H => ?_)
    refine w_st (fun _ => rfl) ?_
    refine g_0_6 rfl ?_
    refine k_VV (as := []) rfl mg_142 rfl rfl (by decide) rfl rfl H (fun m26 H => ?_)
    refine w_st (fun _ => rfl) ?_
    refine g_0_6 rfl ?_
    refine k_VK (as := []) rfl mg_142 rfl rfl (by decide) rfl rfl H (fun m33 v33 r_v33 H => ?_)
    exact f_iret rfl r_v33 H
  · replace H := H.2 hq
    refine f_int (-1) rfl rfl ?_
    exact f_iret rfl (by unfold rg; decide) H
/-- TippedCrates.beside(II)I -/
def P_143 (d : Nat) (m : Mm) (x1 : Int) (x2 : Int) (Q : Mm → Int → Prop) : Prop :=
  CK d 162 [.ref 0, iv x1] m (fun m2 v2 =>
    (∃ R_21 : Mm → Prop,
    ((v2 = 0 → R_21 m2) ∧
    (¬ v2 = 0 → CK d 162 [.ref 0, iv x2] m2 (fun m10 v10 =>
      ((v10 = 0 → R_21 m10) ∧
      (¬ v10 = 0 → ((¬ x1 = x2 → CV d 70 [.ref 36, .ref 274, iv x1] m10 (fun m32 =>
          CV d 105 [.ref 39] m32 (fun m39 =>
          (((0 : Int) ≤ x2 ∧ x2 < 3) ∧ CK d 114 [.ref 39, iv (rd m39 276 (Int.toNat x2))] m39 (fun m55 v55 =>
          Q m55 v55))))) ∧
        (x1 = x2 → R_21 m10))))))) ∧
    (∀ (m_21 : Mm), R_21 m_21 →
    Q m_21 (-1))))
set_option maxRecDepth 20000 in
theorem br_143 {d : Nat} {m : Mm} {x1 : Int} {x2 : Int} {Q : Mm → Int → Prop} (r_x1 : rg x1) (r_x2 : rg x2) (H : P_143 d m x1 x2 Q) : CK (d + 1) 143 [.ref 0, iv x1, iv x2] m Q := by
  unfold P_143 at H
  refine CK_of rfl ?_
  show mm_W d mc_143 0 [some (.ref 0), some (iv x1), some (iv x2)] [] (fm m) (XK Q)
  refine w_st (fun _ => rfl) ?_
  refine w_st (fun _ => rfl) ?_
  refine k_VK (as := [iv x1]) rfl mg_143 rfl rfl (by decide) rfl rfl H (fun m2 v2 r_v2 H => ?_)
  obtain ⟨R_21, H, HJ_21⟩ := H
  have tl_21 : ∀ (m_21 : Mm), R_21 m_21 → mm_W d mc_143 21 [some (.ref 0), some (iv x1), some (iv x2)] [] (fm m_21) (XK Q) := by
    intro m_21  hR
    have H := HJ_21 m_21  hR
    refine f_int (-1) rfl rfl ?_
    exact f_iret rfl (by unfold rg; decide) H
  refine z_eq rfl r_v2 (fun hq => ?_) (fun hq => ?_)
  · replace H := H.1 hq
    exact tl_21 m2  H
  · replace H := H.2 hq
    refine w_st (fun _ => rfl) ?_
    refine w_st (fun _ => rfl) ?_
    refine k_VK (as := [iv x2]) rfl mg_143 rfl rfl (by decide) rfl rfl H (fun m10 v10 r_v10 H => ?_)
    refine z_eq rfl r_v10 (fun hq => ?_) (fun hq => ?_)
    · replace H := H.1 hq
      exact tl_21 m10  H
    · replace H := H.2 hq
      refine w_st (fun _ => rfl) ?_
      refine w_st (fun _ => rfl) ?_
      refine b_ne rfl r_x1 r_x2 (fun hq => ?_) (fun hq => ?_)
      · replace H := H.1 hq
        refine w_st (fun _ => rfl) ?_
        refine g_0_5 rfl ?_
        refine w_st (fun _ => rfl) ?_
        refine g_0_9 rfl ?_
        refine w_st (fun _ => rfl) ?_
        refine k_VV (as := [.ref 274, iv x1]) rfl mg_143 rfl rfl (by decide) rfl rfl H (fun m32 H => ?_)
        refine w_st (fun _ => rfl) ?_
        refine g_0_6 rfl ?_
        refine k_VV (as := []) rfl mg_143 rfl rfl (by decide) rfl rfl H (fun m39 H => ?_)
        refine w_st (fun _ => rfl) ?_
        refine g_0_6 rfl ?_
        refine w_st (fun _ => rfl) ?_
        refine g_0_9 rfl ?_
        refine f_getr rfl (st_l0 st_274) (st_ck st_274 _ _).1 rfl ?_
        refine w_st (fun _ => rfl) ?_
        refine f_ld (st_2 st_274) rfl H.1 ?_
        replace H := H.2
        refine k_VK (as := [iv (rd m39 276 (Int.toNat x2))]) rfl mg_143 rfl rfl (by decide) rfl rfl H (fun m55 v55 r_v55 H => ?_)
        exact f_iret rfl r_v55 H
      · replace H := H.2 hq
        exact tl_21 m10  H
/-- TippedCrates.alike(II)I -/
def P_144 (d : Nat) (m : Mm) (x1 : Int) (x2 : Int) (Q : Mm → Int → Prop) : Prop :=
  CK d 162 [.ref 0, iv x1] m (fun m2 v2 =>
    (∃ R_16 : Mm → Prop,
    ((v2 = 0 → R_16 m2) ∧
    (¬ v2 = 0 → CK d 162 [.ref 0, iv x2] m2 (fun m10 v10 =>
      ((¬ v10 = 0 → CV d 100 [.ref 31, .ref 277, iv x1] m10 (fun m30 =>
        CK d 98 [.ref 31, .ref 277, iv x2, iv 0] m30 (fun m50 v50 =>
        CK d 101 [.ref 31, iv v50] m50 (fun m53 v53 =>
        (∃ R_64 : Int → Prop,
        ((v53 = 0 → R_64 0) ∧
        (¬ v53 = 0 → R_64 1)) ∧
        (∀ (s0_64 : Int) , rg s0_64 → R_64 s0_64 →
        Q m53 s0_64)))))) ∧
      (v10 = 0 → R_16 m10))))) ∧
    (∀ (m_16 : Mm), R_16 m_16 →
    Q m_16 (-1))))
set_option maxRecDepth 20000 in
theorem br_144 {d : Nat} {m : Mm} {x1 : Int} {x2 : Int} {Q : Mm → Int → Prop} (r_x1 : rg x1) (r_x2 : rg x2) (H : P_144 d m x1 x2 Q) : CK (d + 1) 144 [.ref 0, iv x1, iv x2] m Q := by
  unfold P_144 at H
  refine CK_of rfl ?_
  show mm_W d mc_144 0 [some (.ref 0), some (iv x1), some (iv x2)] [] (fm m) (XK Q)
  refine w_st (fun _ => rfl) ?_
  refine w_st (fun _ => rfl) ?_
  refine k_VK (as := [iv x1]) rfl mg_144 rfl rfl (by decide) rfl rfl H (fun m2 v2 r_v2 H => ?_)
  obtain ⟨R_16, H, HJ_16⟩ := H
  have tl_16 : ∀ (m_16 : Mm), R_16 m_16 → mm_W d mc_144 16 [some (.ref 0), some (iv x1), some (iv x2)] [] (fm m_16) (XK Q) := by
    intro m_16  hR
    have H := HJ_16 m_16  hR
    refine f_int (-1) rfl rfl ?_
    exact f_iret rfl (by unfold rg; decide) H
  refine z_eq rfl r_v2 (fun hq => ?_) (fun hq => ?_)
  · replace H := H.1 hq
    exact tl_16 m2  H
  · replace H := H.2 hq
    refine w_st (fun _ => rfl) ?_
    refine w_st (fun _ => rfl) ?_
    refine k_VK (as := [iv x2]) rfl mg_144 rfl rfl (by decide) rfl rfl H (fun m10 v10 r_v10 H => ?_)
    refine z_ne rfl r_v10 (fun hq => ?_) (fun hq => ?_)
    · replace H := H.1 hq
      refine w_st (fun _ => rfl) ?_
      refine g_0_4 rfl ?_
      refine w_st (fun _ => rfl) ?_
      refine g_0_9 rfl ?_
      refine f_getr rfl (st_l0 st_274) (st_ck st_274 _ _).1 rfl ?_
      refine w_st (fun _ => rfl) ?_
      refine k_VV (as := [.ref 277, iv x1]) rfl mg_144 rfl rfl (by decide) rfl rfl H (fun m30 H => ?_)
      refine w_st (fun _ => rfl) ?_
      refine g_0_4 rfl ?_
      refine w_st (fun _ => rfl) ?_
      refine g_0_4 rfl ?_
      refine w_st (fun _ => rfl) ?_
      refine g_0_9 rfl ?_
      refine f_getr rfl (st_l0 st_274) (st_ck st_274 _ _).1 rfl ?_
      refine w_st (fun _ => rfl) ?_
      refine f_int 0 rfl rfl ?_
      refine k_VK (as := [.ref 277, iv x2, iv 0]) rfl mg_144 rfl rfl (by decide) rfl rfl H (fun m50 v50 r_v50 H => ?_)
      refine k_VK (as := [iv v50]) rfl mg_144 rfl rfl (by decide) rfl rfl H (fun m53 v53 r_v53 H => ?_)
      obtain ⟨R_64, H, HJ_64⟩ := H
      have tl_64 : ∀ (s0_64 : Int) , rg s0_64 → R_64 s0_64 → mm_W d mc_144 64 [some (.ref 0), some (iv x1), some (iv x2)] [iv s0_64] (fm m53) (XK Q) := by
        intro s0_64 r_s0_64 hR
        have H := HJ_64 s0_64 r_s0_64 hR
        exact f_iret rfl r_s0_64 H
      refine z_eq rfl r_v53 (fun hq => ?_) (fun hq => ?_)
      · replace H := H.1 hq
        refine f_int 0 rfl rfl ?_
        exact tl_64 0 (by unfold rg; decide) H
      · replace H := H.2 hq
        refine f_int 1 rfl rfl ?_
        refine w_st (fun _ => rfl) ?_
        exact tl_64 1 (by unfold rg; decide) H
    · replace H := H.2 hq
      exact tl_16 m10  H
/-- TippedCrates.looks(I)I -/
def P_145 (d : Nat) (m : Mm) (x1 : Int) (Q : Mm → Int → Prop) : Prop :=
  CK d 162 [.ref 0, iv x1] m (fun m2 v2 =>
    ((¬ v2 = 0 → CV d 100 [.ref 31, .ref 277, iv x1] m2 (fun m22 =>
      CK d 102 [.ref 31] m22 (fun m29 v29 =>
      Q m29 v29))) ∧
    (v2 = 0 → Q m2 (-1))))
set_option maxRecDepth 20000 in
theorem br_145 {d : Nat} {m : Mm} {x1 : Int} {Q : Mm → Int → Prop} (r_x1 : rg x1) (H : P_145 d m x1 Q) : CK (d + 1) 145 [.ref 0, iv x1] m Q := by
  unfold P_145 at H
  refine CK_of rfl ?_
  show mm_W d mc_145 0 [some (.ref 0), some (iv x1)] [] (fm m) (XK Q)
  refine w_st (fun _ => rfl) ?_
  refine w_st (fun _ => rfl) ?_
  refine k_VK (as := [iv x1]) rfl mg_145 rfl rfl (by decide) rfl rfl H (fun m2 v2 r_v2 H => ?_)
  refine z_ne rfl r_v2 (fun hq => ?_) (fun hq => ?_)
  · replace H := H.1 hq
    refine w_st (fun _ => rfl) ?_
    refine g_0_4 rfl ?_
    refine w_st (fun _ => rfl) ?_
    refine g_0_9 rfl ?_
    refine f_getr rfl (st_l0 st_274) (st_ck st_274 _ _).1 rfl ?_
    refine w_st (fun _ => rfl) ?_
    refine k_VV (as := [.ref 277, iv x1]) rfl mg_145 rfl rfl (by decide) rfl rfl H (fun m22 H => ?_)
    refine w_st (fun _ => rfl) ?_
    refine g_0_4 rfl ?_
    refine k_VK (as := []) rfl mg_145 rfl rfl (by decide) rfl rfl H (fun m29 v29 r_v29 H => ?_)
    exact f_iret rfl r_v29 H
  · replace H := H.2 hq
    refine f_int (-1) rfl rfl ?_
    exact f_iret rfl (by unfold rg; decide) H
/-- TippedCrates.mirror(I)I -/
def P_146 (d : Nat) (m : Mm) (x1 : Int) (Q : Mm → Int → Prop) : Prop :=
  CK d 162 [.ref 0, iv x1] m (fun m2 v2 =>
    ((¬ v2 = 0 → CV d 100 [.ref 31, .ref 277, iv x1] m2 (fun m22 =>
      CK d 99 [.ref 31, .ref 277, iv x1] m22 (fun m41 v41 =>
      CK d 101 [.ref 31, iv v41] m41 (fun m44 v44 =>
      (∃ R_55 : Int → Prop,
      ((v44 = 0 → R_55 0) ∧
      (¬ v44 = 0 → R_55 1)) ∧
      (∀ (s0_55 : Int) , rg s0_55 → R_55 s0_55 →
      Q m44 s0_55)))))) ∧
    (v2 = 0 → Q m2 (-1))))
set_option maxRecDepth 20000 in
theorem br_146 {d : Nat} {m : Mm} {x1 : Int} {Q : Mm → Int → Prop} (r_x1 : rg x1) (H : P_146 d m x1 Q) : CK (d + 1) 146 [.ref 0, iv x1] m Q := by
  unfold P_146 at H
  refine CK_of rfl ?_
  show mm_W d mc_146 0 [some (.ref 0), some (iv x1)] [] (fm m) (XK Q)
  refine w_st (fun _ => rfl) ?_
  refine w_st (fun _ => rfl) ?_
  refine k_VK (as := [iv x1]) rfl mg_146 rfl rfl (by decide) rfl rfl H (fun m2 v2 r_v2 H => ?_)
  refine z_ne rfl r_v2 (fun hq => ?_) (fun hq => ?_)
  · replace H := H.1 hq
    refine w_st (fun _ => rfl) ?_
    refine g_0_4 rfl ?_
    refine w_st (fun _ => rfl) ?_
    refine g_0_9 rfl ?_
    refine f_getr rfl (st_l0 st_274) (st_ck st_274 _ _).1 rfl ?_
    refine w_st (fun _ => rfl) ?_
    refine k_VV (as := [.ref 277, iv x1]) rfl mg_146 rfl rfl (by decide) rfl rfl H (fun m22 H => ?_)
    refine w_st (fun _ => rfl) ?_
    refine g_0_4 rfl ?_
    refine w_st (fun _ => rfl) ?_
    refine g_0_4 rfl ?_
    refine w_st (fun _ => rfl) ?_
    refine g_0_9 rfl ?_
    refine f_getr rfl (st_l0 st_274) (st_ck st_274 _ _).1 rfl ?_
    refine w_st (fun _ => rfl) ?_
    refine k_VK (as := [.ref 277, iv x1]) rfl mg_146 rfl rfl (by decide) rfl rfl H (fun m41 v41 r_v41 H => ?_)
    refine k_VK (as := [iv v41]) rfl mg_146 rfl rfl (by decide) rfl rfl H (fun m44 v44 r_v44 H => ?_)
    obtain ⟨R_55, H, HJ_55⟩ := H
    have tl_55 : ∀ (s0_55 : Int) , rg s0_55 → R_55 s0_55 → mm_W d mc_146 55 [some (.ref 0), some (iv x1)] [iv s0_55] (fm m44) (XK Q) := by
      intro s0_55 r_s0_55 hR
      have H := HJ_55 s0_55 r_s0_55 hR
      exact f_iret rfl r_s0_55 H
    refine z_eq rfl r_v44 (fun hq => ?_) (fun hq => ?_)
    · replace H := H.1 hq
      refine f_int 0 rfl rfl ?_
      exact tl_55 0 (by unfold rg; decide) H
    · replace H := H.2 hq
      refine f_int 1 rfl rfl ?_
      refine w_st (fun _ => rfl) ?_
      exact tl_55 1 (by unfold rg; decide) H
  · replace H := H.2 hq
    refine f_int (-1) rfl rfl ?_
    exact f_iret rfl (by unfold rg; decide) H
/-- TippedCrates.then(III)I -/
def P_147 (d : Nat) (m : Mm) (x1 : Int) (x2 : Int) (x3 : Int) (Q : Mm → Int → Prop) : Prop :=
  CK d 162 [.ref 0, iv x1] m (fun m2 v2 =>
    (∃ R_27 : Mm → Prop,
    ((v2 = 0 → R_27 m2) ∧
    (¬ v2 = 0 → CK d 166 [iv x2, iv 0, iv 60] m2 (fun m12 v12 =>
      ((v12 = 0 → R_27 m12) ∧
      (¬ v12 = 0 → CK d 166 [iv x3, iv 0, iv 1] m12 (fun m21 v21 =>
        ((¬ v21 = 0 → CV d 160 [.ref 0, iv x2, iv (rd m21 7 2)] m21 (fun m38 =>
          (∃ R_65 : Int → Mm → Prop,
          ((¬ x3 = 0 → CK d 78 [.ref 279, iv x1] m38 (fun m62 v62 =>
            R_65 v62 m62)) ∧
          (x3 = 0 → (((0 : Int) ≤ x1 ∧ x1 < 3) ∧ R_65 (rd m38 281 (Int.toNat x1)) m38))) ∧
          (∀ (s0_65 : Int) (m_65 : Mm), rg s0_65 → R_65 s0_65 m_65 →
          Q m_65 s0_65)))) ∧
        (v21 = 0 → R_27 m21)))))))) ∧
    (∀ (m_27 : Mm), R_27 m_27 →
    Q m_27 (-1))))
set_option maxRecDepth 20000 in
theorem br_147 {d : Nat} {m : Mm} {x1 : Int} {x2 : Int} {x3 : Int} {Q : Mm → Int → Prop} (r_x1 : rg x1) (r_x2 : rg x2) (r_x3 : rg x3) (H : P_147 d m x1 x2 x3 Q) : CK (d + 1) 147 [.ref 0, iv x1, iv x2, iv x3] m Q := by
  unfold P_147 at H
  refine CK_of rfl ?_
  show mm_W d mc_147 0 [some (.ref 0), some (iv x1), some (iv x2), some (iv x3)] [] (fm m) (XK Q)
  refine w_st (fun _ => rfl) ?_
  refine w_st (fun _ => rfl) ?_
  refine k_VK (as := [iv x1]) rfl mg_147 rfl rfl (by decide) rfl rfl H (fun m2 v2 r_v2 H => ?_)
  obtain ⟨R_27, H, HJ_27⟩ := H
  have tl_27 : ∀ (m_27 : Mm), R_27 m_27 → mm_W d mc_147 27 [some (.ref 0), some (iv x1), some (iv x2), some (iv x3)] [] (fm m_27) (XK Q) := by
    intro m_27  hR
    have H := HJ_27 m_27  hR
    refine f_int (-1) rfl rfl ?_
    exact f_iret rfl (by unfold rg; decide) H
  refine z_eq rfl r_v2 (fun hq => ?_) (fun hq => ?_)
  · replace H := H.1 hq
    exact tl_27 m2  H
  · replace H := H.2 hq
    refine w_st (fun _ => rfl) ?_
    refine f_int 0 rfl rfl ?_
    refine f_int 60 rfl rfl ?_
    refine k_SK (as := [iv x2, iv 0, iv 60]) rfl mg_147 rfl rfl rfl H (fun m12 v12 r_v12 H => ?_)
    refine z_eq rfl r_v12 (fun hq => ?_) (fun hq => ?_)
    · replace H := H.1 hq
      exact tl_27 m12  H
    · replace H := H.2 hq
      refine w_st (fun _ => rfl) ?_
      refine f_int 0 rfl rfl ?_
      refine f_int 1 rfl rfl ?_
      refine k_SK (as := [iv x3, iv 0, iv 1]) rfl mg_147 rfl rfl rfl H (fun m21 v21 r_v21 H => ?_)
      refine z_ne rfl r_v21 (fun hq => ?_) (fun hq => ?_)
      · replace H := H.1 hq
        refine w_st (fun _ => rfl) ?_
        refine w_st (fun _ => rfl) ?_
        refine w_st (fun _ => rfl) ?_
        refine g_0_1 rfl ?_
        refine g_7_2 rfl ?_
        refine k_VV (as := [iv x2, iv (rd m21 7 2)]) rfl mg_147 rfl rfl (by decide) rfl rfl H (fun m38 H => ?_)
        refine w_st (fun _ => rfl) ?_
        obtain ⟨R_65, H, HJ_65⟩ := H
        have tl_65 : ∀ (s0_65 : Int) (m_65 : Mm), rg s0_65 → R_65 s0_65 m_65 → mm_W d mc_147 65 [some (.ref 0), some (iv x1), some (iv x2), some (iv x3)] [iv s0_65] (fm m_65) (XK Q) := by
          intro s0_65 m_65 r_s0_65 hR
          have H := HJ_65 s0_65 m_65 r_s0_65 hR
          exact f_iret rfl r_s0_65 H
        refine z_ne rfl r_x3 (fun hq => ?_) (fun hq => ?_)
        · replace H := H.1 hq
          refine w_st (fun _ => rfl) ?_
          refine g_0_10 rfl ?_
          refine w_st (fun _ => rfl) ?_
          refine k_VK (as := [iv x1]) rfl mg_147 rfl rfl (st_l0 st_279) (st_ck st_279 _ _).1 rfl H (fun m62 v62 r_v62 H => ?_)
          exact tl_65 v62 m62 r_v62 H
        · replace H := H.2 hq
          refine w_st (fun _ => rfl) ?_
          refine g_0_10 rfl ?_
          refine f_getr rfl (st_l0 st_279) (st_ck st_279 _ _).1 rfl ?_
          refine w_st (fun _ => rfl) ?_
          refine f_ld (st_2 st_279) rfl H.1 ?_
          replace H := H.2
          refine w_st (fun _ => rfl) ?_
          exact tl_65 (rd m38 281 (Int.toNat x1)) m38 (rd_rg _ _ _) H
      · replace H := H.2 hq
        exact tl_27 m21  H
/-- TippedCrates.flagIn(II)I -/
def P_148 (d : Nat) (m : Mm) (x1 : Int) (x2 : Int) (Q : Mm → Int → Prop) : Prop :=
  CK d 163 [.ref 0, iv x1] m (fun m2 v2 =>
    (∃ R_18 : Mm → Prop,
    ((v2 = 0 → R_18 m2) ∧
    (¬ v2 = 0 → CK d 166 [iv x2, iv 0, iv 60] m2 (fun m12 v12 =>
      ((¬ v12 = 0 → CV d 160 [.ref 0, iv x2, iv (rd m12 7 2)] m12 (fun m29 =>
        (((0 : Int) ≤ x1 ∧ x1 < 25) ∧ Q m29 (rd m29 280 (Int.toNat x1))))) ∧
      (v12 = 0 → R_18 m12))))) ∧
    (∀ (m_18 : Mm), R_18 m_18 →
    Q m_18 (-1))))
set_option maxRecDepth 20000 in
theorem br_148 {d : Nat} {m : Mm} {x1 : Int} {x2 : Int} {Q : Mm → Int → Prop} (r_x1 : rg x1) (r_x2 : rg x2) (H : P_148 d m x1 x2 Q) : CK (d + 1) 148 [.ref 0, iv x1, iv x2] m Q := by
  unfold P_148 at H
  refine CK_of rfl ?_
  show mm_W d mc_148 0 [some (.ref 0), some (iv x1), some (iv x2)] [] (fm m) (XK Q)
  refine w_st (fun _ => rfl) ?_
  refine w_st (fun _ => rfl) ?_
  refine k_VK (as := [iv x1]) rfl mg_148 rfl rfl (by decide) rfl rfl H (fun m2 v2 r_v2 H => ?_)
  obtain ⟨R_18, H, HJ_18⟩ := H
  have tl_18 : ∀ (m_18 : Mm), R_18 m_18 → mm_W d mc_148 18 [some (.ref 0), some (iv x1), some (iv x2)] [] (fm m_18) (XK Q) := by
    intro m_18  hR
    have H := HJ_18 m_18  hR
    refine f_int (-1) rfl rfl ?_
    exact f_iret rfl (by unfold rg; decide) H
  refine z_eq rfl r_v2 (fun hq => ?_) (fun hq => ?_)
  · replace H := H.1 hq
    exact tl_18 m2  H
  · replace H := H.2 hq
    refine w_st (fun _ => rfl) ?_
    refine f_int 0 rfl rfl ?_
    refine f_int 60 rfl rfl ?_
    refine k_SK (as := [iv x2, iv 0, iv 60]) rfl mg_148 rfl rfl rfl H (fun m12 v12 r_v12 H => ?_)
    refine z_ne rfl r_v12 (fun hq => ?_) (fun hq => ?_)
    · replace H := H.1 hq
      refine w_st (fun _ => rfl) ?_
      refine w_st (fun _ => rfl) ?_
      refine w_st (fun _ => rfl) ?_
      refine g_0_1 rfl ?_
      refine g_7_2 rfl ?_
      refine k_VV (as := [iv x2, iv (rd m12 7 2)]) rfl mg_148 rfl rfl (by decide) rfl rfl H (fun m29 H => ?_)
      refine w_st (fun _ => rfl) ?_
      refine g_0_10 rfl ?_
      refine f_getr rfl (st_l0 st_279) (st_ck st_279 _ _).1 rfl ?_
      refine w_st (fun _ => rfl) ?_
      refine f_ld (st_1 st_279) rfl H.1 ?_
      replace H := H.2
      exact f_iret rfl (rd_rg _ _ _) H
    · replace H := H.2 hq
      exact tl_18 m12  H
/-- TippedCrates.paidIn(I)I -/
def P_149 (d : Nat) (m : Mm) (x1 : Int) (Q : Mm → Int → Prop) : Prop :=
  CK d 166 [iv x1, iv 0, iv 60] m (fun m4 v4 =>
    ((¬ v4 = 0 → CV d 160 [.ref 0, iv x1, iv (rd m4 7 2)] m4 (fun m21 =>
      Q m21 (rd m21 279 6))) ∧
    (v4 = 0 → Q m4 (-1))))
set_option maxRecDepth 20000 in
theorem br_149 {d : Nat} {m : Mm} {x1 : Int} {Q : Mm → Int → Prop} (r_x1 : rg x1) (H : P_149 d m x1 Q) : CK (d + 1) 149 [.ref 0, iv x1] m Q := by
  unfold P_149 at H
  refine CK_of rfl ?_
  show mm_W d mc_149 0 [some (.ref 0), some (iv x1)] [] (fm m) (XK Q)
  refine w_st (fun _ => rfl) ?_
  refine f_int 0 rfl rfl ?_
  refine f_int 60 rfl rfl ?_
  refine k_SK (as := [iv x1, iv 0, iv 60]) rfl mg_149 rfl rfl rfl H (fun m4 v4 r_v4 H => ?_)
  refine z_ne rfl r_v4 (fun hq => ?_) (fun hq => ?_)
  · replace H := H.1 hq
    refine w_st (fun _ => rfl) ?_
    refine w_st (fun _ => rfl) ?_
    refine w_st (fun _ => rfl) ?_
    refine g_0_1 rfl ?_
    refine g_7_2 rfl ?_
    refine k_VV (as := [iv x1, iv (rd m4 7 2)]) rfl mg_149 rfl rfl (by decide) rfl rfl H (fun m21 H => ?_)
    refine w_st (fun _ => rfl) ?_
    refine g_0_10 rfl ?_
    refine f_get rfl (st_l0 st_279) (st_ck st_279 _ _).1 rfl ?_
    exact f_iret rfl (rd_rg _ _ _) H
  · replace H := H.2 hq
    refine f_int (-1) rfl rfl ?_
    exact f_iret rfl (by unfold rg; decide) H
/-- TippedCrates.year(IIII)I -/
def P_150 (d : Nat) (m : Mm) (x1 : Int) (x2 : Int) (x3 : Int) (x4 : Int) (Q : Mm → Int → Prop) : Prop :=
  CK d 162 [.ref 0, iv x1] m (fun m2 v2 =>
    (∃ R_15 : Mm → Prop,
    ((v2 = 0 → R_15 m2) ∧
    (¬ v2 = 0 → CK d 164 [iv x2] m2 (fun m9 v9 =>
      ((¬ v9 = 0 → CK d 166 [iv x3, iv 0, iv 60] m9 (fun m21 v21 =>
        (∃ R_38 : Mm → Prop,
        ((v21 = 0 → R_38 m21) ∧
        (¬ v21 = 0 → CK d 166 [iv x4, iv 1, iv 20] m21 (fun m32 v32 =>
          ((¬ v32 = 0 → (∃ (I_46 : Int → Int → Mm → Prop) (mu_46 : Int → Int → Mm → Nat), I_46 0 0 m32 ∧
            ∀ (x5_46 x6_46 : Int) (m_46 : Mm), rg x5_46 → rg x6_46 → I_46 x5_46 x6_46 m_46 →
            ((x4 ≤ x6_46 → Q m_46 x5_46) ∧
                (¬ x4 ≤ x6_46 → CV d 160 [.ref 0, iv x3, iv (wr ((rd m_46 7 2) + x6_46))] m_46 (fun m65 =>
                  CK d 78 [.ref 279, iv x1] m65 (fun m73 v73 =>
                  (∃ R_83 : Int → Prop,
                  ((¬ v73 = x2 → R_83 x5_46) ∧
                  (v73 = x2 → (∀ z5_80 : Int, z5_80 = wr (x5_46 + 1) → R_83 z5_80))) ∧
                  (∀ (y5_83 : Int) , rg y5_83 → R_83 y5_83 →
                  (∀ z6_83 : Int, z6_83 = wr (x6_46 + 1) → (I_46 y5_83 z6_83 m73 ∧ mu_46 y5_83 z6_83 m73 < mu_46 x5_46 x6_46 m_46)))))))))) ∧
          (v32 = 0 → R_38 m32))))) ∧
        (∀ (m_38 : Mm), R_38 m_38 →
        Q m_38 (-1))))) ∧
      (v9 = 0 → R_15 m9))))) ∧
    (∀ (m_15 : Mm), R_15 m_15 →
    Q m_15 (-1))))
set_option maxRecDepth 20000 in
theorem br_150 {d : Nat} {m : Mm} {x1 : Int} {x2 : Int} {x3 : Int} {x4 : Int} {Q : Mm → Int → Prop} (r_x1 : rg x1) (r_x2 : rg x2) (r_x3 : rg x3) (r_x4 : rg x4) (H : P_150 d m x1 x2 x3 x4 Q) : CK (d + 1) 150 [.ref 0, iv x1, iv x2, iv x3, iv x4] m Q := by
  unfold P_150 at H
  refine CK_of rfl ?_
  show mm_W d mc_150 0 [some (.ref 0), some (iv x1), some (iv x2), some (iv x3), some (iv x4), none, none] [] (fm m) (XK Q)
  refine w_st (fun _ => rfl) ?_
  refine w_st (fun _ => rfl) ?_
  refine k_VK (as := [iv x1]) rfl mg_150 rfl rfl (by decide) rfl rfl H (fun m2 v2 r_v2 H => ?_)
  obtain ⟨R_15, H, HJ_15⟩ := H
  have tl_15 : ∀ (m_15 : Mm), R_15 m_15 → mm_W d mc_150 15 [some (.ref 0), some (iv x1), some (iv x2), some (iv x3), some (iv x4), none, none] [] (fm m_15) (XK Q) := by
    intro m_15  hR
    have H := HJ_15 m_15  hR
    refine f_int (-1) rfl rfl ?_
    exact f_iret rfl (by unfold rg; decide) H
  refine z_eq rfl r_v2 (fun hq => ?_) (fun hq => ?_)
  · replace H := H.1 hq
    exact tl_15 m2  H
  · replace H := H.2 hq
    refine w_st (fun _ => rfl) ?_
    refine k_SK (as := [iv x2]) rfl mg_150 rfl rfl rfl H (fun m9 v9 r_v9 H => ?_)
    refine z_ne rfl r_v9 (fun hq => ?_) (fun hq => ?_)
    · replace H := H.1 hq
      refine w_st (fun _ => rfl) ?_
      refine f_int 0 rfl rfl ?_
      refine f_int 60 rfl rfl ?_
      refine k_SK (as := [iv x3, iv 0, iv 60]) rfl mg_150 rfl rfl rfl H (fun m21 v21 r_v21 H => ?_)
      obtain ⟨R_38, H, HJ_38⟩ := H
      have tl_38 : ∀ (m_38 : Mm), R_38 m_38 → mm_W d mc_150 38 [some (.ref 0), some (iv x1), some (iv x2), some (iv x3), some (iv x4), none, none] [] (fm m_38) (XK Q) := by
        intro m_38  hR
        have H := HJ_38 m_38  hR
        refine f_int (-1) rfl rfl ?_
        exact f_iret rfl (by unfold rg; decide) H
      refine z_eq rfl r_v21 (fun hq => ?_) (fun hq => ?_)
      · replace H := H.1 hq
        exact tl_38 m21  H
      · replace H := H.2 hq
        refine w_st (fun _ => rfl) ?_
        refine f_int 1 rfl rfl ?_
        refine f_int 20 rfl rfl ?_
        refine k_SK (as := [iv x4, iv 1, iv 20]) rfl mg_150 rfl rfl rfl H (fun m32 v32 r_v32 H => ?_)
        refine z_ne rfl r_v32 (fun hq => ?_) (fun hq => ?_)
        · replace H := H.1 hq
          refine f_int 0 rfl rfl ?_
          refine w_st (ls2 := [some (.ref 0), some (iv x1), some (iv x2), some (iv x3), some (iv x4), some (iv 0), none]) (fun _ => rfl) ?_
          refine f_int 0 rfl rfl ?_
          refine w_st (ls2 := [some (.ref 0), some (iv x1), some (iv x2), some (iv x3), some (iv x4), some (iv 0), some (iv 0)]) (fun _ => rfl) ?_
          obtain ⟨I_46, mu_46, H0_46, HB_46⟩ := H
          have lp_46 : ∀ (z : Nat) (x5_46 x6_46 : Int) (m_46 : Mm), mu_46 x5_46 x6_46 m_46 < z → rg x5_46 → rg x6_46 → I_46 x5_46 x6_46 m_46 → mm_W d mc_150 46 [some (.ref 0), some (iv x1), some (iv x2), some (iv x3), some (iv x4), some (iv x5_46), some (iv x6_46)] [] (fm m_46) (XK Q) := by
            intro z
            induction z with
            | zero => intro x5_46 x6_46 m_46 hz; exact absurd hz (Nat.not_lt_zero _)
            | succ z ih_46 =>
              intro x5_46 x6_46 m_46 hz_46 r_x5_46 r_x6_46 hI
              have H := HB_46 x5_46 x6_46 m_46 r_x5_46 r_x6_46 hI
              refine w_st (fun _ => rfl) ?_
              refine w_st (fun _ => rfl) ?_
              refine b_ge rfl r_x6_46 r_x4 (fun hq => ?_) (fun hq => ?_)
              · replace H := H.1 hq
                refine w_st (fun _ => rfl) ?_
                exact f_iret rfl r_x5_46 H
              · replace H := H.2 hq
                refine w_st (fun _ => rfl) ?_
                refine w_st (fun _ => rfl) ?_
                refine w_st (fun _ => rfl) ?_
                refine g_0_1 rfl ?_
                refine g_7_2 rfl ?_
                refine w_st (fun _ => rfl) ?_
                refine f_add rfl ?_
                refine k_VV (as := [iv x3, iv (wr ((rd m_46 7 2) + x6_46))]) rfl mg_150 rfl rfl (by decide) rfl rfl H (fun m65 H => ?_)
                refine w_st (fun _ => rfl) ?_
                refine g_0_10 rfl ?_
                refine w_st (fun _ => rfl) ?_
                refine k_VK (as := [iv x1]) rfl mg_150 rfl rfl (st_l0 st_279) (st_ck st_279 _ _).1 rfl H (fun m73 v73 r_v73 H => ?_)
                refine w_st (fun _ => rfl) ?_
                obtain ⟨R_83, H, HJ_83⟩ := H
                have tl_83 : ∀ (y5_83 : Int) , rg y5_83 → R_83 y5_83 → mm_W d mc_150 83 [some (.ref 0), some (iv x1), some (iv x2), some (iv x3), some (iv x4), some (iv y5_83), some (iv x6_46)] [] (fm m73) (XK Q) := by
                  intro y5_83 r_y5_83 hR
                  have H := HJ_83 y5_83 r_y5_83 hR
                  obtain ⟨z6_83, e_z6_83⟩ : ∃ q : Int, q = wr (x6_46 + 1) := ⟨_, rfl⟩
                  have r_z6_83 : rg z6_83 := by rw [e_z6_83]; exact wr_rg _
                  replace H := H z6_83 e_z6_83
                  refine f_iinc (ls2 := [some (.ref 0), some (iv x1), some (iv x2), some (iv x3), some (iv x4), some (iv y5_83), some (iv z6_83)]) 1 rfl rfl rfl e_z6_83 rfl ?_
                  refine w_st (fun _ => rfl) ?_
                  exact ih_46 y5_83 z6_83 m73 (Nat.lt_of_lt_of_le H.2 (Nat.le_of_lt_succ hz_46)) r_y5_83 r_z6_83 H.1
                refine b_ne rfl r_v73 r_x2 (fun hq => ?_) (fun hq => ?_)
                · replace H := H.1 hq
                  exact tl_83 x5_46 r_x5_46 H
                · replace H := H.2 hq
                  obtain ⟨z5_80, e_z5_80⟩ : ∃ q : Int, q = wr (x5_46 + 1) := ⟨_, rfl⟩
                  have r_z5_80 : rg z5_80 := by rw [e_z5_80]; exact wr_rg _
                  replace H := H z5_80 e_z5_80
                  refine f_iinc (ls2 := [some (.ref 0), some (iv x1), some (iv x2), some (iv x3), some (iv x4), some (iv z5_80), some (iv x6_46)]) 1 rfl rfl rfl e_z5_80 rfl ?_
                  exact tl_83 z5_80 r_z5_80 H
          exact lp_46 _ 0 0 m32 (Nat.lt_succ_self _) (by unfold rg; decide) (by unfold rg; decide) H0_46
        · replace H := H.2 hq
          exact tl_38 m32  H
    · replace H := H.2 hq
      exact tl_15 m9  H
/-- TippedCrates.tell(IIZ)I -/
def P_151 (d : Nat) (m : Mm) (x1 : Int) (x2 : Int) (x3 : Int) (Q : Mm → Int → Prop) : Prop :=
  CK d 166 [iv x1, iv 1, iv 5] m (fun m3 v3 =>
    (∃ R_28 : Mm → Prop,
    ((v3 = 0 → R_28 m3) ∧
    (¬ v3 = 0 → CK d 164 [iv x2] m3 (fun m10 v10 =>
      ((v10 = 0 → R_28 m10) ∧
      (¬ v10 = 0 → (((rd m10 49 0) < 20 → CK d 56 [.ref 49, iv x1, iv x2, iv x3] m10 (fun m37 v37 =>
          Q m37 v37)) ∧
        (¬ (rd m10 49 0) < 20 → R_28 m10))))))) ∧
    (∀ (m_28 : Mm), R_28 m_28 →
    Q m_28 (-1))))
set_option maxRecDepth 20000 in
theorem br_151 {d : Nat} {m : Mm} {x1 : Int} {x2 : Int} {x3 : Int} {Q : Mm → Int → Prop} (r_x1 : rg x1) (r_x2 : rg x2) (r_x3 : rg x3) (H : P_151 d m x1 x2 x3 Q) : CK (d + 1) 151 [.ref 0, iv x1, iv x2, iv x3] m Q := by
  unfold P_151 at H
  refine CK_of rfl ?_
  show mm_W d mc_151 0 [some (.ref 0), some (iv x1), some (iv x2), some (iv x3)] [] (fm m) (XK Q)
  refine w_st (fun _ => rfl) ?_
  refine f_int 1 rfl rfl ?_
  refine f_int 5 rfl rfl ?_
  refine k_SK (as := [iv x1, iv 1, iv 5]) rfl mg_151 rfl rfl rfl H (fun m3 v3 r_v3 H => ?_)
  obtain ⟨R_28, H, HJ_28⟩ := H
  have tl_28 : ∀ (m_28 : Mm), R_28 m_28 → mm_W d mc_151 28 [some (.ref 0), some (iv x1), some (iv x2), some (iv x3)] [] (fm m_28) (XK Q) := by
    intro m_28  hR
    have H := HJ_28 m_28  hR
    refine f_int (-1) rfl rfl ?_
    exact f_iret rfl (by unfold rg; decide) H
  refine z_eq rfl r_v3 (fun hq => ?_) (fun hq => ?_)
  · replace H := H.1 hq
    exact tl_28 m3  H
  · replace H := H.2 hq
    refine w_st (fun _ => rfl) ?_
    refine k_SK (as := [iv x2]) rfl mg_151 rfl rfl rfl H (fun m10 v10 r_v10 H => ?_)
    refine z_eq rfl r_v10 (fun hq => ?_) (fun hq => ?_)
    · replace H := H.1 hq
      exact tl_28 m10  H
    · replace H := H.2 hq
      refine w_st (fun _ => rfl) ?_
      refine g_0_7 rfl ?_
      refine g_49_0 rfl ?_
      refine f_int 20 rfl rfl ?_
      refine b_lt rfl (rd_rg _ _ _) (by unfold rg; decide) (fun hq => ?_) (fun hq => ?_)
      · replace H := H.1 hq
        refine w_st (fun _ => rfl) ?_
        refine g_0_7 rfl ?_
        refine w_st (fun _ => rfl) ?_
        refine w_st (fun _ => rfl) ?_
        refine w_st (fun _ => rfl) ?_
        refine k_VK (as := [iv x1, iv x2, iv x3]) rfl mg_151 rfl rfl (by decide) rfl rfl H (fun m37 v37 r_v37 H => ?_)
        exact f_iret rfl r_v37 H
      · replace H := H.2 hq
        exact tl_28 m10  H
/-- TippedCrates.forget()I -/
def P_152 (d : Nat) (m : Mm)  (Q : Mm → Int → Prop) : Prop :=
  CK d 57 [.ref 49] m (fun m4 v4 =>
    Q m4 v4)
set_option maxRecDepth 20000 in
theorem br_152 {d : Nat} {m : Mm}  {Q : Mm → Int → Prop}  (H : P_152 d m  Q) : CK (d + 1) 152 [.ref 0] m Q := by
  unfold P_152 at H
  refine CK_of rfl ?_
  show mm_W d mc_152 0 [some (.ref 0)] [] (fm m) (XK Q)
  refine w_st (fun _ => rfl) ?_
  refine g_0_7 rfl ?_
  refine k_VK (as := []) rfl mg_152 rfl rfl (by decide) rfl rfl H (fun m4 v4 r_v4 H => ?_)
  exact f_iret rfl r_v4 H
/-- TippedCrates.rows(IIII)I -/
def P_153 (d : Nat) (m : Mm) (x1 : Int) (x2 : Int) (x3 : Int) (x4 : Int) (Q : Mm → Int → Prop) : Prop :=
  CK d 161 [.ref 0, iv x1, iv x2, iv x3] m (fun m4 v4 =>
    (∃ R_20 : Mm → Prop,
    ((v4 = 0 → R_20 m4) ∧
    (¬ v4 = 0 → CK d 166 [iv x4, iv 0, iv 1] m4 (fun m14 v14 =>
      ((¬ v14 = 0 → CV d 70 [.ref 36, .ref 274, iv x2] m14 (fun m31 =>
        CV d 58 [.ref 49, iv x1, iv x3] m31 (fun m40 =>
        (∃ R_65 : Int → Prop,
        ((¬ x4 = 0 → R_65 (rd m40 49 2)) ∧
        (x4 = 0 → R_65 (rd m40 49 1))) ∧
        (∀ (s0_65 : Int) , rg s0_65 → R_65 s0_65 →
        Q m40 s0_65))))) ∧
      (v14 = 0 → R_20 m14))))) ∧
    (∀ (m_20 : Mm), R_20 m_20 →
    Q m_20 (-1))))
set_option maxRecDepth 20000 in
theorem br_153 {d : Nat} {m : Mm} {x1 : Int} {x2 : Int} {x3 : Int} {x4 : Int} {Q : Mm → Int → Prop} (r_x1 : rg x1) (r_x2 : rg x2) (r_x3 : rg x3) (r_x4 : rg x4) (H : P_153 d m x1 x2 x3 x4 Q) : CK (d + 1) 153 [.ref 0, iv x1, iv x2, iv x3, iv x4] m Q := by
  unfold P_153 at H
  refine CK_of rfl ?_
  show mm_W d mc_153 0 [some (.ref 0), some (iv x1), some (iv x2), some (iv x3), some (iv x4)] [] (fm m) (XK Q)
  refine w_st (fun _ => rfl) ?_
  refine w_st (fun _ => rfl) ?_
  refine w_st (fun _ => rfl) ?_
  refine w_st (fun _ => rfl) ?_
  refine k_VK (as := [iv x1, iv x2, iv x3]) rfl mg_153 rfl rfl (by decide) rfl rfl H (fun m4 v4 r_v4 H => ?_)
  obtain ⟨R_20, H, HJ_20⟩ := H
  have tl_20 : ∀ (m_20 : Mm), R_20 m_20 → mm_W d mc_153 20 [some (.ref 0), some (iv x1), some (iv x2), some (iv x3), some (iv x4)] [] (fm m_20) (XK Q) := by
    intro m_20  hR
    have H := HJ_20 m_20  hR
    refine f_int (-1) rfl rfl ?_
    exact f_iret rfl (by unfold rg; decide) H
  refine z_eq rfl r_v4 (fun hq => ?_) (fun hq => ?_)
  · replace H := H.1 hq
    exact tl_20 m4  H
  · replace H := H.2 hq
    refine w_st (fun _ => rfl) ?_
    refine f_int 0 rfl rfl ?_
    refine f_int 1 rfl rfl ?_
    refine k_SK (as := [iv x4, iv 0, iv 1]) rfl mg_153 rfl rfl rfl H (fun m14 v14 r_v14 H => ?_)
    refine z_ne rfl r_v14 (fun hq => ?_) (fun hq => ?_)
    · replace H := H.1 hq
      refine w_st (fun _ => rfl) ?_
      refine g_0_5 rfl ?_
      refine w_st (fun _ => rfl) ?_
      refine g_0_9 rfl ?_
      refine w_st (fun _ => rfl) ?_
      refine k_VV (as := [.ref 274, iv x2]) rfl mg_153 rfl rfl (by decide) rfl rfl H (fun m31 H => ?_)
      refine w_st (fun _ => rfl) ?_
      refine g_0_7 rfl ?_
      refine w_st (fun _ => rfl) ?_
      refine w_st (fun _ => rfl) ?_
      refine k_VV (as := [iv x1, iv x3]) rfl mg_153 rfl rfl (by decide) rfl rfl H (fun m40 H => ?_)
      refine w_st (fun _ => rfl) ?_
      obtain ⟨R_65, H, HJ_65⟩ := H
      have tl_65 : ∀ (s0_65 : Int) , rg s0_65 → R_65 s0_65 → mm_W d mc_153 65 [some (.ref 0), some (iv x1), some (iv x2), some (iv x3), some (iv x4)] [iv s0_65] (fm m40) (XK Q) := by
        intro s0_65 r_s0_65 hR
        have H := HJ_65 s0_65 r_s0_65 hR
        exact f_iret rfl r_s0_65 H
      refine z_ne rfl r_x4 (fun hq => ?_) (fun hq => ?_)
      · replace H := H.1 hq
        refine w_st (fun _ => rfl) ?_
        refine g_0_7 rfl ?_
        refine g_49_2 rfl ?_
        exact tl_65 (rd m40 49 2) (rd_rg _ _ _) H
      · replace H := H.2 hq
        refine w_st (fun _ => rfl) ?_
        refine g_0_7 rfl ?_
        refine g_49_1 rfl ?_
        refine w_st (fun _ => rfl) ?_
        exact tl_65 (rd m40 49 1) (rd_rg _ _ _) H
    · replace H := H.2 hq
      exact tl_20 m14  H
/-- TippedCrates.listen(III)I -/
def P_154 (d : Nat) (m : Mm) (x1 : Int) (x2 : Int) (x3 : Int) (Q : Mm → Int → Prop) : Prop :=
  CK d 161 [.ref 0, iv x1, iv x2, iv x3] m (fun m4 v4 =>
    ((¬ v4 = 0 → CV d 70 [.ref 36, .ref 274, iv x2] m4 (fun m21 =>
      CV d 58 [.ref 49, iv x1, iv x3] m21 (fun m30 =>
      CK d 62 [.ref 49, iv x3] m30 (fun m38 v38 =>
      Q m38 v38)))) ∧
    (v4 = 0 → Q m4 (-1))))
set_option maxRecDepth 20000 in
theorem br_154 {d : Nat} {m : Mm} {x1 : Int} {x2 : Int} {x3 : Int} {Q : Mm → Int → Prop} (r_x1 : rg x1) (r_x2 : rg x2) (r_x3 : rg x3) (H : P_154 d m x1 x2 x3 Q) : CK (d + 1) 154 [.ref 0, iv x1, iv x2, iv x3] m Q := by
  unfold P_154 at H
  refine CK_of rfl ?_
  show mm_W d mc_154 0 [some (.ref 0), some (iv x1), some (iv x2), some (iv x3)] [] (fm m) (XK Q)
  refine w_st (fun _ => rfl) ?_
  refine w_st (fun _ => rfl) ?_
  refine w_st (fun _ => rfl) ?_
  refine w_st (fun _ => rfl) ?_
  refine k_VK (as := [iv x1, iv x2, iv x3]) rfl mg_154 rfl rfl (by decide) rfl rfl H (fun m4 v4 r_v4 H => ?_)
  refine z_ne rfl r_v4 (fun hq => ?_) (fun hq => ?_)
  · replace H := H.1 hq
    refine w_st (fun _ => rfl) ?_
    refine g_0_5 rfl ?_
    refine w_st (fun _ => rfl) ?_
    refine g_0_9 rfl ?_
    refine w_st (fun _ => rfl) ?_
    refine k_VV (as := [.ref 274, iv x2]) rfl mg_154 rfl rfl (by decide) rfl rfl H (fun m21 H => ?_)
    refine w_st (fun _ => rfl) ?_
    refine g_0_7 rfl ?_
    refine w_st (fun _ => rfl) ?_
    refine w_st (fun _ => rfl) ?_
    refine k_VV (as := [iv x1, iv x3]) rfl mg_154 rfl rfl (by decide) rfl rfl H (fun m30 H => ?_)
    refine w_st (fun _ => rfl) ?_
    refine g_0_7 rfl ?_
    refine w_st (fun _ => rfl) ?_
    refine k_VK (as := [iv x3]) rfl mg_154 rfl rfl (by decide) rfl rfl H (fun m38 v38 r_v38 H => ?_)
    exact f_iret rfl r_v38 H
  · replace H := H.2 hq
    refine f_int (-1) rfl rfl ?_
    exact f_iret rfl (by unfold rg; decide) H
/-- TippedCrates.hold(I)Z -/
def P_155 (d : Nat) (m : Mm) (x1 : Int) (Q : Mm → Int → Prop) : Prop :=
  CK d 166 [iv x1, iv 0, iv 2] m (fun m3 v3 =>
    ((¬ v3 = 0 → CV d 23 [.ref 55, .ref 274, iv x1] m3 (fun m20 =>
      Q m20 1)) ∧
    (v3 = 0 → Q m3 0)))
set_option maxRecDepth 20000 in
theorem br_155 {d : Nat} {m : Mm} {x1 : Int} {Q : Mm → Int → Prop} (r_x1 : rg x1) (H : P_155 d m x1 Q) : CK (d + 1) 155 [.ref 0, iv x1] m Q := by
  unfold P_155 at H
  refine CK_of rfl ?_
  show mm_W d mc_155 0 [some (.ref 0), some (iv x1)] [] (fm m) (XK Q)
  refine w_st (fun _ => rfl) ?_
  refine f_int 0 rfl rfl ?_
  refine f_int 2 rfl rfl ?_
  refine k_SK (as := [iv x1, iv 0, iv 2]) rfl mg_155 rfl rfl rfl H (fun m3 v3 r_v3 H => ?_)
  refine z_ne rfl r_v3 (fun hq => ?_) (fun hq => ?_)
  · replace H := H.1 hq
    refine w_st (fun _ => rfl) ?_
    refine g_0_8 rfl ?_
    refine w_st (fun _ => rfl) ?_
    refine g_0_9 rfl ?_
    refine w_st (fun _ => rfl) ?_
    refine k_VV (as := [.ref 274, iv x1]) rfl mg_155 rfl rfl (by decide) rfl rfl H (fun m20 H => ?_)
    refine f_int 1 rfl rfl ?_
    exact f_zret rfl (by unfold rg; decide) (Or.inr rfl) H
  · replace H := H.2 hq
    refine f_int 0 rfl rfl ?_
    exact f_zret rfl (by unfold rg; decide) (Or.inl rfl) H
/-- TippedCrates.restore(I)Z -/
def P_156 (d : Nat) (m : Mm) (x1 : Int) (Q : Mm → Int → Prop) : Prop :=
  CK d 166 [iv x1, iv 0, iv 2] m (fun m3 v3 =>
    (∃ R_29 : Int → Mm → Prop,
    (∃ R_28 : Mm → Prop,
    ((v3 = 0 → R_28 m3) ∧
    (¬ v3 = 0 → CK d 24 [.ref 55, .ref 274, iv x1] m3 (fun m18 v18 =>
      ((v18 = 0 → R_28 m18) ∧
      (¬ v18 = 0 → R_29 1 m18))))) ∧
    (∀ (m_28 : Mm), R_28 m_28 →
    R_29 0 m_28)) ∧
    (∀ (s0_29 : Int) (m_29 : Mm), rg s0_29 → R_29 s0_29 m_29 →
    ((s0_29 = 0 ∨ s0_29 = 1) ∧ Q m_29 s0_29))))
set_option maxRecDepth 20000 in
theorem br_156 {d : Nat} {m : Mm} {x1 : Int} {Q : Mm → Int → Prop} (r_x1 : rg x1) (H : P_156 d m x1 Q) : CK (d + 1) 156 [.ref 0, iv x1] m Q := by
  unfold P_156 at H
  refine CK_of rfl ?_
  show mm_W d mc_156 0 [some (.ref 0), some (iv x1)] [] (fm m) (XK Q)
  refine w_st (fun _ => rfl) ?_
  refine f_int 0 rfl rfl ?_
  refine f_int 2 rfl rfl ?_
  refine k_SK (as := [iv x1, iv 0, iv 2]) rfl mg_156 rfl rfl rfl H (fun m3 v3 r_v3 H => ?_)
  obtain ⟨R_29, H, HJ_29⟩ := H
  have tl_29 : ∀ (s0_29 : Int) (m_29 : Mm), rg s0_29 → R_29 s0_29 m_29 → mm_W d mc_156 29 [some (.ref 0), some (iv x1)] [iv s0_29] (fm m_29) (XK Q) := by
    intro s0_29 m_29 r_s0_29 hR
    have H := HJ_29 s0_29 m_29 r_s0_29 hR
    exact f_zret rfl r_s0_29 H.1 H.2
  obtain ⟨R_28, H, HJ_28⟩ := H
  have tl_28 : ∀ (m_28 : Mm), R_28 m_28 → mm_W d mc_156 28 [some (.ref 0), some (iv x1)] [] (fm m_28) (XK Q) := by
    intro m_28  hR
    have H := HJ_28 m_28  hR
    refine f_int 0 rfl rfl ?_
    exact tl_29 0 m_28 (by unfold rg; decide) H
  refine z_eq rfl r_v3 (fun hq => ?_) (fun hq => ?_)
  · replace H := H.1 hq
    exact tl_28 m3  H
  · replace H := H.2 hq
    refine w_st (fun _ => rfl) ?_
    refine g_0_8 rfl ?_
    refine w_st (fun _ => rfl) ?_
    refine g_0_9 rfl ?_
    refine w_st (fun _ => rfl) ?_
    refine k_VK (as := [.ref 274, iv x1]) rfl mg_156 rfl rfl (by decide) rfl rfl H (fun m18 v18 r_v18 H => ?_)
    refine z_eq rfl r_v18 (fun hq => ?_) (fun hq => ?_)
    · replace H := H.1 hq
      exact tl_28 m18  H
    · replace H := H.2 hq
      refine f_int 1 rfl rfl ?_
      refine w_st (fun _ => rfl) ?_
      exact tl_29 1 m18 (by unfold rg; decide) H
/-- TippedCrates.count(I)I -/
def P_157 (d : Nat) (m : Mm) (x1 : Int) (Q : Mm → Int → Prop) : Prop :=
  ((x1 = 0 → Q m (rd m 7 0)) ∧
    (x1 = 1 → Q m (rd m 7 1)) ∧
    (x1 = 2 → Q m (rd m 7 3)) ∧
    (x1 = 3 → Q m (rd m 274 5)) ∧
    (x1 = 4 → Q m (rd m 274 6)) ∧
    (x1 = 5 → Q m (rd m 7 4)) ∧
    (x1 = 6 → CK d 158 [.ref 0, iv x1] m (fun m146 v146 =>
                  Q m146 v146)) ∧
    (x1 = 7 → CK d 158 [.ref 0, iv x1] m (fun m146 v146 =>
                    Q m146 v146)) ∧
    (x1 = 8 → Q m (rd m 1 0)) ∧
    (x1 = 9 → Q m (rd m 55 0)) ∧
    (x1 = 10 → Q m (rd m 49 0)) ∧
    (x1 = 11 → CK d 25 [.ref 55] m (fun m140 v140 =>
                            Q m140 v140)) ∧
    (x1 < 0 ∨ 11 < x1 → CK d 158 [.ref 0, iv x1] m (fun m146 v146 =>
                            Q m146 v146)))
set_option maxRecDepth 20000 in
theorem br_157 {d : Nat} {m : Mm} {x1 : Int} {Q : Mm → Int → Prop} (r_x1 : rg x1) (H : P_157 d m x1 Q) : CK (d + 1) 157 [.ref 0, iv x1] m Q := by
  unfold P_157 at H
  refine CK_of rfl ?_
  show mm_W d mc_157 0 [some (.ref 0), some (iv x1)] [] (fm m) (XK Q)
  refine w_st (fun _ => rfl) ?_
  by_cases e0_1 : x1 = 0
  · refine f_tsw 0 rfl r_x1 e0_1 rfl rfl ?_
    replace H := H.1 e0_1
    refine w_st (fun _ => rfl) ?_
    refine g_0_1 rfl ?_
    refine g_7_0 rfl ?_
    exact f_iret rfl (rd_rg _ _ _) H
  · replace H := H.2
    by_cases e1_1 : x1 = 1
    · refine f_tsw 1 rfl r_x1 e1_1 rfl rfl ?_
      replace H := H.1 e1_1
      refine w_st (fun _ => rfl) ?_
      refine g_0_1 rfl ?_
      refine g_7_1 rfl ?_
      exact f_iret rfl (rd_rg _ _ _) H
    · replace H := H.2
      by_cases e2_1 : x1 = 2
      · refine f_tsw 2 rfl r_x1 e2_1 rfl rfl ?_
        replace H := H.1 e2_1
        refine w_st (fun _ => rfl) ?_
        refine g_0_1 rfl ?_
        refine g_7_3 rfl ?_
        exact f_iret rfl (rd_rg _ _ _) H
      · replace H := H.2
        by_cases e3_1 : x1 = 3
        · refine f_tsw 3 rfl r_x1 e3_1 rfl rfl ?_
          replace H := H.1 e3_1
          refine w_st (fun _ => rfl) ?_
          refine g_0_9 rfl ?_
          refine f_get rfl (st_l0 st_274) (st_ck st_274 _ _).1 rfl ?_
          exact f_iret rfl (rd_rg _ _ _) H
        · replace H := H.2
          by_cases e4_1 : x1 = 4
          · refine f_tsw 4 rfl r_x1 e4_1 rfl rfl ?_
            replace H := H.1 e4_1
            refine w_st (fun _ => rfl) ?_
            refine g_0_9 rfl ?_
            refine f_get rfl (st_l0 st_274) (st_ck st_274 _ _).1 rfl ?_
            exact f_iret rfl (rd_rg _ _ _) H
          · replace H := H.2
            by_cases e5_1 : x1 = 5
            · refine f_tsw 5 rfl r_x1 e5_1 rfl rfl ?_
              replace H := H.1 e5_1
              refine w_st (fun _ => rfl) ?_
              refine g_0_1 rfl ?_
              refine g_7_4 rfl ?_
              exact f_iret rfl (rd_rg _ _ _) H
            · replace H := H.2
              by_cases e6_1 : x1 = 6
              · refine f_tsw 6 rfl r_x1 e6_1 rfl rfl ?_
                replace H := H.1 e6_1
                refine w_st (fun _ => rfl) ?_
                refine w_st (fun _ => rfl) ?_
                refine k_VK (as := [iv x1]) rfl mg_157 rfl rfl (by decide) rfl rfl H (fun m146 v146 r_v146 H => ?_)
                exact f_iret rfl r_v146 H
              · replace H := H.2
                by_cases e7_1 : x1 = 7
                · refine f_tsw 7 rfl r_x1 e7_1 rfl rfl ?_
                  replace H := H.1 e7_1
                  refine w_st (fun _ => rfl) ?_
                  refine w_st (fun _ => rfl) ?_
                  refine k_VK (as := [iv x1]) rfl mg_157 rfl rfl (by decide) rfl rfl H (fun m146 v146 r_v146 H => ?_)
                  exact f_iret rfl r_v146 H
                · replace H := H.2
                  by_cases e8_1 : x1 = 8
                  · refine f_tsw 8 rfl r_x1 e8_1 rfl rfl ?_
                    replace H := H.1 e8_1
                    refine w_st (fun _ => rfl) ?_
                    refine g_0_0 rfl ?_
                    refine g_1_0 rfl ?_
                    exact f_iret rfl (rd_rg _ _ _) H
                  · replace H := H.2
                    by_cases e9_1 : x1 = 9
                    · refine f_tsw 9 rfl r_x1 e9_1 rfl rfl ?_
                      replace H := H.1 e9_1
                      refine w_st (fun _ => rfl) ?_
                      refine g_0_8 rfl ?_
                      refine g_55_0 rfl ?_
                      exact f_iret rfl (rd_rg _ _ _) H
                    · replace H := H.2
                      by_cases e10_1 : x1 = 10
                      · refine f_tsw 10 rfl r_x1 e10_1 rfl rfl ?_
                        replace H := H.1 e10_1
                        refine w_st (fun _ => rfl) ?_
                        refine g_0_7 rfl ?_
                        refine g_49_0 rfl ?_
                        exact f_iret rfl (rd_rg _ _ _) H
                      · replace H := H.2
                        by_cases e11_1 : x1 = 11
                        · refine f_tsw 11 rfl r_x1 e11_1 rfl rfl ?_
                          replace H := H.1 e11_1
                          refine w_st (fun _ => rfl) ?_
                          refine g_0_8 rfl ?_
                          refine k_VK (as := []) rfl mg_157 rfl rfl (by decide) rfl rfl H (fun m140 v140 r_v140 H => ?_)
                          exact f_iret rfl r_v140 H
                        · replace H := H.2
                          refine f_tswd rfl r_x1 (by omega) ?_
                          replace H := H (by omega)
                          refine w_st (fun _ => rfl) ?_
                          refine w_st (fun _ => rfl) ?_
                          refine k_VK (as := [iv x1]) rfl mg_157 rfl rfl (by decide) rfl rfl H (fun m146 v146 r_v146 H => ?_)
                          exact f_iret rfl r_v146 H
/-- TippedCrates.countCratesAndFlags(I)I -/
def P_158 (d : Nat) (m : Mm) (x1 : Int) (Q : Mm → Int → Prop) : Prop :=
  ((x1 = 6 → CK d 79 [.ref 274] m (fun m64 v64 =>
      Q m64 v64)) ∧
    (x1 = 7 → CK d 80 [.ref 274] m (fun m72 v72 =>
        Q m72 v72)) ∧
    (x1 = 8 → Q m (-1)) ∧
    (x1 = 9 → Q m (-1)) ∧
    (x1 = 10 → Q m (-1)) ∧
    (x1 = 11 → Q m (-1)) ∧
    (x1 = 12 → CK d 82 [.ref 274] m (fun m80 v80 =>
                  Q m80 v80)) ∧
    (x1 = 13 → CK d 83 [.ref 274] m (fun m88 v88 =>
                    Q m88 v88)) ∧
    (x1 = 14 → CK d 81 [.ref 274] m (fun m96 v96 =>
                      Q m96 v96)) ∧
    (x1 = 15 → CK d 159 [.ref 0] m (fun m101 v101 =>
                        Q m101 v101)) ∧
    (x1 = 16 → CK d 84 [.ref 274] m (fun m109 v109 =>
                          Q m109 v109)) ∧
    (x1 < 6 ∨ 16 < x1 → Q m (-1)))
set_option maxRecDepth 20000 in
theorem br_158 {d : Nat} {m : Mm} {x1 : Int} {Q : Mm → Int → Prop} (r_x1 : rg x1) (H : P_158 d m x1 Q) : CK (d + 1) 158 [.ref 0, iv x1] m Q := by
  unfold P_158 at H
  refine CK_of rfl ?_
  show mm_W d mc_158 0 [some (.ref 0), some (iv x1)] [] (fm m) (XK Q)
  refine w_st (fun _ => rfl) ?_
  by_cases e6_1 : x1 = 6
  · refine f_tsw 6 rfl r_x1 e6_1 rfl rfl ?_
    replace H := H.1 e6_1
    refine w_st (fun _ => rfl) ?_
    refine g_0_9 rfl ?_
    refine k_VK (as := []) rfl mg_158 rfl rfl (st_l0 st_274) (st_ck st_274 _ _).1 rfl H (fun m64 v64 r_v64 H => ?_)
    exact f_iret rfl r_v64 H
  · replace H := H.2
    by_cases e7_1 : x1 = 7
    · refine f_tsw 7 rfl r_x1 e7_1 rfl rfl ?_
      replace H := H.1 e7_1
      refine w_st (fun _ => rfl) ?_
      refine g_0_9 rfl ?_
      refine k_VK (as := []) rfl mg_158 rfl rfl (st_l0 st_274) (st_ck st_274 _ _).1 rfl H (fun m72 v72 r_v72 H => ?_)
      exact f_iret rfl r_v72 H
    · replace H := H.2
      by_cases e8_1 : x1 = 8
      · refine f_tsw 8 rfl r_x1 e8_1 rfl rfl ?_
        replace H := H.1 e8_1
        refine f_int (-1) rfl rfl ?_
        exact f_iret rfl (by unfold rg; decide) H
      · replace H := H.2
        by_cases e9_1 : x1 = 9
        · refine f_tsw 9 rfl r_x1 e9_1 rfl rfl ?_
          replace H := H.1 e9_1
          refine f_int (-1) rfl rfl ?_
          exact f_iret rfl (by unfold rg; decide) H
        · replace H := H.2
          by_cases e10_1 : x1 = 10
          · refine f_tsw 10 rfl r_x1 e10_1 rfl rfl ?_
            replace H := H.1 e10_1
            refine f_int (-1) rfl rfl ?_
            exact f_iret rfl (by unfold rg; decide) H
          · replace H := H.2
            by_cases e11_1 : x1 = 11
            · refine f_tsw 11 rfl r_x1 e11_1 rfl rfl ?_
              replace H := H.1 e11_1
              refine f_int (-1) rfl rfl ?_
              exact f_iret rfl (by unfold rg; decide) H
            · replace H := H.2
              by_cases e12_1 : x1 = 12
              · refine f_tsw 12 rfl r_x1 e12_1 rfl rfl ?_
                replace H := H.1 e12_1
                refine w_st (fun _ => rfl) ?_
                refine g_0_9 rfl ?_
                refine k_VK (as := []) rfl mg_158 rfl rfl (st_l0 st_274) (st_ck st_274 _ _).1 rfl H (fun m80 v80 r_v80 H => ?_)
                exact f_iret rfl r_v80 H
              · replace H := H.2
                by_cases e13_1 : x1 = 13
                · refine f_tsw 13 rfl r_x1 e13_1 rfl rfl ?_
                  replace H := H.1 e13_1
                  refine w_st (fun _ => rfl) ?_
                  refine g_0_9 rfl ?_
                  refine k_VK (as := []) rfl mg_158 rfl rfl (st_l0 st_274) (st_ck st_274 _ _).1 rfl H (fun m88 v88 r_v88 H => ?_)
                  exact f_iret rfl r_v88 H
                · replace H := H.2
                  by_cases e14_1 : x1 = 14
                  · refine f_tsw 14 rfl r_x1 e14_1 rfl rfl ?_
                    replace H := H.1 e14_1
                    refine w_st (fun _ => rfl) ?_
                    refine g_0_9 rfl ?_
                    refine k_VK (as := []) rfl mg_158 rfl rfl (st_l0 st_274) (st_ck st_274 _ _).1 rfl H (fun m96 v96 r_v96 H => ?_)
                    exact f_iret rfl r_v96 H
                  · replace H := H.2
                    by_cases e15_1 : x1 = 15
                    · refine f_tsw 15 rfl r_x1 e15_1 rfl rfl ?_
                      replace H := H.1 e15_1
                      refine w_st (fun _ => rfl) ?_
                      refine k_VK (as := []) rfl mg_158 rfl rfl (by decide) rfl rfl H (fun m101 v101 r_v101 H => ?_)
                      exact f_iret rfl r_v101 H
                    · replace H := H.2
                      by_cases e16_1 : x1 = 16
                      · refine f_tsw 16 rfl r_x1 e16_1 rfl rfl ?_
                        replace H := H.1 e16_1
                        refine w_st (fun _ => rfl) ?_
                        refine g_0_9 rfl ?_
                        refine k_VK (as := []) rfl mg_158 rfl rfl (st_l0 st_274) (st_ck st_274 _ _).1 rfl H (fun m109 v109 r_v109 H => ?_)
                        exact f_iret rfl r_v109 H
                      · replace H := H.2
                        refine f_tswd rfl r_x1 (by omega) ?_
                        replace H := H (by omega)
                        refine f_int (-1) rfl rfl ?_
                        exact f_iret rfl (by unfold rg; decide) H
/-- TippedCrates.stuckCrates()I -/
def P_159 (d : Nat) (m : Mm)  (Q : Mm → Int → Prop) : Prop :=
  (∃ (I_4 : Int → Int → Mm → Prop) (mu_4 : Int → Int → Mm → Nat), I_4 0 0 m ∧
    ∀ (x1_4 x2_4 : Int) (m_4 : Mm), rg x1_4 → rg x2_4 → I_4 x1_4 x2_4 m_4 →
    (((rd m_4 7 3) ≤ x2_4 → Q m_4 x1_4) ∧
        (¬ (rd m_4 7 3) ≤ x2_4 → (∃ (I_20 : Int → Int → Mm → Prop) (mu_20 : Int → Int → Mm → Nat), I_20 0 0 m_4 ∧
          ∀ (x3_20 x4_20 : Int) (m_20 : Mm), rg x3_20 → rg x4_20 → I_20 x3_20 x4_20 m_20 →
          ((4 ≤ x4_20 → (∃ R_59 : Int → Prop,
                ((¬ x3_20 = 0 → R_59 x1_4) ∧
                (x3_20 = 0 → (∀ z1_58 : Int, z1_58 = (orI x1_4 (slI 1 x2_4)) → R_59 z1_58))) ∧
                (∀ (y1_59 : Int) , rg y1_59 → R_59 y1_59 →
                (∀ z2_59 : Int, z2_59 = wr (x2_4 + 1) → (I_4 y1_59 z2_59 m_20 ∧ mu_4 y1_59 z2_59 m_20 < mu_4 x1_4 x2_4 m_4))))) ∧
              (¬ 4 ≤ x4_20 → CK d 1 [.ref 30, .ref 274, iv x2_4, iv x4_20] m_20 (fun m38 v38 =>
                (∀ z3_42 : Int, z3_42 = (orI x3_20 v38) → (∀ z4_43 : Int, z4_43 = wr (x4_20 + 1) → (I_20 z3_42 z4_43 m38 ∧ mu_20 z3_42 z4_43 m38 < mu_20 x3_20 x4_20 m_20))))))))))
set_option maxRecDepth 20000 in
theorem br_159 {d : Nat} {m : Mm}  {Q : Mm → Int → Prop}  (H : P_159 d m  Q) : CK (d + 1) 159 [.ref 0] m Q := by
  unfold P_159 at H
  refine CK_of rfl ?_
  show mm_W d mc_159 0 [some (.ref 0), none, none, none, none] [] (fm m) (XK Q)
  refine f_int 0 rfl rfl ?_
  refine w_st (ls2 := [some (.ref 0), some (iv 0), none, none, none]) (fun _ => rfl) ?_
  refine f_int 0 rfl rfl ?_
  refine w_st (ls2 := [some (.ref 0), some (iv 0), some (iv 0), none, none]) (fun _ => rfl) ?_
  obtain ⟨I_4, mu_4, H0_4, HB_4⟩ := H
  have lp_4 : ∀ (z : Nat) (x1_4 x2_4 : Int) (m_4 : Mm) (g3_4 g4_4 : Option Value), mu_4 x1_4 x2_4 m_4 < z → rg x1_4 → rg x2_4 → I_4 x1_4 x2_4 m_4 → mm_W d mc_159 4 [some (.ref 0), some (iv x1_4), some (iv x2_4), g3_4, g4_4] [] (fm m_4) (XK Q) := by
    intro z
    induction z with
    | zero => intro x1_4 x2_4 m_4 g3_4 g4_4 hz; exact absurd hz (Nat.not_lt_zero _)
    | succ z ih_4 =>
      intro x1_4 x2_4 m_4 g3_4 g4_4 hz_4 r_x1_4 r_x2_4 hI
      have H := HB_4 x1_4 x2_4 m_4 r_x1_4 r_x2_4 hI
      refine w_st (fun _ => rfl) ?_
      refine w_st (fun _ => rfl) ?_
      refine g_0_1 rfl ?_
      refine g_7_3 rfl ?_
      refine b_ge rfl r_x2_4 (rd_rg _ _ _) (fun hq => ?_) (fun hq => ?_)
      · replace H := H.1 hq
        refine w_st (fun _ => rfl) ?_
        exact f_iret rfl r_x1_4 H
      · replace H := H.2 hq
        refine f_int 0 rfl rfl ?_
        refine w_st (ls2 := [some (.ref 0), some (iv x1_4), some (iv x2_4), some (iv 0), g4_4]) (fun _ => rfl) ?_
        refine f_int 0 rfl rfl ?_
        refine w_st (ls2 := [some (.ref 0), some (iv x1_4), some (iv x2_4), some (iv 0), some (iv 0)]) (fun _ => rfl) ?_
        obtain ⟨I_20, mu_20, H0_20, HB_20⟩ := H
        have lp_20 : ∀ (z : Nat) (x3_20 x4_20 : Int) (m_20 : Mm), mu_20 x3_20 x4_20 m_20 < z → rg x3_20 → rg x4_20 → I_20 x3_20 x4_20 m_20 → mm_W d mc_159 20 [some (.ref 0), some (iv x1_4), some (iv x2_4), some (iv x3_20), some (iv x4_20)] [] (fm m_20) (XK Q) := by
          intro z
          induction z with
          | zero => intro x3_20 x4_20 m_20 hz; exact absurd hz (Nat.not_lt_zero _)
          | succ z ih_20 =>
            intro x3_20 x4_20 m_20 hz_20 r_x3_20 r_x4_20 hI
            have H := HB_20 x3_20 x4_20 m_20 r_x3_20 r_x4_20 hI
            refine w_st (fun _ => rfl) ?_
            refine f_int 4 rfl rfl ?_
            refine b_ge rfl r_x4_20 (by unfold rg; decide) (fun hq => ?_) (fun hq => ?_)
            · replace H := H.1 hq
              refine w_st (fun _ => rfl) ?_
              obtain ⟨R_59, H, HJ_59⟩ := H
              have tl_59 : ∀ (y1_59 : Int) , rg y1_59 → R_59 y1_59 → mm_W d mc_159 59 [some (.ref 0), some (iv y1_59), some (iv x2_4), some (iv x3_20), some (iv x4_20)] [] (fm m_20) (XK Q) := by
                intro y1_59 r_y1_59 hR
                have H := HJ_59 y1_59 r_y1_59 hR
                obtain ⟨z2_59, e_z2_59⟩ : ∃ q : Int, q = wr (x2_4 + 1) := ⟨_, rfl⟩
                have r_z2_59 : rg z2_59 := by rw [e_z2_59]; exact wr_rg _
                replace H := H z2_59 e_z2_59
                refine f_iinc (ls2 := [some (.ref 0), some (iv y1_59), some (iv z2_59), some (iv x3_20), some (iv x4_20)]) 1 rfl rfl rfl e_z2_59 rfl ?_
                refine w_st (fun _ => rfl) ?_
                exact ih_4 y1_59 z2_59 m_20 (some (iv x3_20)) (some (iv x4_20)) (Nat.lt_of_lt_of_le H.2 (Nat.le_of_lt_succ hz_4)) r_y1_59 r_z2_59 H.1
              refine z_ne rfl r_x3_20 (fun hq => ?_) (fun hq => ?_)
              · replace H := H.1 hq
                exact tl_59 x1_4 r_x1_4 H
              · replace H := H.2 hq
                refine w_st (fun _ => rfl) ?_
                refine f_int 1 rfl rfl ?_
                refine w_st (fun _ => rfl) ?_
                refine f_slI rfl ?_
                refine f_orI rfl ?_
                obtain ⟨z1_58, e_z1_58⟩ : ∃ q : Int, q = (orI x1_4 (slI 1 x2_4)) := ⟨_, rfl⟩
                have r_z1_58 : rg z1_58 := by rw [e_z1_58]; exact (io_rg _ _ _)
                replace H := H z1_58 e_z1_58
                refine f_nm e_z1_58 ?_
                refine w_st (ls2 := [some (.ref 0), some (iv z1_58), some (iv x2_4), some (iv x3_20), some (iv x4_20)]) (fun _ => rfl) ?_
                exact tl_59 z1_58 r_z1_58 H
            · replace H := H.2 hq
              refine w_st (fun _ => rfl) ?_
              refine w_st (fun _ => rfl) ?_
              refine g_0_3 rfl ?_
              refine w_st (fun _ => rfl) ?_
              refine g_0_9 rfl ?_
              refine w_st (fun _ => rfl) ?_
              refine w_st (fun _ => rfl) ?_
              refine k_VK (as := [.ref 274, iv x2_4, iv x4_20]) rfl mg_159 rfl rfl (by decide) rfl rfl H (fun m38 v38 r_v38 H => ?_)
              refine f_orI rfl ?_
              obtain ⟨z3_42, e_z3_42⟩ : ∃ q : Int, q = (orI x3_20 v38) := ⟨_, rfl⟩
              have r_z3_42 : rg z3_42 := by rw [e_z3_42]; exact (io_rg _ _ _)
              replace H := H z3_42 e_z3_42
              refine f_nm e_z3_42 ?_
              refine w_st (ls2 := [some (.ref 0), some (iv x1_4), some (iv x2_4), some (iv z3_42), some (iv x4_20)]) (fun _ => rfl) ?_
              obtain ⟨z4_43, e_z4_43⟩ : ∃ q : Int, q = wr (x4_20 + 1) := ⟨_, rfl⟩
              have r_z4_43 : rg z4_43 := by rw [e_z4_43]; exact wr_rg _
              replace H := H z4_43 e_z4_43
              refine f_iinc (ls2 := [some (.ref 0), some (iv x1_4), some (iv x2_4), some (iv z3_42), some (iv z4_43)]) 1 rfl rfl rfl e_z4_43 rfl ?_
              refine w_st (fun _ => rfl) ?_
              exact ih_20 z3_42 z4_43 m38 (Nat.lt_of_lt_of_le H.2 (Nat.le_of_lt_succ hz_20)) r_z3_42 r_z4_43 H.1
        exact lp_20 _ 0 0 m_4 (Nat.lt_succ_self _) (by unfold rg; decide) (by unfold rg; decide) H0_20
  exact lp_4 _ 0 0 m none none (Nat.lt_succ_self _) (by unfold rg; decide) (by unfold rg; decide) H0_4
/-- TippedCrates.foresee(II)V -/
def P_160 (d : Nat) (m : Mm) (x1 : Int) (x2 : Int) (Q : Mm → Prop) : Prop :=
  CV d 76 [.ref 279, .ref 274] m (fun m8 =>
    CV d 8 [.ref 30, .ref 279, iv x1, iv x2] m8 (fun m21 =>
    Q m21))
set_option maxRecDepth 20000 in
theorem br_160 {d : Nat} {m : Mm} {x1 : Int} {x2 : Int} {Q : Mm → Prop} (r_x1 : rg x1) (r_x2 : rg x2) (H : P_160 d m x1 x2 Q) : CV (d + 1) 160 [.ref 0, iv x1, iv x2] m Q := by
  unfold P_160 at H
  refine CV_of rfl ?_
  show mm_W d mc_160 0 [some (.ref 0), some (iv x1), some (iv x2)] [] (fm m) (XV Q)
  refine w_st (fun _ => rfl) ?_
  refine g_0_10 rfl ?_
  refine w_st (fun _ => rfl) ?_
  refine g_0_9 rfl ?_
  refine k_VV (as := [.ref 274]) rfl mg_160 rfl rfl (st_l0 st_279) (st_ck st_279 _ _).1 rfl H (fun m8 H => ?_)
  refine w_st (fun _ => rfl) ?_
  refine g_0_3 rfl ?_
  refine w_st (fun _ => rfl) ?_
  refine g_0_10 rfl ?_
  refine w_st (fun _ => rfl) ?_
  refine w_st (fun _ => rfl) ?_
  refine k_VV (as := [.ref 279, iv x1, iv x2]) rfl mg_160 rfl rfl (by decide) rfl rfl H (fun m21 H => ?_)
  exact f_ret rfl H
/-- TippedCrates.canAskRows(III)Z -/
def P_161 (d : Nat) (m : Mm) (x1 : Int) (x2 : Int) (x3 : Int) (Q : Mm → Int → Prop) : Prop :=
  CK d 166 [iv x1, iv 0, iv (rd m 49 0)] m (fun m9 v9 =>
    (∃ R_37 : Int → Mm → Prop,
    (∃ R_36 : Mm → Prop,
    ((v9 = 0 → R_36 m9) ∧
    (¬ v9 = 0 → CK d 162 [.ref 0, iv x2] m9 (fun m17 v17 =>
      ((v17 = 0 → R_36 m17) ∧
      (¬ v17 = 0 → CK d 166 [iv x3, iv 1, iv 5] m17 (fun m26 v26 =>
        ((v26 = 0 → R_36 m26) ∧
        (¬ v26 = 0 → R_37 1 m26)))))))) ∧
    (∀ (m_36 : Mm), R_36 m_36 →
    R_37 0 m_36)) ∧
    (∀ (s0_37 : Int) (m_37 : Mm), rg s0_37 → R_37 s0_37 m_37 →
    ((s0_37 = 0 ∨ s0_37 = 1) ∧ Q m_37 s0_37))))
set_option maxRecDepth 20000 in
theorem br_161 {d : Nat} {m : Mm} {x1 : Int} {x2 : Int} {x3 : Int} {Q : Mm → Int → Prop} (r_x1 : rg x1) (r_x2 : rg x2) (r_x3 : rg x3) (H : P_161 d m x1 x2 x3 Q) : CK (d + 1) 161 [.ref 0, iv x1, iv x2, iv x3] m Q := by
  unfold P_161 at H
  refine CK_of rfl ?_
  show mm_W d mc_161 0 [some (.ref 0), some (iv x1), some (iv x2), some (iv x3)] [] (fm m) (XK Q)
  refine w_st (fun _ => rfl) ?_
  refine f_int 0 rfl rfl ?_
  refine w_st (fun _ => rfl) ?_
  refine g_0_7 rfl ?_
  refine g_49_0 rfl ?_
  refine k_SK (as := [iv x1, iv 0, iv (rd m 49 0)]) rfl mg_161 rfl rfl rfl H (fun m9 v9 r_v9 H => ?_)
  obtain ⟨R_37, H, HJ_37⟩ := H
  have tl_37 : ∀ (s0_37 : Int) (m_37 : Mm), rg s0_37 → R_37 s0_37 m_37 → mm_W d mc_161 37 [some (.ref 0), some (iv x1), some (iv x2), some (iv x3)] [iv s0_37] (fm m_37) (XK Q) := by
    intro s0_37 m_37 r_s0_37 hR
    have H := HJ_37 s0_37 m_37 r_s0_37 hR
    exact f_zret rfl r_s0_37 H.1 H.2
  obtain ⟨R_36, H, HJ_36⟩ := H
  have tl_36 : ∀ (m_36 : Mm), R_36 m_36 → mm_W d mc_161 36 [some (.ref 0), some (iv x1), some (iv x2), some (iv x3)] [] (fm m_36) (XK Q) := by
    intro m_36  hR
    have H := HJ_36 m_36  hR
    refine f_int 0 rfl rfl ?_
    exact tl_37 0 m_36 (by unfold rg; decide) H
  refine z_eq rfl r_v9 (fun hq => ?_) (fun hq => ?_)
  · replace H := H.1 hq
    exact tl_36 m9  H
  · replace H := H.2 hq
    refine w_st (fun _ => rfl) ?_
    refine w_st (fun _ => rfl) ?_
    refine k_VK (as := [iv x2]) rfl mg_161 rfl rfl (by decide) rfl rfl H (fun m17 v17 r_v17 H => ?_)
    refine z_eq rfl r_v17 (fun hq => ?_) (fun hq => ?_)
    · replace H := H.1 hq
      exact tl_36 m17  H
    · replace H := H.2 hq
      refine w_st (fun _ => rfl) ?_
      refine f_int 1 rfl rfl ?_
      refine f_int 5 rfl rfl ?_
      refine k_SK (as := [iv x3, iv 1, iv 5]) rfl mg_161 rfl rfl rfl H (fun m26 v26 r_v26 H => ?_)
      refine z_eq rfl r_v26 (fun hq => ?_) (fun hq => ?_)
      · replace H := H.1 hq
        exact tl_36 m26  H
      · replace H := H.2 hq
        refine f_int 1 rfl rfl ?_
        refine w_st (fun _ => rfl) ?_
        exact tl_37 1 m26 (by unfold rg; decide) H
/-- TippedCrates.isCrate(I)Z -/
def P_162 (d : Nat) (m : Mm) (x1 : Int) (Q : Mm → Int → Prop) : Prop :=
  CK d 166 [iv x1, iv 0, iv (wr ((rd m 7 3) - 1))] m (fun m11 v11 =>
    ((v11 = 0 ∨ v11 = 1) ∧ Q m11 v11))
set_option maxRecDepth 20000 in
theorem br_162 {d : Nat} {m : Mm} {x1 : Int} {Q : Mm → Int → Prop} (r_x1 : rg x1) (H : P_162 d m x1 Q) : CK (d + 1) 162 [.ref 0, iv x1] m Q := by
  unfold P_162 at H
  refine CK_of rfl ?_
  show mm_W d mc_162 0 [some (.ref 0), some (iv x1)] [] (fm m) (XK Q)
  refine w_st (fun _ => rfl) ?_
  refine f_int 0 rfl rfl ?_
  refine w_st (fun _ => rfl) ?_
  refine g_0_1 rfl ?_
  refine g_7_3 rfl ?_
  refine f_int 1 rfl rfl ?_
  refine f_sub rfl ?_
  refine k_SK (as := [iv x1, iv 0, iv (wr ((rd m 7 3) - 1))]) rfl mg_162 rfl rfl rfl H (fun m11 v11 r_v11 H => ?_)
  exact f_zret rfl r_v11 H.1 H.2
/-- TippedCrates.isFlag(I)Z -/
def P_163 (d : Nat) (m : Mm) (x1 : Int) (Q : Mm → Int → Prop) : Prop :=
  CK d 166 [iv x1, iv 0, iv (wr ((wr ((rd m 7 0) * (rd m 7 1))) - 1))] m (fun m19 v19 =>
    ((v19 = 0 ∨ v19 = 1) ∧ Q m19 v19))
set_option maxRecDepth 20000 in
theorem br_163 {d : Nat} {m : Mm} {x1 : Int} {Q : Mm → Int → Prop} (r_x1 : rg x1) (H : P_163 d m x1 Q) : CK (d + 1) 163 [.ref 0, iv x1] m Q := by
  unfold P_163 at H
  refine CK_of rfl ?_
  show mm_W d mc_163 0 [some (.ref 0), some (iv x1)] [] (fm m) (XK Q)
  refine w_st (fun _ => rfl) ?_
  refine f_int 0 rfl rfl ?_
  refine w_st (fun _ => rfl) ?_
  refine g_0_1 rfl ?_
  refine g_7_0 rfl ?_
  refine w_st (fun _ => rfl) ?_
  refine g_0_1 rfl ?_
  refine g_7_1 rfl ?_
  refine f_mul rfl ?_
  refine f_int 1 rfl rfl ?_
  refine f_sub rfl ?_
  refine k_SK (as := [iv x1, iv 0, iv (wr ((wr ((rd m 7 0) * (rd m 7 1))) - 1))]) rfl mg_163 rfl rfl rfl H (fun m19 v19 r_v19 H => ?_)
  exact f_zret rfl r_v19 H.1 H.2
/-- TippedCrates.isMark(I)Z -/
def P_164 (d : Nat) (m : Mm) (x0 : Int) (Q : Mm → Int → Prop) : Prop :=
  CK d 166 [iv x0, iv 0, iv 9] m (fun m4 v4 =>
    ((v4 = 0 ∨ v4 = 1) ∧ Q m4 v4))
set_option maxRecDepth 20000 in
theorem br_164 {d : Nat} {m : Mm} {x0 : Int} {Q : Mm → Int → Prop} (r_x0 : rg x0) (H : P_164 d m x0 Q) : CK (d + 1) 164 [iv x0] m Q := by
  unfold P_164 at H
  refine CK_of rfl ?_
  show mm_W d mc_164 0 [some (iv x0)] [] (fm m) (XK Q)
  refine w_st (fun _ => rfl) ?_
  refine f_int 0 rfl rfl ?_
  refine f_int 9 rfl rfl ?_
  refine k_SK (as := [iv x0, iv 0, iv 9]) rfl mg_164 rfl rfl rfl H (fun m4 v4 r_v4 H => ?_)
  exact f_zret rfl r_v4 H.1 H.2
/-- TippedCrates.isWay(I)Z -/
def P_165 (d : Nat) (m : Mm) (x0 : Int) (Q : Mm → Int → Prop) : Prop :=
  CK d 166 [iv x0, iv 0, iv 3] m (fun m3 v3 =>
    ((v3 = 0 ∨ v3 = 1) ∧ Q m3 v3))
set_option maxRecDepth 20000 in
theorem br_165 {d : Nat} {m : Mm} {x0 : Int} {Q : Mm → Int → Prop} (r_x0 : rg x0) (H : P_165 d m x0 Q) : CK (d + 1) 165 [iv x0] m Q := by
  unfold P_165 at H
  refine CK_of rfl ?_
  show mm_W d mc_165 0 [some (iv x0)] [] (fm m) (XK Q)
  refine w_st (fun _ => rfl) ?_
  refine f_int 0 rfl rfl ?_
  refine f_int 3 rfl rfl ?_
  refine k_SK (as := [iv x0, iv 0, iv 3]) rfl mg_165 rfl rfl rfl H (fun m3 v3 r_v3 H => ?_)
  exact f_zret rfl r_v3 H.1 H.2
/-- TippedCrates.within(III)Z -/
def P_166 (d : Nat) (m : Mm) (x0 : Int) (x1 : Int) (x2 : Int) (Q : Mm → Int → Prop) : Prop :=
  (∃ R_15 : Int → Prop,
    (∃ R_14 : Prop,
    ((x0 < x1 → R_14) ∧
    (¬ x0 < x1 → ((x2 < x0 → R_14) ∧
      (¬ x2 < x0 → R_15 1)))) ∧
    (R_14 →
    R_15 0)) ∧
    (∀ (s0_15 : Int) , rg s0_15 → R_15 s0_15 →
    ((s0_15 = 0 ∨ s0_15 = 1) ∧ Q m s0_15)))
set_option maxRecDepth 20000 in
theorem br_166 {d : Nat} {m : Mm} {x0 : Int} {x1 : Int} {x2 : Int} {Q : Mm → Int → Prop} (r_x0 : rg x0) (r_x1 : rg x1) (r_x2 : rg x2) (H : P_166 d m x0 x1 x2 Q) : CK (d + 1) 166 [iv x0, iv x1, iv x2] m Q := by
  unfold P_166 at H
  refine CK_of rfl ?_
  show mm_W d mc_166 0 [some (iv x0), some (iv x1), some (iv x2)] [] (fm m) (XK Q)
  refine w_st (fun _ => rfl) ?_
  refine w_st (fun _ => rfl) ?_
  obtain ⟨R_15, H, HJ_15⟩ := H
  have tl_15 : ∀ (s0_15 : Int) , rg s0_15 → R_15 s0_15 → mm_W d mc_166 15 [some (iv x0), some (iv x1), some (iv x2)] [iv s0_15] (fm m) (XK Q) := by
    intro s0_15 r_s0_15 hR
    have H := HJ_15 s0_15 r_s0_15 hR
    exact f_zret rfl r_s0_15 H.1 H.2
  obtain ⟨R_14, H, HJ_14⟩ := H
  have tl_14 : R_14 → mm_W d mc_166 14 [some (iv x0), some (iv x1), some (iv x2)] [] (fm m) (XK Q) := by
    intro   hR
    have H := HJ_14   hR
    refine f_int 0 rfl rfl ?_
    exact tl_15 0 (by unfold rg; decide) H
  refine b_lt rfl r_x0 r_x1 (fun hq => ?_) (fun hq => ?_)
  · replace H := H.1 hq
    exact tl_14   H
  · replace H := H.2 hq
    refine w_st (fun _ => rfl) ?_
    refine w_st (fun _ => rfl) ?_
    refine b_gt rfl r_x0 r_x2 (fun hq => ?_) (fun hq => ?_)
    · replace H := H.1 hq
      exact tl_14   H
    · replace H := H.2 hq
      refine f_int 1 rfl rfl ?_
      refine w_st (fun _ => rfl) ?_
      exact tl_15 1 (by unfold rg; decide) H
/-- TippedCrates.turnFaces([III)V -/
def P_167 (d : Nat) (m : Mm) (b n : Nat) (x1 : Int) (x2 : Int) (Q : Mm → Prop) : Prop :=
  (((0 : Int) ≤ x2 ∧ x2 < 4) ∧ (∀ z3_7 : Int, z3_7 = (wr (x1 + (sx 0 x2))) → (((0 : Int) ≤ x2 ∧ x2 < 4) ∧ (∀ z4_15 : Int, z4_15 = (wr (x1 + (sx 1 x2))) → (((0 : Int) ≤ (wr (x1 + 0)) ∧ (wr (x1 + 0)) < n) ∧ (∀ z5_22 : Int, z5_22 = (rd m b (Int.toNat (wr (x1 + 0)))) → (((0 : Int) ≤ z4_15 ∧ z4_15 < n) ∧ (((0 : Int) ≤ (wr (x1 + 0)) ∧ (wr (x1 + 0)) < n) ∧ (∀ m32 : Mm, m32 = wt m b (Int.toNat (wr (x1 + 0))) (rd m b (Int.toNat z4_15)) → (((0 : Int) ≤ (wr (x1 + 1)) ∧ (wr (x1 + 1)) < n) ∧ (((0 : Int) ≤ z4_15 ∧ z4_15 < n) ∧ (∀ m41 : Mm, m41 = wt m32 b (Int.toNat z4_15) (rd m32 b (Int.toNat (wr (x1 + 1)))) → (((0 : Int) ≤ z3_7 ∧ z3_7 < n) ∧ (((0 : Int) ≤ (wr (x1 + 1)) ∧ (wr (x1 + 1)) < n) ∧ (∀ m49 : Mm, m49 = wt m41 b (Int.toNat (wr (x1 + 1))) (rd m41 b (Int.toNat z3_7)) → (((0 : Int) ≤ z3_7 ∧ z3_7 < n) ∧ (∀ m54 : Mm, m54 = wt m49 b (Int.toNat z3_7) z5_22 → Q m54)))))))))))))))))
set_option maxRecDepth 20000 in
theorem br_167 {d : Nat} {m : Mm} {b n : Nat} {x1 : Int} {x2 : Int} {Q : Mm → Prop} (h_b : isR n b) (r_x1 : rg x1) (r_x2 : rg x2) (H : P_167 d m b n x1 x2 Q) : CV (d + 1) 167 [.ref b, iv x1, iv x2] m Q := by
  unfold P_167 at H
  refine CV_of rfl ?_
  show mm_W d mc_167 0 [some (.ref b), some (iv x1), some (iv x2), none, none, none] [] (fm m) (XV Q)
  refine w_st (fun _ => rfl) ?_
  refine w_st (fun _ => rfl) ?_
  refine w_st (fun _ => rfl) ?_
  refine f_sx (n := 4) 0 (by decide) rfl rfl H.1 ?_
  replace H := H.2
  refine f_add rfl ?_
  obtain ⟨z3_7, e_z3_7⟩ : ∃ q : Int, q = (wr (x1 + (sx 0 x2))) := ⟨_, rfl⟩
  have r_z3_7 : rg z3_7 := by rw [e_z3_7]; exact (wr_rg _)
  replace H := H z3_7 e_z3_7
  refine f_nm e_z3_7 ?_
  refine w_st (ls2 := [some (.ref b), some (iv x1), some (iv x2), some (iv z3_7), none, none]) (fun _ => rfl) ?_
  refine w_st (fun _ => rfl) ?_
  refine w_st (fun _ => rfl) ?_
  refine w_st (fun _ => rfl) ?_
  refine f_sx (n := 4) 1 (by decide) rfl rfl H.1 ?_
  replace H := H.2
  refine f_add rfl ?_
  obtain ⟨z4_15, e_z4_15⟩ : ∃ q : Int, q = (wr (x1 + (sx 1 x2))) := ⟨_, rfl⟩
  have r_z4_15 : rg z4_15 := by rw [e_z4_15]; exact (wr_rg _)
  replace H := H z4_15 e_z4_15
  refine f_nm e_z4_15 ?_
  refine w_st (ls2 := [some (.ref b), some (iv x1), some (iv x2), some (iv z3_7), some (iv z4_15), none]) (fun _ => rfl) ?_
  refine w_st (fun _ => rfl) ?_
  refine w_st (fun _ => rfl) ?_
  refine f_int 0 rfl rfl ?_
  refine f_add rfl ?_
  refine f_ld h_b rfl H.1 ?_
  replace H := H.2
  obtain ⟨z5_22, e_z5_22⟩ : ∃ q : Int, q = (rd m b (Int.toNat (wr (x1 + 0)))) := ⟨_, rfl⟩
  have r_z5_22 : rg z5_22 := by rw [e_z5_22]; exact (rd_rg _ _ _)
  replace H := H z5_22 e_z5_22
  refine f_nm e_z5_22 ?_
  refine w_st (ls2 := [some (.ref b), some (iv x1), some (iv x2), some (iv z3_7), some (iv z4_15), some (iv z5_22)]) (fun _ => rfl) ?_
  refine w_st (fun _ => rfl) ?_
  refine w_st (fun _ => rfl) ?_
  refine f_int 0 rfl rfl ?_
  refine f_add rfl ?_
  refine w_st (fun _ => rfl) ?_
  refine w_st (fun _ => rfl) ?_
  refine f_ld h_b rfl H.1 ?_
  replace H := H.2
  obtain ⟨m32, e_m32⟩ : ∃ q : Mm, q = wt m b (Int.toNat (wr (x1 + 0))) (rd m b (Int.toNat z4_15)) := ⟨_, rfl⟩
  refine f_st h_b rfl H.1 e_m32 ?_
  replace H := H.2 m32 e_m32
  refine w_st (fun _ => rfl) ?_
  refine w_st (fun _ => rfl) ?_
  refine w_st (fun _ => rfl) ?_
  refine w_st (fun _ => rfl) ?_
  refine f_int 1 rfl rfl ?_
  refine f_add rfl ?_
  refine f_ld h_b rfl H.1 ?_
  replace H := H.2
  obtain ⟨m41, e_m41⟩ : ∃ q : Mm, q = wt m32 b (Int.toNat z4_15) (rd m32 b (Int.toNat (wr (x1 + 1)))) := ⟨_, rfl⟩
  refine f_st h_b rfl H.1 e_m41 ?_
  replace H := H.2 m41 e_m41
  refine w_st (fun _ => rfl) ?_
  refine w_st (fun _ => rfl) ?_
  refine f_int 1 rfl rfl ?_
  refine f_add rfl ?_
  refine w_st (fun _ => rfl) ?_
  refine w_st (fun _ => rfl) ?_
  refine f_ld h_b rfl H.1 ?_
  replace H := H.2
  obtain ⟨m49, e_m49⟩ : ∃ q : Mm, q = wt m41 b (Int.toNat (wr (x1 + 1))) (rd m41 b (Int.toNat z3_7)) := ⟨_, rfl⟩
  refine f_st h_b rfl H.1 e_m49 ?_
  replace H := H.2 m49 e_m49
  refine w_st (fun _ => rfl) ?_
  refine w_st (fun _ => rfl) ?_
  refine w_st (fun _ => rfl) ?_
  obtain ⟨m54, e_m54⟩ : ∃ q : Mm, q = wt m49 b (Int.toNat z3_7) z5_22 := ⟨_, rfl⟩
  refine f_st h_b rfl H.1 e_m54 ?_
  replace H := H.2 m54 e_m54
  exact f_ret rfl H
