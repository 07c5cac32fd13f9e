/-- TippedCratesModel.then(III)I -/
def P_273 (d : Nat) (m : Mm) (x1 : Int) (x2 : Int) (x3 : Int) (Q : Mm → Int → Prop) : Prop :=
  CK d 210 [.ref 284, iv x1] m (fun m2 v2 =>
    (∃ R_24 : Mm → Prop,
    ((v2 = 0 → R_24 m2) ∧
    (¬ v2 = 0 → CK d 243 [iv x2] m2 (fun m9 v9 =>
      ((v9 = 0 → R_24 m9) ∧
      (¬ v9 = 0 → CK d 206 [iv x3, iv 0, iv 1] m9 (fun m18 v18 =>
        ((¬ v18 = 0 → CV d 216 [.ref 284] m18 (fun m27 =>
          CV d 235 [.ref 284, iv x2] m27 (fun m32 =>
          (∃ R_63 : Int → Prop,
          ((¬ x3 = 0 → (((0 : Int) ≤ (wr (25 + (wr (6 * x1)))) ∧ (wr (25 + (wr (6 * x1)))) < 51) ∧ R_63 (rd m32 323 (Int.toNat (wr (25 + (wr (6 * x1)))))))) ∧
          (x3 = 0 → (((0 : Int) ≤ (wr (43 + x1)) ∧ (wr (43 + x1)) < 51) ∧ R_63 (rd m32 323 (Int.toNat (wr (43 + x1))))))) ∧
          (∀ (s0_63 : Int) , rg s0_63 → R_63 s0_63 →
          Q m32 s0_63))))) ∧
        (v18 = 0 → R_24 m18)))))))) ∧
    (∀ (m_24 : Mm), R_24 m_24 →
    Q m_24 (-1))))
set_option maxRecDepth 20000 in
theorem br_273 {d : Nat} {m : Mm} {x1 : Int} {x2 : Int} {x3 : Int} {Q : Mm → Int → Prop} (r_x1 : rg x1) (r_x2 : rg x2) (r_x3 : rg x3) (H : P_273 d m x1 x2 x3 Q) : CK (d + 1) 273 [.ref 284, iv x1, iv x2, iv x3] m Q := by
  unfold P_273 at H
  refine CK_of rfl ?_
  show mm_W d mc_273 0 [some (.ref 284), some (iv x1), some (iv x2), some (iv x3)] [] (fm m) (XK Q)
  refine w_st (fun _ => rfl) ?_
  refine w_st (fun _ => rfl) ?_
  refine k_VK (as := [iv x1]) rfl mg_273 rfl rfl (by decide) rfl rfl H (fun m2 v2 r_v2 H => ?_)
  obtain ⟨R_24, H, HJ_24⟩ := H
  have tl_24 : ∀ (m_24 : Mm), R_24 m_24 → mm_W d mc_273 24 [some (.ref 284), some (iv x1), some (iv x2), some (iv x3)] [] (fm m_24) (XK Q) := by
    intro m_24  hR
    have H := HJ_24 m_24  hR
    refine f_int (-1) rfl rfl ?_
    exact f_iret rfl (by unfold rg; decide) H
  refine z_eq rfl r_v2 (fun hq => ?_) (fun hq => ?_)
  · replace H := H.1 hq
    exact tl_24 m2  H
  · replace H := H.2 hq
    refine w_st (fun _ => rfl) ?_
    refine k_SK (as := [iv x2]) rfl mg_273 rfl rfl rfl H (fun m9 v9 r_v9 H => ?_)
    refine z_eq rfl r_v9 (fun hq => ?_) (fun hq => ?_)
    · replace H := H.1 hq
      exact tl_24 m9  H
    · replace H := H.2 hq
      refine w_st (fun _ => rfl) ?_
      refine f_int 0 rfl rfl ?_
      refine f_int 1 rfl rfl ?_
      refine k_SK (as := [iv x3, iv 0, iv 1]) rfl mg_273 rfl rfl rfl H (fun m18 v18 r_v18 H => ?_)
      refine z_ne rfl r_v18 (fun hq => ?_) (fun hq => ?_)
      · replace H := H.1 hq
        refine w_st (fun _ => rfl) ?_
        refine k_VV (as := []) rfl mg_273 rfl rfl (by decide) rfl rfl H (fun m27 H => ?_)
        refine w_st (fun _ => rfl) ?_
        refine w_st (fun _ => rfl) ?_
        refine k_VV (as := [iv x2]) rfl mg_273 rfl rfl (by decide) rfl rfl H (fun m32 H => ?_)
        refine w_st (fun _ => rfl) ?_
        obtain ⟨R_63, H, HJ_63⟩ := H
        have tl_63 : ∀ (s0_63 : Int) , rg s0_63 → R_63 s0_63 → mm_W d mc_273 63 [some (.ref 284), some (iv x1), some (iv x2), some (iv x3)] [iv s0_63] (fm m32) (XK Q) := by
          intro s0_63 r_s0_63 hR
          have H := HJ_63 s0_63 r_s0_63 hR
          exact f_iret rfl r_s0_63 H
        refine z_ne rfl r_x3 (fun hq => ?_) (fun hq => ?_)
        · replace H := H.1 hq
          refine w_st (fun _ => rfl) ?_
          refine g_284_57 rfl ?_
          refine f_int 25 rfl rfl ?_
          refine f_int 6 rfl rfl ?_
          refine w_st (fun _ => rfl) ?_
          refine f_mul rfl ?_
          refine f_add rfl ?_
          refine f_ld ir_323 rfl H.1 ?_
          replace H := H.2
          exact tl_63 (rd m32 323 (Int.toNat (wr (25 + (wr (6 * x1)))))) (rd_rg _ _ _) H
        · replace H := H.2 hq
          refine w_st (fun _ => rfl) ?_
          refine g_284_57 rfl ?_
          refine f_int 43 rfl rfl ?_
          refine w_st (fun _ => rfl) ?_
          refine f_add rfl ?_
          refine f_ld ir_323 rfl H.1 ?_
          replace H := H.2
          refine w_st (fun _ => rfl) ?_
          exact tl_63 (rd m32 323 (Int.toNat (wr (43 + x1)))) (rd_rg _ _ _) H
      · replace H := H.2 hq
        exact tl_24 m18  H
/-- TippedCratesModel.flagIn(II)I -/
def P_274 (d : Nat) (m : Mm) (x1 : Int) (x2 : Int) (Q : Mm → Int → Prop) : Prop :=
  CK d 209 [.ref 284, iv x1] m (fun m2 v2 =>
    (∃ R_15 : Mm → Prop,
    ((v2 = 0 → R_15 m2) ∧
    (¬ v2 = 0 → CK d 243 [iv x2] m2 (fun m9 v9 =>
      ((¬ v9 = 0 → CV d 216 [.ref 284] m9 (fun m18 =>
        CV d 235 [.ref 284, iv x2] m18 (fun m23 =>
        (((0 : Int) ≤ x1 ∧ x1 < 51) ∧ Q m23 (rd m23 323 (Int.toNat x1)))))) ∧
      (v9 = 0 → R_15 m9))))) ∧
    (∀ (m_15 : Mm), R_15 m_15 →
    Q m_15 (-1))))
set_option maxRecDepth 20000 in
theorem br_274 {d : Nat} {m : Mm} {x1 : Int} {x2 : Int} {Q : Mm → Int → Prop} (r_x1 : rg x1) (r_x2 : rg x2) (H : P_274 d m x1 x2 Q) : CK (d + 1) 274 [.ref 284, iv x1, iv x2] m Q := by
  unfold P_274 at H
  refine CK_of rfl ?_
  show mm_W d mc_274 0 [some (.ref 284), some (iv x1), some (iv x2)] [] (fm m) (XK Q)
  refine w_st (fun _ => rfl) ?_
  refine w_st (fun _ => rfl) ?_
  refine k_VK (as := [iv x1]) rfl mg_274 rfl rfl (by decide) rfl rfl H (fun m2 v2 r_v2 H => ?_)
  obtain ⟨R_15, H, HJ_15⟩ := H
  have tl_15 : ∀ (m_15 : Mm), R_15 m_15 → mm_W d mc_274 15 [some (.ref 284), some (iv x1), some (iv x2)] [] (fm m_15) (XK Q) := by
    intro m_15  hR
    have H := HJ_15 m_15  hR
    refine f_int (-1) rfl rfl ?_
    exact f_iret rfl (by unfold rg; decide) H
  refine z_eq rfl r_v2 (fun hq => ?_) (fun hq => ?_)
  · replace H := H.1 hq
    exact tl_15 m2  H
  · replace H := H.2 hq
    refine w_st (fun _ => rfl) ?_
    refine k_SK (as := [iv x2]) rfl mg_274 rfl rfl rfl H (fun m9 v9 r_v9 H => ?_)
    refine z_ne rfl r_v9 (fun hq => ?_) (fun hq => ?_)
    · replace H := H.1 hq
      refine w_st (fun _ => rfl) ?_
      refine k_VV (as := []) rfl mg_274 rfl rfl (by decide) rfl rfl H (fun m18 H => ?_)
      refine w_st (fun _ => rfl) ?_
      refine w_st (fun _ => rfl) ?_
      refine k_VV (as := [iv x2]) rfl mg_274 rfl rfl (by decide) rfl rfl H (fun m23 H => ?_)
      refine w_st (fun _ => rfl) ?_
      refine g_284_57 rfl ?_
      refine w_st (fun _ => rfl) ?_
      refine f_ld ir_323 rfl H.1 ?_
      replace H := H.2
      exact f_iret rfl (rd_rg _ _ _) H
    · replace H := H.2 hq
      exact tl_15 m9  H
/-- TippedCratesModel.paidIn(I)I -/
def P_275 (d : Nat) (m : Mm) (x1 : Int) (Q : Mm → Int → Prop) : Prop :=
  CK d 243 [iv x1] m (fun m1 v1 =>
    ((¬ v1 = 0 → CV d 216 [.ref 284] m1 (fun m10 =>
      CV d 235 [.ref 284, iv x1] m10 (fun m15 =>
      Q m15 (rd m15 323 50)))) ∧
    (v1 = 0 → Q m1 (-1))))
set_option maxRecDepth 20000 in
theorem br_275 {d : Nat} {m : Mm} {x1 : Int} {Q : Mm → Int → Prop} (r_x1 : rg x1) (H : P_275 d m x1 Q) : CK (d + 1) 275 [.ref 284, iv x1] m Q := by
  unfold P_275 at H
  refine CK_of rfl ?_
  show mm_W d mc_275 0 [some (.ref 284), some (iv x1)] [] (fm m) (XK Q)
  refine w_st (fun _ => rfl) ?_
  refine k_SK (as := [iv x1]) rfl mg_275 rfl rfl rfl H (fun m1 v1 r_v1 H => ?_)
  refine z_ne rfl r_v1 (fun hq => ?_) (fun hq => ?_)
  · replace H := H.1 hq
    refine w_st (fun _ => rfl) ?_
    refine k_VV (as := []) rfl mg_275 rfl rfl (by decide) rfl rfl H (fun m10 H => ?_)
    refine w_st (fun _ => rfl) ?_
    refine w_st (fun _ => rfl) ?_
    refine k_VV (as := [iv x1]) rfl mg_275 rfl rfl (by decide) rfl rfl H (fun m15 H => ?_)
    refine w_st (fun _ => rfl) ?_
    refine g_284_57 rfl ?_
    refine f_int 50 rfl rfl ?_
    refine f_ld ir_323 rfl ⟨by decide, by decide⟩ ?_
    exact f_iret rfl (rd_rg _ _ _) H
  · replace H := H.2 hq
    refine f_int (-1) rfl rfl ?_
    exact f_iret rfl (by unfold rg; decide) H
/-- TippedCratesModel.year(IIII)I -/
def P_276 (d : Nat) (m : Mm) (x1 : Int) (x2 : Int) (x3 : Int) (x4 : Int) (Q : Mm → Int → Prop) : Prop :=
  CK d 210 [.ref 284, iv x1] m (fun m2 v2 =>
    (∃ R_33 : Mm → Prop,
    ((v2 = 0 → R_33 m2) ∧
    (¬ v2 = 0 → CK d 211 [iv x2] m2 (fun m9 v9 =>
      ((v9 = 0 → R_33 m9) ∧
      (¬ v9 = 0 → CK d 243 [iv x3] m9 (fun m16 v16 =>
        ((v16 = 0 → R_33 m16) ∧
        (¬ v16 = 0 → CK d 206 [iv x4, iv 1, iv 20] m16 (fun m27 v27 =>
          ((¬ v27 = 0 → (∃ (I_41 : Int → Int → Mm → Prop) (mu_41 : Int → Int → Mm → Nat), I_41 0 0 m27 ∧
            ∀ (x5_41 x6_41 : Int) (m_41 : Mm), rg x5_41 → rg x6_41 → I_41 x5_41 x6_41 m_41 →
            ((x4 ≤ x6_41 → Q m_41 x5_41) ∧
                (¬ x4 ≤ x6_41 → CV d 216 [.ref 284] m_41 (fun m49 =>
                  (∀ m60 : Mm, m60 = wt m49 284 58 (wr ((rd m49 284 58) + x6_41)) → CV d 235 [.ref 284, iv x3] m60 (fun m65 =>
                  (((0 : Int) ≤ (wr (25 + (wr (6 * x1)))) ∧ (wr (25 + (wr (6 * x1)))) < 51) ∧ (∃ R_87 : Int → Prop,
                  ((¬ (rd m65 323 (Int.toNat (wr (25 + (wr (6 * x1)))))) = x2 → R_87 x5_41) ∧
                  ((rd m65 323 (Int.toNat (wr (25 + (wr (6 * x1)))))) = x2 → (∀ z5_84 : Int, z5_84 = wr (x5_41 + 1) → R_87 z5_84))) ∧
                  (∀ (y5_87 : Int) , rg y5_87 → R_87 y5_87 →
                  (∀ z6_87 : Int, z6_87 = wr (x6_41 + 1) → (I_41 y5_87 z6_87 m65 ∧ mu_41 y5_87 z6_87 m65 < mu_41 x5_41 x6_41 m_41)))))))))))) ∧
          (v27 = 0 → R_33 m27))))))))))) ∧
    (∀ (m_33 : Mm), R_33 m_33 →
    Q m_33 (-1))))
set_option maxRecDepth 20000 in
theorem br_276 {d : Nat} {m : Mm} {x1 : Int} {x2 : Int} {x3 : Int} {x4 : Int} {Q : Mm → Int → Prop} (r_x1 : rg x1) (r_x2 : rg x2) (r_x3 : rg x3) (r_x4 : rg x4) (H : P_276 d m x1 x2 x3 x4 Q) : CK (d + 1) 276 [.ref 284, iv x1, iv x2, iv x3, iv x4] m Q := by
  unfold P_276 at H
  refine CK_of rfl ?_
  show mm_W d mc_276 0 [some (.ref 284), some (iv x1), some (iv x2), some (iv x3), some (iv x4), none, none] [] (fm m) (XK Q)
  refine w_st (fun _ => rfl) ?_
  refine w_st (fun _ => rfl) ?_
  refine k_VK (as := [iv x1]) rfl mg_276 rfl rfl (by decide) rfl rfl H (fun m2 v2 r_v2 H => ?_)
  obtain ⟨R_33, H, HJ_33⟩ := H
  have tl_33 : ∀ (m_33 : Mm), R_33 m_33 → mm_W d mc_276 33 [some (.ref 284), some (iv x1), some (iv x2), some (iv x3), some (iv x4), none, none] [] (fm m_33) (XK Q) := by
    intro m_33  hR
    have H := HJ_33 m_33  hR
    refine f_int (-1) rfl rfl ?_
    exact f_iret rfl (by unfold rg; decide) H
  refine z_eq rfl r_v2 (fun hq => ?_) (fun hq => ?_)
  · replace H := H.1 hq
    exact tl_33 m2  H
  · replace H := H.2 hq
    refine w_st (fun _ => rfl) ?_
    refine k_SK (as := [iv x2]) rfl mg_276 rfl rfl rfl H (fun m9 v9 r_v9 H => ?_)
    refine z_eq rfl r_v9 (fun hq => ?_) (fun hq => ?_)
    · replace H := H.1 hq
      exact tl_33 m9  H
    · replace H := H.2 hq
      refine w_st (fun _ => rfl) ?_
      refine k_SK (as := [iv x3]) rfl mg_276 rfl rfl rfl H (fun m16 v16 r_v16 H => ?_)
      refine z_eq rfl r_v16 (fun hq => ?_) (fun hq => ?_)
      · replace H := H.1 hq
        exact tl_33 m16  H
      · replace H := H.2 hq
        refine w_st (fun _ => rfl) ?_
        refine f_int 1 rfl rfl ?_
        refine f_int 20 rfl rfl ?_
        refine k_SK (as := [iv x4, iv 1, iv 20]) rfl mg_276 rfl rfl rfl H (fun m27 v27 r_v27 H => ?_)
        refine z_ne rfl r_v27 (fun hq => ?_) (fun hq => ?_)
        · replace H := H.1 hq
          refine f_int 0 rfl rfl ?_
          refine w_st (ls2 := [some (.ref 284), some (iv x1), some (iv x2), some (iv x3), some (iv x4), some (iv 0), none]) (fun _ => rfl) ?_
          refine f_int 0 rfl rfl ?_
          refine w_st (ls2 := [some (.ref 284), some (iv x1), some (iv x2), some (iv x3), some (iv x4), some (iv 0), some (iv 0)]) (fun _ => rfl) ?_
          obtain ⟨I_41, mu_41, H0_41, HB_41⟩ := H
          have lp_41 : ∀ (z : Nat) (x5_41 x6_41 : Int) (m_41 : Mm), mu_41 x5_41 x6_41 m_41 < z → rg x5_41 → rg x6_41 → I_41 x5_41 x6_41 m_41 → mm_W d mc_276 41 [some (.ref 284), some (iv x1), some (iv x2), some (iv x3), some (iv x4), some (iv x5_41), some (iv x6_41)] [] (fm m_41) (XK Q) := by
            intro z
            induction z with
            | zero => intro x5_41 x6_41 m_41 hz; exact absurd hz (Nat.not_lt_zero _)
            | succ z ih_41 =>
              intro x5_41 x6_41 m_41 hz_41 r_x5_41 r_x6_41 hI
              have H := HB_41 x5_41 x6_41 m_41 r_x5_41 r_x6_41 hI
              refine w_st (fun _ => rfl) ?_
              refine w_st (fun _ => rfl) ?_
              refine b_ge rfl r_x6_41 r_x4 (fun hq => ?_) (fun hq => ?_)
              · replace H := H.1 hq
                refine w_st (fun _ => rfl) ?_
                exact f_iret rfl r_x5_41 H
              · replace H := H.2 hq
                refine w_st (fun _ => rfl) ?_
                refine k_VV (as := []) rfl mg_276 rfl rfl (by decide) rfl rfl H (fun m49 H => ?_)
                refine w_st (fun _ => rfl) ?_
                refine w_st (fun _ => rfl) ?_
                refine g_284_58 rfl ?_
                refine w_st (fun _ => rfl) ?_
                refine f_add rfl ?_
                obtain ⟨m60, e_m60⟩ : ∃ q : Mm, q = wt m49 284 58 (wr ((rd m49 284 58) + x6_41)) := ⟨_, rfl⟩
                replace H := H m60 e_m60
                refine p_284_58 rfl e_m60 ?_
                refine w_st (fun _ => rfl) ?_
                refine w_st (fun _ => rfl) ?_
                refine k_VV (as := [iv x3]) rfl mg_276 rfl rfl (by decide) rfl rfl H (fun m65 H => ?_)
                refine w_st (fun _ => rfl) ?_
                refine g_284_57 rfl ?_
                refine f_int 25 rfl rfl ?_
                refine f_int 6 rfl rfl ?_
                refine w_st (fun _ => rfl) ?_
                refine f_mul rfl ?_
                refine f_add rfl ?_
                refine f_ld ir_323 rfl H.1 ?_
                replace H := H.2
                refine w_st (fun _ => rfl) ?_
                obtain ⟨R_87, H, HJ_87⟩ := H
                have tl_87 : ∀ (y5_87 : Int) , rg y5_87 → R_87 y5_87 → mm_W d mc_276 87 [some (.ref 284), some (iv x1), some (iv x2), some (iv x3), some (iv x4), some (iv y5_87), some (iv x6_41)] [] (fm m65) (XK Q) := by
                  intro y5_87 r_y5_87 hR
                  have H := HJ_87 y5_87 r_y5_87 hR
                  obtain ⟨z6_87, e_z6_87⟩ : ∃ q : Int, q = wr (x6_41 + 1) := ⟨_, rfl⟩
                  have r_z6_87 : rg z6_87 := by rw [e_z6_87]; exact wr_rg _
                  replace H := H z6_87 e_z6_87
                  refine f_iinc (ls2 := [some (.ref 284), some (iv x1), some (iv x2), some (iv x3), some (iv x4), some (iv y5_87), some (iv z6_87)]) 1 rfl rfl rfl e_z6_87 rfl ?_
                  refine w_st (fun _ => rfl) ?_
                  exact ih_41 y5_87 z6_87 m65 (Nat.lt_of_lt_of_le H.2 (Nat.le_of_lt_succ hz_41)) r_y5_87 r_z6_87 H.1
                refine b_ne rfl (rd_rg _ _ _) r_x2 (fun hq => ?_) (fun hq => ?_)
                · replace H := H.1 hq
                  exact tl_87 x5_41 r_x5_41 H
                · replace H := H.2 hq
                  obtain ⟨z5_84, e_z5_84⟩ : ∃ q : Int, q = wr (x5_41 + 1) := ⟨_, rfl⟩
                  have r_z5_84 : rg z5_84 := by rw [e_z5_84]; exact wr_rg _
                  replace H := H z5_84 e_z5_84
                  refine f_iinc (ls2 := [some (.ref 284), some (iv x1), some (iv x2), some (iv x3), some (iv x4), some (iv z5_84), some (iv x6_41)]) 1 rfl rfl rfl e_z5_84 rfl ?_
                  exact tl_87 z5_84 r_z5_84 H
          exact lp_41 _ 0 0 m27 (Nat.lt_succ_self _) (by unfold rg; decide) (by unfold rg; decide) H0_41
        · replace H := H.2 hq
          exact tl_33 m27  H
/-- TippedCratesModel.tell(IIZ)I -/
def P_277 (d : Nat) (m : Mm) (x1 : Int) (x2 : Int) (x3 : Int) (Q : Mm → Int → Prop) : Prop :=
  (∃ R_25 : Mm → Prop,
    (((rd m 284 72) = 20 → R_25 m) ∧
    (¬ (rd m 284 72) = 20 → CK d 206 [iv x1, iv 1, iv 5] m (fun m12 v12 =>
      ((v12 = 0 → R_25 m12) ∧
      (¬ v12 = 0 → CK d 211 [iv x2] m12 (fun m19 v19 =>
        ((¬ v19 = 0 → (((0 : Int) ≤ (rd m19 284 72) ∧ (rd m19 284 72) < 20) ∧ (∀ m36 : Mm, m36 = wt m19 334 (Int.toNat (rd m19 284 72)) x1 → (((0 : Int) ≤ (rd m36 284 72) ∧ (rd m36 284 72) < 20) ∧ (∀ m46 : Mm, m46 = wt m36 335 (Int.toNat (rd m36 284 72)) x2 → (((0 : Int) ≤ (rd m46 284 72) ∧ (rd m46 284 72) < 20) ∧ (∀ m56 : Mm, m56 = wt m46 336 (Int.toNat (rd m46 284 72)) (nz x3) → (∀ m64 : Mm, m64 = wt m56 284 72 (wr ((rd m56 284 72) + 1)) → Q m64 (wr ((rd m64 284 72) - 1)))))))))) ∧
        (v19 = 0 → R_25 m19)))))))) ∧
    (∀ (m_25 : Mm), R_25 m_25 →
    Q m_25 (-1)))
set_option maxRecDepth 20000 in
theorem br_277 {d : Nat} {m : Mm} {x1 : Int} {x2 : Int} {x3 : Int} {Q : Mm → Int → Prop} (r_x1 : rg x1) (r_x2 : rg x2) (r_x3 : rg x3) (H : P_277 d m x1 x2 x3 Q) : CK (d + 1) 277 [.ref 284, iv x1, iv x2, iv x3] m Q := by
  unfold P_277 at H
  refine CK_of rfl ?_
  show mm_W d mc_277 0 [some (.ref 284), some (iv x1), some (iv x2), some (iv x3)] [] (fm m) (XK Q)
  refine w_st (fun _ => rfl) ?_
  refine g_284_72 rfl ?_
  refine f_int 20 rfl rfl ?_
  obtain ⟨R_25, H, HJ_25⟩ := H
  have tl_25 : ∀ (m_25 : Mm), R_25 m_25 → mm_W d mc_277 25 [some (.ref 284), some (iv x1), some (iv x2), some (iv x3)] [] (fm m_25) (XK Q) := by
    intro m_25  hR
    have H := HJ_25 m_25  hR
    refine f_int (-1) rfl rfl ?_
    exact f_iret rfl (by unfold rg; decide) H
  refine b_eq rfl (rd_rg _ _ _) (by unfold rg; decide) (fun hq => ?_) (fun hq => ?_)
  · replace H := H.1 hq
    exact tl_25 m  H
  · replace H := H.2 hq
    refine w_st (fun _ => rfl) ?_
    refine f_int 1 rfl rfl ?_
    refine f_int 5 rfl rfl ?_
    refine k_SK (as := [iv x1, iv 1, iv 5]) rfl mg_277 rfl rfl rfl H (fun m12 v12 r_v12 H => ?_)
    refine z_eq rfl r_v12 (fun hq => ?_) (fun hq => ?_)
    · replace H := H.1 hq
      exact tl_25 m12  H
    · replace H := H.2 hq
      refine w_st (fun _ => rfl) ?_
      refine k_SK (as := [iv x2]) rfl mg_277 rfl rfl rfl H (fun m19 v19 r_v19 H => ?_)
      refine z_ne rfl r_v19 (fun hq => ?_) (fun hq => ?_)
      · replace H := H.1 hq
        refine w_st (fun _ => rfl) ?_
        refine g_284_73 rfl ?_
        refine w_st (fun _ => rfl) ?_
        refine g_284_72 rfl ?_
        refine w_st (fun _ => rfl) ?_
        obtain ⟨m36, e_m36⟩ : ∃ q : Mm, q = wt m19 334 (Int.toNat (rd m19 284 72)) x1 := ⟨_, rfl⟩
        refine f_st ir_334 rfl H.1 e_m36 ?_
        replace H := H.2 m36 e_m36
        refine w_st (fun _ => rfl) ?_
        refine g_284_74 rfl ?_
        refine w_st (fun _ => rfl) ?_
        refine g_284_72 rfl ?_
        refine w_st (fun _ => rfl) ?_
        obtain ⟨m46, e_m46⟩ : ∃ q : Mm, q = wt m36 335 (Int.toNat (rd m36 284 72)) x2 := ⟨_, rfl⟩
        refine f_st ir_335 rfl H.1 e_m46 ?_
        replace H := H.2 m46 e_m46
        refine w_st (fun _ => rfl) ?_
        refine g_284_75 rfl ?_
        refine w_st (fun _ => rfl) ?_
        refine g_284_72 rfl ?_
        refine w_st (fun _ => rfl) ?_
        obtain ⟨m56, e_m56⟩ : ∃ q : Mm, q = wt m46 336 (Int.toNat (rd m46 284 72)) (nz x3) := ⟨_, rfl⟩
        refine f_stz (n := 20) (by decide) (fun _ => rfl) (by decide) rfl H.1 e_m56 ?_
        replace H := H.2 m56 e_m56
        refine w_st (fun _ => rfl) ?_
        refine w_st (fun _ => rfl) ?_
        refine g_284_72 rfl ?_
        refine f_int 1 rfl rfl ?_
        refine f_add rfl ?_
        obtain ⟨m64, e_m64⟩ : ∃ q : Mm, q = wt m56 284 72 (wr ((rd m56 284 72) + 1)) := ⟨_, rfl⟩
        replace H := H m64 e_m64
        refine p_284_72 rfl e_m64 ?_
        refine w_st (fun _ => rfl) ?_
        refine g_284_72 rfl ?_
        refine f_int 1 rfl rfl ?_
        refine f_sub rfl ?_
        exact f_iret rfl (wr_rg _) H
      · replace H := H.2 hq
        exact tl_25 m19  H
/-- TippedCratesModel.forget()I -/
def P_278 (d : Nat) (m : Mm)  (Q : Mm → Int → Prop) : Prop :=
  (∀ z1_4 : Int, z1_4 = (rd m 284 72) → (∀ m7 : Mm, m7 = wt m 284 72 0 → Q m7 z1_4))
set_option maxRecDepth 20000 in
theorem br_278 {d : Nat} {m : Mm}  {Q : Mm → Int → Prop}  (H : P_278 d m  Q) : CK (d + 1) 278 [.ref 284] m Q := by
  unfold P_278 at H
  refine CK_of rfl ?_
  show mm_W d mc_278 0 [some (.ref 284), none] [] (fm m) (XK Q)
  refine w_st (fun _ => rfl) ?_
  refine g_284_72 rfl ?_
  obtain ⟨z1_4, e_z1_4⟩ : ∃ q : Int, q = (rd m 284 72) := ⟨_, rfl⟩
  have r_z1_4 : rg z1_4 := by rw [e_z1_4]; exact (rd_rg _ _ _)
  replace H := H z1_4 e_z1_4
  refine f_nm e_z1_4 ?_
  refine w_st (ls2 := [some (.ref 284), some (iv z1_4)]) (fun _ => rfl) ?_
  refine w_st (fun _ => rfl) ?_
  refine f_int 0 rfl rfl ?_
  obtain ⟨m7, e_m7⟩ : ∃ q : Mm, q = wt m 284 72 0 := ⟨_, rfl⟩
  replace H := H m7 e_m7
  refine p_284_72 rfl e_m7 ?_
  refine w_st (fun _ => rfl) ?_
  exact f_iret rfl r_z1_4 H
/-- TippedCratesModel.fours(I)I -/
def P_279 (d : Nat) (m : Mm) (x0 : Int) (Q : Mm → Int → Prop) : Prop :=
  Q m (slI 1 (wr (2 * x0)))
set_option maxRecDepth 20000 in
theorem br_279 {d : Nat} {m : Mm} {x0 : Int} {Q : Mm → Int → Prop} (r_x0 : rg x0) (H : P_279 d m x0 Q) : CK (d + 1) 279 [iv x0] m Q := by
  unfold P_279 at H
  refine CK_of rfl ?_
  show mm_W d mc_279 0 [some (iv x0)] [] (fm m) (XK Q)
  refine f_int 1 rfl rfl ?_
  refine f_int 2 rfl rfl ?_
  refine w_st (fun _ => rfl) ?_
  refine f_mul rfl ?_
  refine f_slI rfl ?_
  exact f_iret rfl (io_rg _ _ _) H
/-- TippedCratesModel.doesFit(IIII)Z -/
def P_280 (d : Nat) (m : Mm) (x1 : Int) (x2 : Int) (x3 : Int) (x4 : Int) (Q : Mm → Int → Prop) : Prop :=
  (((0 : Int) ≤ (wr (43 + x1)) ∧ (wr (43 + x1)) < 51) ∧ (∀ z5_12 : Int, z5_12 = (wr (24 * (rd m 323 (Int.toNat (wr (43 + x1)))))) → (∃ (I_17 : Int → Int → Mm → Prop) (mu_17 : Int → Int → Mm → Nat), I_17 z5_12 1 m ∧
    ∀ (x5_17 x6_17 : Int) (m_17 : Mm), rg x5_17 → rg x6_17 → I_17 x5_17 x6_17 m_17 →
    ((x4 < x6_17 → (∃ (I_78 : Int → Prop) (mu_78 : Int → Nat), I_78 0 ∧
          ∀ (x6_78 : Int) , rg x6_78 → I_78 x6_78 →
          ((x3 ≤ x6_78 → Q m_17 1) ∧
              (¬ x3 ≤ x6_78 → (((0 : Int) ≤ x6_78 ∧ x6_78 < 20) ∧ (∃ R_133 : Prop,
                ((x4 < (rd m_17 334 (Int.toNat x6_78)) → R_133) ∧
                (¬ x4 < (rd m_17 334 (Int.toNat x6_78)) → (((0 : Int) ≤ x6_78 ∧ x6_78 < 20) ∧ (((0 : Int) ≤ (rd m_17 334 (Int.toNat x6_78)) ∧ (rd m_17 334 (Int.toNat x6_78)) < 6) ∧ (((0 : Int) ≤ x6_78 ∧ x6_78 < 20) ∧ (∃ R_123 : Int → Prop,
                  ((¬ (rd m_17 337 (Int.toNat (rd m_17 334 (Int.toNat x6_78)))) = (rd m_17 335 (Int.toNat x6_78)) → R_123 0) ∧
                  ((rd m_17 337 (Int.toNat (rd m_17 334 (Int.toNat x6_78)))) = (rd m_17 335 (Int.toNat x6_78)) → R_123 1)) ∧
                  (∀ (s0_123 : Int) , rg s0_123 → R_123 s0_123 →
                  (((0 : Int) ≤ x6_78 ∧ x6_78 < 20) ∧ ((s0_123 = (rd m_17 336 (Int.toNat x6_78)) → (∀ z6_135 : Int, z6_135 = wr (x6_78 + 1) → (I_78 z6_135 ∧ mu_78 z6_135 < mu_78 x6_78))) ∧
                    (¬ s0_123 = (rd m_17 336 (Int.toNat x6_78)) → R_133)))))))))) ∧
                (R_133 →
                Q m_17 0))))))) ∧
        (¬ x4 < x6_17 → (((0 : Int) ≤ (wr ((wr (4 * x5_17)) + (anI (srI x2 (wr (2 * (wr (x4 - x6_17))))) 3))) ∧ (wr ((wr (4 * x5_17)) + (anI (srI x2 (wr (2 * (wr (x4 - x6_17))))) 3))) < 2400) ∧ (∀ z5_45 : Int, z5_45 = (rd m_17 325 (Int.toNat (wr ((wr (4 * x5_17)) + (anI (srI x2 (wr (2 * (wr (x4 - x6_17))))) 3))))) → ((0 ≤ z5_45 → CK d 248 [.ref 284, iv x1, iv z5_45, iv 1] m_17 (fun m65 v65 =>
            (((0 : Int) ≤ x6_17 ∧ x6_17 < 6) ∧ (∀ m68 : Mm, m68 = wt m65 337 (Int.toNat x6_17) v65 → (∀ z6_69 : Int, z6_69 = wr (x6_17 + 1) → (I_17 z5_45 z6_69 m68 ∧ mu_17 z5_45 z6_69 m68 < mu_17 x5_17 x6_17 m_17)))))) ∧
          (¬ 0 ≤ z5_45 → Q m_17 0)))))))))
set_option maxRecDepth 20000 in
theorem br_280 {d : Nat} {m : Mm} {x1 : Int} {x2 : Int} {x3 : Int} {x4 : Int} {Q : Mm → Int → Prop} (r_x1 : rg x1) (r_x2 : rg x2) (r_x3 : rg x3) (r_x4 : rg x4) (H : P_280 d m x1 x2 x3 x4 Q) : CK (d + 1) 280 [.ref 284, iv x1, iv x2, iv x3, iv x4] m Q := by
  unfold P_280 at H
  refine CK_of rfl ?_
  show mm_W d mc_280 0 [some (.ref 284), some (iv x1), some (iv x2), some (iv x3), some (iv x4), none, none] [] (fm m) (XK Q)
  refine f_int 24 rfl rfl ?_
  refine w_st (fun _ => rfl) ?_
  refine g_284_57 rfl ?_
  refine f_int 43 rfl rfl ?_
  refine w_st (fun _ => rfl) ?_
  refine f_add rfl ?_
  refine f_ld ir_323 rfl H.1 ?_
  replace H := H.2
  refine f_mul rfl ?_
  obtain ⟨z5_12, e_z5_12⟩ : ∃ q : Int, q = (wr (24 * (rd m 323 (Int.toNat (wr (43 + x1)))))) := ⟨_, rfl⟩
  have r_z5_12 : rg z5_12 := by rw [e_z5_12]; exact (wr_rg _)
  replace H := H z5_12 e_z5_12
  refine f_nm e_z5_12 ?_
  refine w_st (ls2 := [some (.ref 284), some (iv x1), some (iv x2), some (iv x3), some (iv x4), some (iv z5_12), none]) (fun _ => rfl) ?_
  refine f_int 1 rfl rfl ?_
  refine w_st (ls2 := [some (.ref 284), some (iv x1), some (iv x2), some (iv x3), some (iv x4), some (iv z5_12), some (iv 1)]) (fun _ => rfl) ?_
  obtain ⟨I_17, mu_17, H0_17, HB_17⟩ := H
  have lp_17 : ∀ (z : Nat) (x5_17 x6_17 : Int) (m_17 : Mm), mu_17 x5_17 x6_17 m_17 < z → rg x5_17 → rg x6_17 → I_17 x5_17 x6_17 m_17 → mm_W d mc_280 17 [some (.ref 284), some (iv x1), some (iv x2), some (iv x3), some (iv x4), some (iv x5_17), some (iv x6_17)] [] (fm m_17) (XK Q) := by
    intro z
    induction z with
    | zero => intro x5_17 x6_17 m_17 hz; exact absurd hz (Nat.not_lt_zero _)
    | succ z ih_17 =>
      intro x5_17 x6_17 m_17 hz_17 r_x5_17 r_x6_17 hI
      have H := HB_17 x5_17 x6_17 m_17 r_x5_17 r_x6_17 hI
      refine w_st (fun _ => rfl) ?_
      refine w_st (fun _ => rfl) ?_
      refine b_gt rfl r_x6_17 r_x4 (fun hq => ?_) (fun hq => ?_)
      · replace H := H.1 hq
        refine f_int 0 rfl rfl ?_
        refine w_st (ls2 := [some (.ref 284), some (iv x1), some (iv x2), some (iv x3), some (iv x4), some (iv x5_17), some (iv 0)]) (fun _ => rfl) ?_
        obtain ⟨I_78, mu_78, H0_78, HB_78⟩ := H
        have lp_78 : ∀ (z : Nat) (x6_78 : Int) , mu_78 x6_78 < z → rg x6_78 → I_78 x6_78 → mm_W d mc_280 78 [some (.ref 284), some (iv x1), some (iv x2), some (iv x3), some (iv x4), some (iv x5_17), some (iv x6_78)] [] (fm m_17) (XK Q) := by
          intro z
          induction z with
          | zero => intro x6_78 hz; exact absurd hz (Nat.not_lt_zero _)
          | succ z ih_78 =>
            intro x6_78 hz_78 r_x6_78 hI
            have H := HB_78 x6_78 r_x6_78 hI
            refine w_st (fun _ => rfl) ?_
            refine w_st (fun _ => rfl) ?_
            refine b_ge rfl r_x6_78 r_x3 (fun hq => ?_) (fun hq => ?_)
            · replace H := H.1 hq
              refine f_int 1 rfl rfl ?_
              exact f_zret rfl (by unfold rg; decide) (Or.inr rfl) H
            · replace H := H.2 hq
              refine w_st (fun _ => rfl) ?_
              refine g_284_73 rfl ?_
              refine w_st (fun _ => rfl) ?_
              refine f_ld ir_334 rfl H.1 ?_
              replace H := H.2
              refine w_st (fun _ => rfl) ?_
              obtain ⟨R_133, H, HJ_133⟩ := H
              have tl_133 : R_133 → mm_W d mc_280 133 [some (.ref 284), some (iv x1), some (iv x2), some (iv x3), some (iv x4), some (iv x5_17), some (iv x6_78)] [] (fm m_17) (XK Q) := by
                intro   hR
                have H := HJ_133   hR
                refine f_int 0 rfl rfl ?_
                exact f_zret rfl (by unfold rg; decide) (Or.inl rfl) H
              refine b_gt rfl (rd_rg _ _ _) r_x4 (fun hq => ?_) (fun hq => ?_)
              · replace H := H.1 hq
                exact tl_133   H
              · replace H := H.2 hq
                refine w_st (fun _ => rfl) ?_
                refine g_284_76 rfl ?_
                refine w_st (fun _ => rfl) ?_
                refine g_284_73 rfl ?_
                refine w_st (fun _ => rfl) ?_
                refine f_ld ir_334 rfl H.1 ?_
                replace H := H.2
                refine f_ld ir_337 rfl H.1 ?_
                replace H := H.2
                refine w_st (fun _ => rfl) ?_
                refine g_284_74 rfl ?_
                refine w_st (fun _ => rfl) ?_
                refine f_ld ir_335 rfl H.1 ?_
                replace H := H.2
                obtain ⟨R_123, H, HJ_123⟩ := H
                have tl_123 : ∀ (s0_123 : Int) , rg s0_123 → R_123 s0_123 → mm_W d mc_280 123 [some (.ref 284), some (iv x1), some (iv x2), some (iv x3), some (iv x4), some (iv x5_17), some (iv x6_78)] [iv s0_123] (fm m_17) (XK Q) := by
                  intro s0_123 r_s0_123 hR
                  have H := HJ_123 s0_123 r_s0_123 hR
                  refine w_st (fun _ => rfl) ?_
                  refine g_284_75 rfl ?_
                  refine w_st (fun _ => rfl) ?_
                  refine f_ldz (n := 20) (by decide) rfl (by decide) rfl H.1 ?_
                  replace H := H.2
                  refine b_eq rfl r_s0_123 (rd_rg _ _ _) (fun hq => ?_) (fun hq => ?_)
                  · replace H := H.1 hq
                    obtain ⟨z6_135, e_z6_135⟩ : ∃ q : Int, q = wr (x6_78 + 1) := ⟨_, rfl⟩
                    have r_z6_135 : rg z6_135 := by rw [e_z6_135]; exact wr_rg _
                    replace H := H z6_135 e_z6_135
                    refine f_iinc (ls2 := [some (.ref 284), some (iv x1), some (iv x2), some (iv x3), some (iv x4), some (iv x5_17), some (iv z6_135)]) 1 rfl rfl rfl e_z6_135 rfl ?_
                    refine w_st (fun _ => rfl) ?_
                    exact ih_78 z6_135 (Nat.lt_of_lt_of_le H.2 (Nat.le_of_lt_succ hz_78)) r_z6_135 H.1
                  · replace H := H.2 hq
                    exact tl_133   H
                refine b_ne rfl (rd_rg _ _ _) (rd_rg _ _ _) (fun hq => ?_) (fun hq => ?_)
                · replace H := H.1 hq
                  refine f_int 0 rfl rfl ?_
                  exact tl_123 0 (by unfold rg; decide) H
                · replace H := H.2 hq
                  refine f_int 1 rfl rfl ?_
                  refine w_st (fun _ => rfl) ?_
                  exact tl_123 1 (by unfold rg; decide) H
        exact lp_78 _ 0 (Nat.lt_succ_self _) (by unfold rg; decide) H0_78
      · replace H := H.2 hq
        refine w_st (fun _ => rfl) ?_
        refine g_284_62 rfl ?_
        refine f_int 4 rfl rfl ?_
        refine w_st (fun _ => rfl) ?_
        refine f_mul rfl ?_
        refine w_st (fun _ => rfl) ?_
        refine f_int 2 rfl rfl ?_
        refine w_st (fun _ => rfl) ?_
        refine w_st (fun _ => rfl) ?_
        refine f_sub rfl ?_
        refine f_mul rfl ?_
        refine f_srI rfl ?_
        refine f_int 3 rfl rfl ?_
        refine f_anI rfl ?_
        refine f_add rfl ?_
        refine f_ld ir_325 rfl H.1 ?_
        replace H := H.2
        obtain ⟨z5_45, e_z5_45⟩ : ∃ q : Int, q = (rd m_17 325 (Int.toNat (wr ((wr (4 * x5_17)) + (anI (srI x2 (wr (2 * (wr (x4 - x6_17))))) 3))))) := ⟨_, rfl⟩
        have r_z5_45 : rg z5_45 := by rw [e_z5_45]; exact (rd_rg _ _ _)
        replace H := H z5_45 e_z5_45
        refine f_nm e_z5_45 ?_
        refine w_st (ls2 := [some (.ref 284), some (iv x1), some (iv x2), some (iv x3), some (iv x4), some (iv z5_45), some (iv x6_17)]) (fun _ => rfl) ?_
        refine w_st (fun _ => rfl) ?_
        refine z_ge rfl r_z5_45 (fun hq => ?_) (fun hq => ?_)
        · replace H := H.1 hq
          refine w_st (fun _ => rfl) ?_
          refine g_284_76 rfl ?_
          refine w_st (fun _ => rfl) ?_
          refine w_st (fun _ => rfl) ?_
          refine w_st (fun _ => rfl) ?_
          refine w_st (fun _ => rfl) ?_
          refine f_int 1 rfl rfl ?_
          refine k_VK (as := [iv x1, iv z5_45, iv 1]) rfl mg_280 rfl rfl (by decide) rfl rfl H (fun m65 v65 r_v65 H => ?_)
          obtain ⟨m68, e_m68⟩ : ∃ q : Mm, q = wt m65 337 (Int.toNat x6_17) v65 := ⟨_, rfl⟩
          refine f_st ir_337 rfl H.1 e_m68 ?_
          replace H := H.2 m68 e_m68
          obtain ⟨z6_69, e_z6_69⟩ : ∃ q : Int, q = wr (x6_17 + 1) := ⟨_, rfl⟩
          have r_z6_69 : rg z6_69 := by rw [e_z6_69]; exact wr_rg _
          replace H := H z6_69 e_z6_69
          refine f_iinc (ls2 := [some (.ref 284), some (iv x1), some (iv x2), some (iv x3), some (iv x4), some (iv z5_45), some (iv z6_69)]) 1 rfl rfl rfl e_z6_69 rfl ?_
          refine w_st (fun _ => rfl) ?_
          exact ih_17 z5_45 z6_69 m68 (Nat.lt_of_lt_of_le H.2 (Nat.le_of_lt_succ hz_17)) r_z5_45 r_z6_69 H.1
        · replace H := H.2 hq
          refine f_int 0 rfl rfl ?_
          exact f_zret rfl (by unfold rg; decide) (Or.inl rfl) H
  exact lp_17 _ z5_12 1 m (Nat.lt_succ_self _) r_z5_12 (by unfold rg; decide) H0_17
/-- TippedCratesModel.isAsked(III)Z -/
def P_281 (d : Nat) (m : Mm) (x1 : Int) (x2 : Int) (x3 : Int) (Q : Mm → Int → Prop) : Prop :=
  CK d 206 [iv x1, iv 0, iv (rd m 284 72)] m (fun m6 v6 =>
    (∃ R_34 : Int → Mm → Prop,
    (∃ R_33 : Mm → Prop,
    ((v6 = 0 → R_33 m6) ∧
    (¬ v6 = 0 → CK d 210 [.ref 284, iv x2] m6 (fun m14 v14 =>
      ((v14 = 0 → R_33 m14) ∧
      (¬ v14 = 0 → CK d 206 [iv x3, iv 1, iv 5] m14 (fun m23 v23 =>
        ((v23 = 0 → R_33 m23) ∧
        (¬ v23 = 0 → R_34 1 m23)))))))) ∧
    (∀ (m_33 : Mm), R_33 m_33 →
    R_34 0 m_33)) ∧
    (∀ (s0_34 : Int) (m_34 : Mm), rg s0_34 → R_34 s0_34 m_34 →
    ((s0_34 = 0 ∨ s0_34 = 1) ∧ Q m_34 s0_34))))
set_option maxRecDepth 20000 in
theorem br_281 {d : Nat} {m : Mm} {x1 : Int} {x2 : Int} {x3 : Int} {Q : Mm → Int → Prop} (r_x1 : rg x1) (r_x2 : rg x2) (r_x3 : rg x3) (H : P_281 d m x1 x2 x3 Q) : CK (d + 1) 281 [.ref 284, iv x1, iv x2, iv x3] m Q := by
  unfold P_281 at H
  refine CK_of rfl ?_
  show mm_W d mc_281 0 [some (.ref 284), some (iv x1), some (iv x2), some (iv x3)] [] (fm m) (XK Q)
  refine w_st (fun _ => rfl) ?_
  refine f_int 0 rfl rfl ?_
  refine w_st (fun _ => rfl) ?_
  refine g_284_72 rfl ?_
  refine k_SK (as := [iv x1, iv 0, iv (rd m 284 72)]) rfl mg_281 rfl rfl rfl H (fun m6 v6 r_v6 H => ?_)
  obtain ⟨R_34, H, HJ_34⟩ := H
  have tl_34 : ∀ (s0_34 : Int) (m_34 : Mm), rg s0_34 → R_34 s0_34 m_34 → mm_W d mc_281 34 [some (.ref 284), some (iv x1), some (iv x2), some (iv x3)] [iv s0_34] (fm m_34) (XK Q) := by
    intro s0_34 m_34 r_s0_34 hR
    have H := HJ_34 s0_34 m_34 r_s0_34 hR
    exact f_zret rfl r_s0_34 H.1 H.2
  obtain ⟨R_33, H, HJ_33⟩ := H
  have tl_33 : ∀ (m_33 : Mm), R_33 m_33 → mm_W d mc_281 33 [some (.ref 284), some (iv x1), some (iv x2), some (iv x3)] [] (fm m_33) (XK Q) := by
    intro m_33  hR
    have H := HJ_33 m_33  hR
    refine f_int 0 rfl rfl ?_
    exact tl_34 0 m_33 (by unfold rg; decide) H
  refine z_eq rfl r_v6 (fun hq => ?_) (fun hq => ?_)
  · replace H := H.1 hq
    exact tl_33 m6  H
  · replace H := H.2 hq
    refine w_st (fun _ => rfl) ?_
    refine w_st (fun _ => rfl) ?_
    refine k_VK (as := [iv x2]) rfl mg_281 rfl rfl (by decide) rfl rfl H (fun m14 v14 r_v14 H => ?_)
    refine z_eq rfl r_v14 (fun hq => ?_) (fun hq => ?_)
    · replace H := H.1 hq
      exact tl_33 m14  H
    · replace H := H.2 hq
      refine w_st (fun _ => rfl) ?_
      refine f_int 1 rfl rfl ?_
      refine f_int 5 rfl rfl ?_
      refine k_SK (as := [iv x3, iv 1, iv 5]) rfl mg_281 rfl rfl rfl H (fun m23 v23 r_v23 H => ?_)
      refine z_eq rfl r_v23 (fun hq => ?_) (fun hq => ?_)
      · replace H := H.1 hq
        exact tl_33 m23  H
      · replace H := H.2 hq
        refine f_int 1 rfl rfl ?_
        refine w_st (fun _ => rfl) ?_
        exact tl_34 1 m23 (by unfold rg; decide) H
/-- TippedCratesModel.rows(IIII)I -/
def P_282 (d : Nat) (m : Mm) (x1 : Int) (x2 : Int) (x3 : Int) (x4 : Int) (Q : Mm → Int → Prop) : Prop :=
  CK d 281 [.ref 284, iv x1, iv x2, iv x3] m (fun m4 v4 =>
    (∃ R_20 : Mm → Prop,
    ((v4 = 0 → R_20 m4) ∧
    (¬ v4 = 0 → CK d 206 [iv x4, iv 0, iv 1] m4 (fun m14 v14 =>
      ((¬ v14 = 0 → CV d 246 [.ref 284, iv x2] m14 (fun m24 =>
        CK d 279 [iv x3] m24 (fun m35 v35 =>
        (∀ z7_40 : Int, z7_40 = (wr (v35 - 1)) → (∃ (I_42 : Int → Int → Int → Mm → Prop) (mu_42 : Int → Int → Int → Mm → Nat), I_42 0 (-2) z7_40 m35 ∧
        ∀ (x5_42 x6_42 x7_42 : Int) (m_42 : Mm), rg x5_42 → rg x6_42 → rg x7_42 → I_42 x5_42 x6_42 x7_42 m_42 →
        ((x7_42 < 0 → (∃ R_87 : Int → Prop,
              ((¬ x4 = 0 → R_87 x6_42) ∧
              (x4 = 0 → R_87 x5_42)) ∧
              (∀ (s0_87 : Int) , rg s0_87 → R_87 s0_87 →
              Q m_42 s0_87))) ∧
            (¬ x7_42 < 0 → CK d 280 [.ref 284, iv x2, iv x7_42, iv x1, iv x3] m_42 (fun m53 v53 =>
              (∃ R_69 : Int → Int → Prop,
              ((¬ v53 = 0 → (∀ z5_62 : Int, z5_62 = wr (x5_42 + 1) → R_69 z5_62 x7_42)) ∧
              (v53 = 0 → R_69 x5_42 x6_42)) ∧
              (∀ (y5_69 y6_69 : Int) , rg y5_69 → rg y6_69 → R_69 y5_69 y6_69 →
              (∀ z7_69 : Int, z7_69 = wr (x7_42 + (-1)) → (I_42 y5_69 y6_69 z7_69 m53 ∧ mu_42 y5_69 y6_69 z7_69 m53 < mu_42 x5_42 x6_42 x7_42 m_42)))))))))))) ∧
      (v14 = 0 → R_20 m14))))) ∧
    (∀ (m_20 : Mm), R_20 m_20 →
    Q m_20 (-1))))
set_option maxRecDepth 20000 in
theorem br_282 {d : Nat} {m : Mm} {x1 : Int} {x2 : Int} {x3 : Int} {x4 : Int} {Q : Mm → Int → Prop} (r_x1 : rg x1) (r_x2 : rg x2) (r_x3 : rg x3) (r_x4 : rg x4) (H : P_282 d m x1 x2 x3 x4 Q) : CK (d + 1) 282 [.ref 284, iv x1, iv x2, iv x3, iv x4] m Q := by
  unfold P_282 at H
  refine CK_of rfl ?_
  show mm_W d mc_282 0 [some (.ref 284), some (iv x1), some (iv x2), some (iv x3), some (iv x4), none, none, none] [] (fm m) (XK Q)
  refine w_st (fun _ => rfl) ?_
  refine w_st (fun _ => rfl) ?_
  refine w_st (fun _ => rfl) ?_
  refine w_st (fun _ => rfl) ?_
  refine k_VK (as := [iv x1, iv x2, iv x3]) rfl mg_282 rfl rfl (by decide) rfl rfl H (fun m4 v4 r_v4 H => ?_)
  obtain ⟨R_20, H, HJ_20⟩ := H
  have tl_20 : ∀ (m_20 : Mm), R_20 m_20 → mm_W d mc_282 20 [some (.ref 284), some (iv x1), some (iv x2), some (iv x3), some (iv x4), none, none, none] [] (fm m_20) (XK Q) := by
    intro m_20  hR
    have H := HJ_20 m_20  hR
    refine f_int (-1) rfl rfl ?_
    exact f_iret rfl (by unfold rg; decide) H
  refine z_eq rfl r_v4 (fun hq => ?_) (fun hq => ?_)
  · replace H := H.1 hq
    exact tl_20 m4  H
  · replace H := H.2 hq
    refine w_st (fun _ => rfl) ?_
    refine f_int 0 rfl rfl ?_
    refine f_int 1 rfl rfl ?_
    refine k_SK (as := [iv x4, iv 0, iv 1]) rfl mg_282 rfl rfl rfl H (fun m14 v14 r_v14 H => ?_)
    refine z_ne rfl r_v14 (fun hq => ?_) (fun hq => ?_)
    · replace H := H.1 hq
      refine w_st (fun _ => rfl) ?_
      refine w_st (fun _ => rfl) ?_
      refine k_VV (as := [iv x2]) rfl mg_282 rfl rfl (by decide) rfl rfl H (fun m24 H => ?_)
      refine f_int 0 rfl rfl ?_
      refine w_st (ls2 := [some (.ref 284), some (iv x1), some (iv x2), some (iv x3), some (iv x4), some (iv 0), none, none]) (fun _ => rfl) ?_
      refine f_int (-2) rfl rfl ?_
      refine w_st (ls2 := [some (.ref 284), some (iv x1), some (iv x2), some (iv x3), some (iv x4), some (iv 0), some (iv (-2)), none]) (fun _ => rfl) ?_
      refine w_st (fun _ => rfl) ?_
      refine k_SK (as := [iv x3]) rfl mg_282 rfl rfl rfl H (fun m35 v35 r_v35 H => ?_)
      refine f_int 1 rfl rfl ?_
      refine f_sub rfl ?_
      obtain ⟨z7_40, e_z7_40⟩ : ∃ q : Int, q = (wr (v35 - 1)) := ⟨_, rfl⟩
      have r_z7_40 : rg z7_40 := by rw [e_z7_40]; exact (wr_rg _)
      replace H := H z7_40 e_z7_40
      refine f_nm e_z7_40 ?_
      refine w_st (ls2 := [some (.ref 284), some (iv x1), some (iv x2), some (iv x3), some (iv x4), some (iv 0), some (iv (-2)), some (iv z7_40)]) (fun _ => rfl) ?_
      obtain ⟨I_42, mu_42, H0_42, HB_42⟩ := H
      have lp_42 : ∀ (z : Nat) (x5_42 x6_42 x7_42 : Int) (m_42 : Mm), mu_42 x5_42 x6_42 x7_42 m_42 < z → rg x5_42 → rg x6_42 → rg x7_42 → I_42 x5_42 x6_42 x7_42 m_42 → mm_W d mc_282 42 [some (.ref 284), some (iv x1), some (iv x2), some (iv x3), some (iv x4), some (iv x5_42), some (iv x6_42), some (iv x7_42)] [] (fm m_42) (XK Q) := by
        intro z
        induction z with
        | zero => intro x5_42 x6_42 x7_42 m_42 hz; exact absurd hz (Nat.not_lt_zero _)
        | succ z ih_42 =>
          intro x5_42 x6_42 x7_42 m_42 hz_42 r_x5_42 r_x6_42 r_x7_42 hI
          have H := HB_42 x5_42 x6_42 x7_42 m_42 r_x5_42 r_x6_42 r_x7_42 hI
          refine w_st (fun _ => rfl) ?_
          refine z_lt rfl r_x7_42 (fun hq => ?_) (fun hq => ?_)
          · replace H := H.1 hq
            refine w_st (fun _ => rfl) ?_
            obtain ⟨R_87, H, HJ_87⟩ := H
            have tl_87 : ∀ (s0_87 : Int) , rg s0_87 → R_87 s0_87 → mm_W d mc_282 87 [some (.ref 284), some (iv x1), some (iv x2), some (iv x3), some (iv x4), some (iv x5_42), some (iv x6_42), some (iv x7_42)] [iv s0_87] (fm m_42) (XK Q) := by
              intro s0_87 r_s0_87 hR
              have H := HJ_87 s0_87 r_s0_87 hR
              exact f_iret rfl r_s0_87 H
            refine z_ne rfl r_x4 (fun hq => ?_) (fun hq => ?_)
            · replace H := H.1 hq
              refine w_st (fun _ => rfl) ?_
              exact tl_87 x6_42 r_x6_42 H
            · replace H := H.2 hq
              refine w_st (fun _ => rfl) ?_
              refine w_st (fun _ => rfl) ?_
              exact tl_87 x5_42 r_x5_42 H
          · replace H := H.2 hq
            refine w_st (fun _ => rfl) ?_
            refine w_st (fun _ => rfl) ?_
            refine w_st (fun _ => rfl) ?_
            refine w_st (fun _ => rfl) ?_
            refine w_st (fun _ => rfl) ?_
            refine k_VK (as := [iv x2, iv x7_42, iv x1, iv x3]) rfl mg_282 rfl rfl (by decide) rfl rfl H (fun m53 v53 r_v53 H => ?_)
            obtain ⟨R_69, H, HJ_69⟩ := H
            have tl_69 : ∀ (y5_69 y6_69 : Int) , rg y5_69 → rg y6_69 → R_69 y5_69 y6_69 → mm_W d mc_282 69 [some (.ref 284), some (iv x1), some (iv x2), some (iv x3), some (iv x4), some (iv y5_69), some (iv y6_69), some (iv x7_42)] [] (fm m53) (XK Q) := by
              intro y5_69 y6_69 r_y5_69 r_y6_69 hR
              have H := HJ_69 y5_69 y6_69 r_y5_69 r_y6_69 hR
              obtain ⟨z7_69, e_z7_69⟩ : ∃ q : Int, q = wr (x7_42 + (-1)) := ⟨_, rfl⟩
              have r_z7_69 : rg z7_69 := by rw [e_z7_69]; exact wr_rg _
              replace H := H z7_69 e_z7_69
              refine f_iinc (ls2 := [some (.ref 284), some (iv x1), some (iv x2), some (iv x3), some (iv x4), some (iv y5_69), some (iv y6_69), some (iv z7_69)]) (-1) rfl rfl rfl e_z7_69 rfl ?_
              refine w_st (fun _ => rfl) ?_
              exact ih_42 y5_69 y6_69 z7_69 m53 (Nat.lt_of_lt_of_le H.2 (Nat.le_of_lt_succ hz_42)) r_y5_69 r_y6_69 r_z7_69 H.1
            refine z_ne rfl r_v53 (fun hq => ?_) (fun hq => ?_)
            · replace H := H.1 hq
              obtain ⟨z5_62, e_z5_62⟩ : ∃ q : Int, q = wr (x5_42 + 1) := ⟨_, rfl⟩
              have r_z5_62 : rg z5_62 := by rw [e_z5_62]; exact wr_rg _
              replace H := H z5_62 e_z5_62
              refine f_iinc (ls2 := [some (.ref 284), some (iv x1), some (iv x2), some (iv x3), some (iv x4), some (iv z5_62), some (iv x6_42), some (iv x7_42)]) 1 rfl rfl rfl e_z5_62 rfl ?_
              refine w_st (fun _ => rfl) ?_
              refine w_st (ls2 := [some (.ref 284), some (iv x1), some (iv x2), some (iv x3), some (iv x4), some (iv z5_62), some (iv x7_42), some (iv x7_42)]) (fun _ => rfl) ?_
              exact tl_69 z5_62 x7_42 r_z5_62 r_x7_42 H
            · replace H := H.2 hq
              refine w_st (fun _ => rfl) ?_
              exact tl_69 x5_42 x6_42 r_x5_42 r_x6_42 H
      exact lp_42 _ 0 (-2) z7_40 m35 (Nat.lt_succ_self _) (by unfold rg; decide) (by unfold rg; decide) r_z7_40 H0_42
    · replace H := H.2 hq
      exact tl_20 m14  H
/-- TippedCratesModel.listen(III)I -/
def P_283 (d : Nat) (m : Mm) (x1 : Int) (x2 : Int) (x3 : Int) (Q : Mm → Int → Prop) : Prop :=
  CK d 281 [.ref 284, iv x1, iv x2, iv x3] m (fun m4 v4 =>
    ((¬ v4 = 0 → CV d 246 [.ref 284, iv x2] m4 (fun m14 =>
      (∃ (I_20 : Int → Mm → Prop) (mu_20 : Int → Mm → Nat), I_20 0 m14 ∧
      ∀ (x4_20 : Int) (m_20 : Mm), rg x4_20 → I_20 x4_20 m_20 →
      ((60 ≤ x4_20 → (∃ (I_47 : Int → Int → Mm → Prop) (mu_47 : Int → Int → Mm → Nat), I_47 0 0 m_20 ∧
            ∀ (x4_47 x5_47 : Int) (m_47 : Mm), rg x4_47 → rg x5_47 → I_47 x4_47 x5_47 m_47 →
            CK d 279 [iv x3] m_47 (fun m50 v50 =>
                ((v50 ≤ x5_47 → (∃ (I_127 : Int → Int → Int → Prop) (mu_127 : Int → Int → Int → Nat), I_127 (-2) 0 1 ∧
                  ∀ (x5_127 x6_127 x7_127 : Int) , rg x5_127 → rg x6_127 → rg x7_127 → I_127 x5_127 x6_127 x7_127 →
                  (∃ R_219 : Prop,
                      ((x3 < x7_127 → R_219) ∧
                      (¬ x3 < x7_127 → ((x4_47 = 0 → R_219) ∧
                        (¬ x4_47 = 0 → (∃ (I_144 : Int → Int → Prop) (mu_144 : Int → Int → Nat), I_144 0 0 ∧
                          ∀ (x8_144 x9_144 : Int) , rg x8_144 → rg x9_144 → I_144 x8_144 x9_144 →
                          ((10 ≤ x9_144 → (∃ R_213 : Int → Int → Prop,
                                (∃ R_205 : Prop,
                                ((x5_127 < 0 → R_205) ∧
                                (¬ x5_127 < 0 → ((x8_144 < x6_127 → R_205) ∧
                                  (¬ x8_144 < x6_127 → R_213 x5_127 x6_127)))) ∧
                                (R_205 →
                                R_213 x7_127 x8_144)) ∧
                                (∀ (y5_213 y6_213 : Int) , rg y5_213 → rg y6_213 → R_213 y5_213 y6_213 →
                                (∀ z7_213 : Int, z7_213 = wr (x7_127 + 1) → (I_127 y5_213 y6_213 z7_213 ∧ mu_127 y5_213 y6_213 z7_213 < mu_127 x5_127 x6_127 x7_127))))) ∧
                              (¬ 10 ≤ x9_144 → (((0 : Int) ≤ (wr ((wr (10 * x7_127)) + x9_144)) ∧ (wr ((wr (10 * x7_127)) + x9_144)) < 60) ∧ (∃ R_184 : Int → Prop,
                                (((rd m50 338 (Int.toNat (wr ((wr (10 * x7_127)) + x9_144)))) ≤ x8_144 → R_184 x8_144) ∧
                                (¬ (rd m50 338 (Int.toNat (wr ((wr (10 * x7_127)) + x9_144)))) ≤ x8_144 → (((0 : Int) ≤ (wr ((wr (10 * x7_127)) + x9_144)) ∧ (wr ((wr (10 * x7_127)) + x9_144)) < 60) ∧ (∀ z8_182 : Int, z8_182 = (rd m50 338 (Int.toNat (wr ((wr (10 * x7_127)) + x9_144)))) → R_184 z8_182)))) ∧
                                (∀ (y8_184 : Int) , rg y8_184 → R_184 y8_184 →
                                (∀ z9_184 : Int, z9_184 = wr (x9_144 + 1) → (I_144 y8_184 z9_184 ∧ mu_144 y8_184 z9_184 < mu_144 x8_144 x9_144)))))))))))) ∧
                      (R_219 →
                      Q m50 x5_127)))) ∧
                (¬ v50 ≤ x5_47 → CK d 280 [.ref 284, iv x2, iv x5_47, iv x1, iv x3] m50 (fun m62 v62 =>
                  (∃ R_111 : Int → Mm → Prop,
                  ((¬ v62 = 0 → (∃ (I_77 : Int → Mm → Prop) (mu_77 : Int → Mm → Nat), I_77 1 m62 ∧
                    ∀ (x6_77 : Int) (m_77 : Mm), rg x6_77 → I_77 x6_77 m_77 →
                    ((x3 < x6_77 → R_111 1 m_77) ∧
                        (¬ x3 < x6_77 → (((0 : Int) ≤ x6_77 ∧ x6_77 < 6) ∧ (((0 : Int) ≤ (wr ((wr (10 * x6_77)) + (rd m_77 337 (Int.toNat x6_77)))) ∧ (wr ((wr (10 * x6_77)) + (rd m_77 337 (Int.toNat x6_77)))) < 60) ∧ (((0 : Int) ≤ (wr ((wr (10 * x6_77)) + (rd m_77 337 (Int.toNat x6_77)))) ∧ (wr ((wr (10 * x6_77)) + (rd m_77 337 (Int.toNat x6_77)))) < 60) ∧ (∀ m104 : Mm, m104 = wt m_77 338 (Int.toNat (wr ((wr (10 * x6_77)) + (rd m_77 337 (Int.toNat x6_77))))) (wr ((rd m_77 338 (Int.toNat (wr ((wr (10 * x6_77)) + (rd m_77 337 (Int.toNat x6_77)))))) + 1)) → (∀ z6_105 : Int, z6_105 = wr (x6_77 + 1) → (I_77 z6_105 m104 ∧ mu_77 z6_105 m104 < mu_77 x6_77 m_77)))))))))) ∧
                  (v62 = 0 → R_111 x4_47 m62)) ∧
                  (∀ (y4_111 : Int) (m_111 : Mm), rg y4_111 → R_111 y4_111 m_111 →
                  (∀ z5_111 : Int, z5_111 = wr (x5_47 + 1) → (I_47 y4_111 z5_111 m_111 ∧ mu_47 y4_111 z5_111 m_111 < mu_47 x4_47 x5_47 m_47)))))))))) ∧
          (¬ 60 ≤ x4_20 → (((0 : Int) ≤ x4_20 ∧ x4_20 < 60) ∧ (∀ m34 : Mm, m34 = wt m_20 338 (Int.toNat x4_20) 0 → (∀ z4_35 : Int, z4_35 = wr (x4_20 + 1) → (I_20 z4_35 m34 ∧ mu_20 z4_35 m34 < mu_20 x4_20 m_20))))))))) ∧
    (v4 = 0 → Q m4 (-1))))
set_option maxRecDepth 20000 in
theorem br_283 {d : Nat} {m : Mm} {x1 : Int} {x2 : Int} {x3 : Int} {Q : Mm → Int → Prop} (r_x1 : rg x1) (r_x2 : rg x2) (r_x3 : rg x3) (H : P_283 d m x1 x2 x3 Q) : CK (d + 1) 283 [.ref 284, iv x1, iv x2, iv x3] m Q := by
  unfold P_283 at H
  refine CK_of rfl ?_
  show mm_W d mc_283 0 [some (.ref 284), some (iv x1), some (iv x2), some (iv x3), none, none, none, none, none, none] [] (fm m) (XK Q)
  refine w_st (fun _ => rfl) ?_
  refine w_st (fun _ => rfl) ?_
  refine w_st (fun _ => rfl) ?_
  refine w_st (fun _ => rfl) ?_
  refine k_VK (as := [iv x1, iv x2, iv x3]) rfl mg_283 rfl rfl (by decide) rfl rfl H (fun m4 v4 r_v4 H => ?_)
  refine z_ne rfl r_v4 (fun hq => ?_) (fun hq => ?_)
  · replace H := H.1 hq
    refine w_st (fun _ => rfl) ?_
    refine w_st (fun _ => rfl) ?_
    refine k_VV (as := [iv x2]) rfl mg_283 rfl rfl (by decide) rfl rfl H (fun m14 H => ?_)
    refine f_int 0 rfl rfl ?_
    refine w_st (ls2 := [some (.ref 284), some (iv x1), some (iv x2), some (iv x3), some (iv 0), none, none, none, none, none]) (fun _ => rfl) ?_
    obtain ⟨I_20, mu_20, H0_20, HB_20⟩ := H
    have lp_20 : ∀ (z : Nat) (x4_20 : Int) (m_20 : Mm), mu_20 x4_20 m_20 < z → rg x4_20 → I_20 x4_20 m_20 → mm_W d mc_283 20 [some (.ref 284), some (iv x1), some (iv x2), some (iv x3), some (iv x4_20), none, none, none, none, none] [] (fm m_20) (XK Q) := by
      intro z
      induction z with
      | zero => intro x4_20 m_20 hz; exact absurd hz (Nat.not_lt_zero _)
      | succ z ih_20 =>
        intro x4_20 m_20 hz_20 r_x4_20 hI
        have H := HB_20 x4_20 m_20 r_x4_20 hI
        refine w_st (fun _ => rfl) ?_
        refine f_int 60 rfl rfl ?_
        refine b_ge rfl r_x4_20 (by unfold rg; decide) (fun hq => ?_) (fun hq => ?_)
        · replace H := H.1 hq
          refine f_int 0 rfl rfl ?_
          refine w_st (ls2 := [some (.ref 284), some (iv x1), some (iv x2), some (iv x3), some (iv 0), none, none, none, none, none]) (fun _ => rfl) ?_
          refine f_int 0 rfl rfl ?_
          refine w_st (ls2 := [some (.ref 284), some (iv x1), some (iv x2), some (iv x3), some (iv 0), some (iv 0), none, none, none, none]) (fun _ => rfl) ?_
          obtain ⟨I_47, mu_47, H0_47, HB_47⟩ := H
          have lp_47 : ∀ (z : Nat) (x4_47 x5_47 : Int) (m_47 : Mm) (g6_47 : Option Value), mu_47 x4_47 x5_47 m_47 < z → rg x4_47 → rg x5_47 → I_47 x4_47 x5_47 m_47 → mm_W d mc_283 47 [some (.ref 284), some (iv x1), some (iv x2), some (iv x3), some (iv x4_47), some (iv x5_47), g6_47, none, none, none] [] (fm m_47) (XK Q) := by
            intro z
            induction z with
            | zero => intro x4_47 x5_47 m_47 g6_47 hz; exact absurd hz (Nat.not_lt_zero _)
            | succ z ih_47 =>
              intro x4_47 x5_47 m_47 g6_47 hz_47 r_x4_47 r_x5_47 hI
              have H := HB_47 x4_47 x5_47 m_47 r_x4_47 r_x5_47 hI
              refine w_st (fun _ => rfl) ?_
              refine w_st (fun _ => rfl) ?_
              refine k_SK (as := [iv x3]) rfl mg_283 rfl rfl rfl H (fun m50 v50 r_v50 H => ?_)
              refine b_ge rfl r_x5_47 r_v50 (fun hq => ?_) (fun hq => ?_)
              · replace H := H.1 hq
                refine f_int (-2) rfl rfl ?_
                refine w_st (ls2 := [some (.ref 284), some (iv x1), some (iv x2), some (iv x3), some (iv x4_47), some (iv (-2)), g6_47, none, none, none]) (fun _ => rfl) ?_
                refine f_int 0 rfl rfl ?_
                refine w_st (ls2 := [some (.ref 284), some (iv x1), some (iv x2), some (iv x3), some (iv x4_47), some (iv (-2)), some (iv 0), none, none, none]) (fun _ => rfl) ?_
                refine f_int 1 rfl rfl ?_
                refine w_st (ls2 := [some (.ref 284), some (iv x1), some (iv x2), some (iv x3), some (iv x4_47), some (iv (-2)), some (iv 0), some (iv 1), none, none]) (fun _ => rfl) ?_
                obtain ⟨I_127, mu_127, H0_127, HB_127⟩ := H
                have lp_127 : ∀ (z : Nat) (x5_127 x6_127 x7_127 : Int)  (g8_127 g9_127 : Option Value), mu_127 x5_127 x6_127 x7_127 < z → rg x5_127 → rg x6_127 → rg x7_127 → I_127 x5_127 x6_127 x7_127 → mm_W d mc_283 127 [some (.ref 284), some (iv x1), some (iv x2), some (iv x3), some (iv x4_47), some (iv x5_127), some (iv x6_127), some (iv x7_127), g8_127, g9_127] [] (fm m50) (XK Q) := by
                  intro z
                  induction z with
                  | zero => intro x5_127 x6_127 x7_127 g8_127 g9_127 hz; exact absurd hz (Nat.not_lt_zero _)
                  | succ z ih_127 =>
                    intro x5_127 x6_127 x7_127 g8_127 g9_127 hz_127 r_x5_127 r_x6_127 r_x7_127 hI
                    have H := HB_127 x5_127 x6_127 x7_127 r_x5_127 r_x6_127 r_x7_127 hI
                    refine w_st (fun _ => rfl) ?_
                    refine w_st (fun _ => rfl) ?_
                    obtain ⟨R_219, H, HJ_219⟩ := H
                    have tl_219 : R_219 → mm_W d mc_283 219 [some (.ref 284), some (iv x1), some (iv x2), some (iv x3), some (iv x4_47), some (iv x5_127), some (iv x6_127), some (iv x7_127), g8_127, g9_127] [] (fm m50) (XK Q) := by
                      intro   hR
                      have H := HJ_219   hR
                      refine w_st (fun _ => rfl) ?_
                      exact f_iret rfl r_x5_127 H
                    refine b_gt rfl r_x7_127 r_x3 (fun hq => ?_) (fun hq => ?_)
                    · replace H := H.1 hq
                      exact tl_219   H
                    · replace H := H.2 hq
                      refine w_st (fun _ => rfl) ?_
                      refine z_eq rfl r_x4_47 (fun hq => ?_) (fun hq => ?_)
                      · replace H := H.1 hq
                        exact tl_219   H
                      · replace H := H.2 hq
                        refine f_int 0 rfl rfl ?_
                        refine w_st (ls2 := [some (.ref 284), some (iv x1), some (iv x2), some (iv x3), some (iv x4_47), some (iv x5_127), some (iv x6_127), some (iv x7_127), some (iv 0), g9_127]) (fun _ => rfl) ?_
                        refine f_int 0 rfl rfl ?_
                        refine w_st (ls2 := [some (.ref 284), some (iv x1), some (iv x2), some (iv x3), some (iv x4_47), some (iv x5_127), some (iv x6_127), some (iv x7_127), some (iv 0), some (iv 0)]) (fun _ => rfl) ?_
                        obtain ⟨I_144, mu_144, H0_144, HB_144⟩ := H
                        have lp_144 : ∀ (z : Nat) (x8_144 x9_144 : Int) , mu_144 x8_144 x9_144 < z → rg x8_144 → rg x9_144 → I_144 x8_144 x9_144 → mm_W d mc_283 144 [some (.ref 284), some (iv x1), some (iv x2), some (iv x3), some (iv x4_47), some (iv x5_127), some (iv x6_127), some (iv x7_127), some (iv x8_144), some (iv x9_144)] [] (fm m50) (XK Q) := by
                          intro z
                          induction z with
                          | zero => intro x8_144 x9_144 hz; exact absurd hz (Nat.not_lt_zero _)
                          | succ z ih_144 =>
                            intro x8_144 x9_144 hz_144 r_x8_144 r_x9_144 hI
                            have H := HB_144 x8_144 x9_144 r_x8_144 r_x9_144 hI
                            refine w_st (fun _ => rfl) ?_
                            refine f_int 10 rfl rfl ?_
                            refine b_ge rfl r_x9_144 (by unfold rg; decide) (fun hq => ?_) (fun hq => ?_)
                            · replace H := H.1 hq
                              refine w_st (fun _ => rfl) ?_
                              obtain ⟨R_213, H, HJ_213⟩ := H
                              have tl_213 : ∀ (y5_213 y6_213 : Int) , rg y5_213 → rg y6_213 → R_213 y5_213 y6_213 → mm_W d mc_283 213 [some (.ref 284), some (iv x1), some (iv x2), some (iv x3), some (iv x4_47), some (iv y5_213), some (iv y6_213), some (iv x7_127), some (iv x8_144), some (iv x9_144)] [] (fm m50) (XK Q) := by
                                intro y5_213 y6_213 r_y5_213 r_y6_213 hR
                                have H := HJ_213 y5_213 y6_213 r_y5_213 r_y6_213 hR
                                obtain ⟨z7_213, e_z7_213⟩ : ∃ q : Int, q = wr (x7_127 + 1) := ⟨_, rfl⟩
                                have r_z7_213 : rg z7_213 := by rw [e_z7_213]; exact wr_rg _
                                replace H := H z7_213 e_z7_213
                                refine f_iinc (ls2 := [some (.ref 284), some (iv x1), some (iv x2), some (iv x3), some (iv x4_47), some (iv y5_213), some (iv y6_213), some (iv z7_213), some (iv x8_144), some (iv x9_144)]) 1 rfl rfl rfl e_z7_213 rfl ?_
                                refine w_st (fun _ => rfl) ?_
                                exact ih_127 y5_213 y6_213 z7_213 (some (iv x8_144)) (some (iv x9_144)) (Nat.lt_of_lt_of_le H.2 (Nat.le_of_lt_succ hz_127)) r_y5_213 r_y6_213 r_z7_213 H.1
                              obtain ⟨R_205, H, HJ_205⟩ := H
                              have tl_205 : R_205 → mm_W d mc_283 205 [some (.ref 284), some (iv x1), some (iv x2), some (iv x3), some (iv x4_47), some (iv x5_127), some (iv x6_127), some (iv x7_127), some (iv x8_144), some (iv x9_144)] [] (fm m50) (XK Q) := by
                                intro   hR
                                have H := HJ_205   hR
                                refine w_st (fun _ => rfl) ?_
                                refine w_st (ls2 := [some (.ref 284), some (iv x1), some (iv x2), some (iv x3), some (iv x4_47), some (iv x7_127), some (iv x6_127), some (iv x7_127), some (iv x8_144), some (iv x9_144)]) (fun _ => rfl) ?_
                                refine w_st (fun _ => rfl) ?_
                                refine w_st (ls2 := [some (.ref 284), some (iv x1), some (iv x2), some (iv x3), some (iv x4_47), some (iv x7_127), some (iv x8_144), some (iv x7_127), some (iv x8_144), some (iv x9_144)]) (fun _ => rfl) ?_
                                exact tl_213 x7_127 x8_144 r_x7_127 r_x8_144 H
                              refine z_lt rfl r_x5_127 (fun hq => ?_) (fun hq => ?_)
                              · replace H := H.1 hq
                                exact tl_205   H
                              · replace H := H.2 hq
                                refine w_st (fun _ => rfl) ?_
                                refine w_st (fun _ => rfl) ?_
                                refine b_lt rfl r_x8_144 r_x6_127 (fun hq => ?_) (fun hq => ?_)
                                · replace H := H.1 hq
                                  exact tl_205   H
                                · replace H := H.2 hq
                                  refine w_st (fun _ => rfl) ?_
                                  exact tl_213 x5_127 x6_127 r_x5_127 r_x6_127 H
                            · replace H := H.2 hq
                              refine w_st (fun _ => rfl) ?_
                              refine g_284_77 rfl ?_
                              refine f_int 10 rfl rfl ?_
                              refine w_st (fun _ => rfl) ?_
                              refine f_mul rfl ?_
                              refine w_st (fun _ => rfl) ?_
                              refine f_add rfl ?_
                              refine f_ld ir_338 rfl H.1 ?_
                              replace H := H.2
                              refine w_st (fun _ => rfl) ?_
                              obtain ⟨R_184, H, HJ_184⟩ := H
                              have tl_184 : ∀ (y8_184 : Int) , rg y8_184 → R_184 y8_184 → mm_W d mc_283 184 [some (.ref 284), some (iv x1), some (iv x2), some (iv x3), some (iv x4_47), some (iv x5_127), some (iv x6_127), some (iv x7_127), some (iv y8_184), some (iv x9_144)] [] (fm m50) (XK Q) := by
                                intro y8_184 r_y8_184 hR
                                have H := HJ_184 y8_184 r_y8_184 hR
                                obtain ⟨z9_184, e_z9_184⟩ : ∃ q : Int, q = wr (x9_144 + 1) := ⟨_, rfl⟩
                                have r_z9_184 : rg z9_184 := by rw [e_z9_184]; exact wr_rg _
                                replace H := H z9_184 e_z9_184
                                refine f_iinc (ls2 := [some (.ref 284), some (iv x1), some (iv x2), some (iv x3), some (iv x4_47), some (iv x5_127), some (iv x6_127), some (iv x7_127), some (iv y8_184), some (iv z9_184)]) 1 rfl rfl rfl e_z9_184 rfl ?_
                                refine w_st (fun _ => rfl) ?_
                                exact ih_144 y8_184 z9_184 (Nat.lt_of_lt_of_le H.2 (Nat.le_of_lt_succ hz_144)) r_y8_184 r_z9_184 H.1
                              refine b_le rfl (rd_rg _ _ _) r_x8_144 (fun hq => ?_) (fun hq => ?_)
                              · replace H := H.1 hq
                                exact tl_184 x8_144 r_x8_144 H
                              · replace H := H.2 hq
                                refine w_st (fun _ => rfl) ?_
                                refine g_284_77 rfl ?_
                                refine f_int 10 rfl rfl ?_
                                refine w_st (fun _ => rfl) ?_
                                refine f_mul rfl ?_
                                refine w_st (fun _ => rfl) ?_
                                refine f_add rfl ?_
                                refine f_ld ir_338 rfl H.1 ?_
                                replace H := H.2
                                obtain ⟨z8_182, e_z8_182⟩ : ∃ q : Int, q = (rd m50 338 (Int.toNat (wr ((wr (10 * x7_127)) + x9_144)))) := ⟨_, rfl⟩
                                have r_z8_182 : rg z8_182 := by rw [e_z8_182]; exact (rd_rg _ _ _)
                                replace H := H z8_182 e_z8_182
                                refine f_nm e_z8_182 ?_
                                refine w_st (ls2 := [some (.ref 284), some (iv x1), some (iv x2), some (iv x3), some (iv x4_47), some (iv x5_127), some (iv x6_127), some (iv x7_127), some (iv z8_182), some (iv x9_144)]) (fun _ => rfl) ?_
                                exact tl_184 z8_182 r_z8_182 H
                        exact lp_144 _ 0 0 (Nat.lt_succ_self _) (by unfold rg; decide) (by unfold rg; decide) H0_144
                exact lp_127 _ (-2) 0 1 none none (Nat.lt_succ_self _) (by unfold rg; decide) (by unfold rg; decide) (by unfold rg; decide) H0_127
              · replace H := H.2 hq
                refine w_st (fun _ => rfl) ?_
                refine w_st (fun _ => rfl) ?_
                refine w_st (fun _ => rfl) ?_
                refine w_st (fun _ => rfl) ?_
                refine w_st (fun _ => rfl) ?_
                refine k_VK (as := [iv x2, iv x5_47, iv x1, iv x3]) rfl mg_283 rfl rfl (by decide) rfl rfl H (fun m62 v62 r_v62 H => ?_)
                obtain ⟨R_111, H, HJ_111⟩ := H
                have tl_111 : ∀ (y4_111 : Int) (m_111 : Mm) (g6_111 : Option Value), rg y4_111 → R_111 y4_111 m_111 → mm_W d mc_283 111 [some (.ref 284), some (iv x1), some (iv x2), some (iv x3), some (iv y4_111), some (iv x5_47), g6_111, none, none, none] [] (fm m_111) (XK Q) := by
                  intro y4_111 m_111 g6_111 r_y4_111 hR
                  have H := HJ_111 y4_111 m_111 r_y4_111 hR
                  obtain ⟨z5_111, e_z5_111⟩ : ∃ q : Int, q = wr (x5_47 + 1) := ⟨_, rfl⟩
                  have r_z5_111 : rg z5_111 := by rw [e_z5_111]; exact wr_rg _
                  replace H := H z5_111 e_z5_111
                  refine f_iinc (ls2 := [some (.ref 284), some (iv x1), some (iv x2), some (iv x3), some (iv y4_111), some (iv z5_111), g6_111, none, none, none]) 1 rfl rfl rfl e_z5_111 rfl ?_
                  refine w_st (fun _ => rfl) ?_
                  exact ih_47 y4_111 z5_111 m_111 g6_111 (Nat.lt_of_lt_of_le H.2 (Nat.le_of_lt_succ hz_47)) r_y4_111 r_z5_111 H.1
                refine z_ne rfl r_v62 (fun hq => ?_) (fun hq => ?_)
                · replace H := H.1 hq
                  refine f_int 1 rfl rfl ?_
                  refine w_st (ls2 := [some (.ref 284), some (iv x1), some (iv x2), some (iv x3), some (iv 1), some (iv x5_47), g6_47, none, none, none]) (fun _ => rfl) ?_
                  refine f_int 1 rfl rfl ?_
                  refine w_st (ls2 := [some (.ref 284), some (iv x1), some (iv x2), some (iv x3), some (iv 1), some (iv x5_47), some (iv 1), none, none, none]) (fun _ => rfl) ?_
                  obtain ⟨I_77, mu_77, H0_77, HB_77⟩ := H
                  have lp_77 : ∀ (z : Nat) (x6_77 : Int) (m_77 : Mm), mu_77 x6_77 m_77 < z → rg x6_77 → I_77 x6_77 m_77 → mm_W d mc_283 77 [some (.ref 284), some (iv x1), some (iv x2), some (iv x3), some (iv 1), some (iv x5_47), some (iv x6_77), none, none, none] [] (fm m_77) (XK Q) := by
                    intro z
                    induction z with
                    | zero => intro x6_77 m_77 hz; exact absurd hz (Nat.not_lt_zero _)
                    | succ z ih_77 =>
                      intro x6_77 m_77 hz_77 r_x6_77 hI
                      have H := HB_77 x6_77 m_77 r_x6_77 hI
                      refine w_st (fun _ => rfl) ?_
                      refine w_st (fun _ => rfl) ?_
                      refine b_gt rfl r_x6_77 r_x3 (fun hq => ?_) (fun hq => ?_)
                      · replace H := H.1 hq
                        exact tl_111 1 m_77 (some (iv x6_77)) (by unfold rg; decide) H
                      · replace H := H.2 hq
                        refine w_st (fun _ => rfl) ?_
                        refine g_284_77 rfl ?_
                        refine f_int 10 rfl rfl ?_
                        refine w_st (fun _ => rfl) ?_
                        refine f_mul rfl ?_
                        refine w_st (fun _ => rfl) ?_
                        refine g_284_76 rfl ?_
                        refine w_st (fun _ => rfl) ?_
                        refine f_ld ir_337 rfl H.1 ?_
                        replace H := H.2
                        refine f_add rfl ?_
                        refine w_st (fun _ => rfl) ?_
                        refine f_ld ir_338 rfl H.1 ?_
                        replace H := H.2
                        refine f_int 1 rfl rfl ?_
                        refine f_add rfl ?_
                        obtain ⟨m104, e_m104⟩ : ∃ q : Mm, q = wt m_77 338 (Int.toNat (wr ((wr (10 * x6_77)) + (rd m_77 337 (Int.toNat x6_77))))) (wr ((rd m_77 338 (Int.toNat (wr ((wr (10 * x6_77)) + (rd m_77 337 (Int.toNat x6_77)))))) + 1)) := ⟨_, rfl⟩
                        refine f_st ir_338 rfl H.1 e_m104 ?_
                        replace H := H.2 m104 e_m104
                        obtain ⟨z6_105, e_z6_105⟩ : ∃ q : Int, q = wr (x6_77 + 1) := ⟨_, rfl⟩
                        have r_z6_105 : rg z6_105 := by rw [e_z6_105]; exact wr_rg _
                        replace H := H z6_105 e_z6_105
                        refine f_iinc (ls2 := [some (.ref 284), some (iv x1), some (iv x2), some (iv x3), some (iv 1), some (iv x5_47), some (iv z6_105), none, none, none]) 1 rfl rfl rfl e_z6_105 rfl ?_
                        refine w_st (fun _ => rfl) ?_
                        exact ih_77 z6_105 m104 (Nat.lt_of_lt_of_le H.2 (Nat.le_of_lt_succ hz_77)) r_z6_105 H.1
                  exact lp_77 _ 1 m62 (Nat.lt_succ_self _) (by unfold rg; decide) H0_77
                · replace H := H.2 hq
                  refine w_st (fun _ => rfl) ?_
                  exact tl_111 x4_47 m62 g6_47 r_x4_47 H
          exact lp_47 _ 0 0 m_20 none (Nat.lt_succ_self _) (by unfold rg; decide) (by unfold rg; decide) H0_47
        · replace H := H.2 hq
          refine w_st (fun _ => rfl) ?_
          refine g_284_77 rfl ?_
          refine w_st (fun _ => rfl) ?_
          refine f_int 0 rfl rfl ?_
          obtain ⟨m34, e_m34⟩ : ∃ q : Mm, q = wt m_20 338 (Int.toNat x4_20) 0 := ⟨_, rfl⟩
          refine f_st ir_338 rfl H.1 e_m34 ?_
          replace H := H.2 m34 e_m34
          obtain ⟨z4_35, e_z4_35⟩ : ∃ q : Int, q = wr (x4_20 + 1) := ⟨_, rfl⟩
          have r_z4_35 : rg z4_35 := by rw [e_z4_35]; exact wr_rg _
          replace H := H z4_35 e_z4_35
          refine f_iinc (ls2 := [some (.ref 284), some (iv x1), some (iv x2), some (iv x3), some (iv z4_35), none, none, none, none, none]) 1 rfl rfl rfl e_z4_35 rfl ?_
          refine w_st (fun _ => rfl) ?_
          exact ih_20 z4_35 m34 (Nat.lt_of_lt_of_le H.2 (Nat.le_of_lt_succ hz_20)) r_z4_35 H.1
    exact lp_20 _ 0 m14 (Nat.lt_succ_self _) (by unfold rg; decide) H0_20
  · replace H := H.2 hq
    refine f_int (-1) rfl rfl ?_
    exact f_iret rfl (by unfold rg; decide) H
/-- TippedCratesModel.hold(I)Z -/
def P_284 (d : Nat) (m : Mm) (x1 : Int) (Q : Mm → Int → Prop) : Prop :=
  CK d 206 [iv x1, iv 0, iv 2] m (fun m3 v3 =>
    ((¬ v3 = 0 → (((0 : Int) ≤ x1 ∧ x1 < 3) ∧ (∀ m17 : Mm, m17 = wt m3 339 (Int.toNat x1) (nz 1) → (∃ (I_20 : Int → Mm → Prop) (mu_20 : Int → Mm → Nat), I_20 0 m17 ∧
      ∀ (x2_20 : Int) (m_20 : Mm), rg x2_20 → I_20 x2_20 m_20 →
      ((51 ≤ x2_20 → Q m_20 1) ∧
          (¬ 51 ≤ x2_20 → (((0 : Int) ≤ x2_20 ∧ x2_20 < 51) ∧ (((0 : Int) ≤ (wr ((wr (51 * x1)) + x2_20)) ∧ (wr ((wr (51 * x1)) + x2_20)) < 153) ∧ (∀ m42 : Mm, m42 = wt m_20 340 (Int.toNat (wr ((wr (51 * x1)) + x2_20))) (rd m_20 322 (Int.toNat x2_20)) → (∀ z2_43 : Int, z2_43 = wr (x2_20 + 1) → (I_20 z2_43 m42 ∧ mu_20 z2_43 m42 < mu_20 x2_20 m_20))))))))))) ∧
    (v3 = 0 → Q m3 0)))
set_option maxRecDepth 20000 in
theorem br_284 {d : Nat} {m : Mm} {x1 : Int} {Q : Mm → Int → Prop} (r_x1 : rg x1) (H : P_284 d m x1 Q) : CK (d + 1) 284 [.ref 284, iv x1] m Q := by
  unfold P_284 at H
  refine CK_of rfl ?_
  show mm_W d mc_284 0 [some (.ref 284), some (iv x1), none] [] (fm m) (XK Q)
  refine w_st (fun _ => rfl) ?_
  refine f_int 0 rfl rfl ?_
  refine f_int 2 rfl rfl ?_
  refine k_SK (as := [iv x1, iv 0, iv 2]) rfl mg_284 rfl rfl rfl H (fun m3 v3 r_v3 H => ?_)
  refine z_ne rfl r_v3 (fun hq => ?_) (fun hq => ?_)
  · replace H := H.1 hq
    refine w_st (fun _ => rfl) ?_
    refine g_284_78 rfl ?_
    refine w_st (fun _ => rfl) ?_
    refine f_int 1 rfl rfl ?_
    obtain ⟨m17, e_m17⟩ : ∃ q : Mm, q = wt m3 339 (Int.toNat x1) (nz 1) := ⟨_, rfl⟩
    refine f_stz (n := 3) (by decide) (fun _ => rfl) (by decide) rfl H.1 e_m17 ?_
    replace H := H.2 m17 e_m17
    refine f_int 0 rfl rfl ?_
    refine w_st (ls2 := [some (.ref 284), some (iv x1), some (iv 0)]) (fun _ => rfl) ?_
    obtain ⟨I_20, mu_20, H0_20, HB_20⟩ := H
    have lp_20 : ∀ (z : Nat) (x2_20 : Int) (m_20 : Mm), mu_20 x2_20 m_20 < z → rg x2_20 → I_20 x2_20 m_20 → mm_W d mc_284 20 [some (.ref 284), some (iv x1), some (iv x2_20)] [] (fm m_20) (XK Q) := by
      intro z
      induction z with
      | zero => intro x2_20 m_20 hz; exact absurd hz (Nat.not_lt_zero _)
      | succ z ih_20 =>
        intro x2_20 m_20 hz_20 r_x2_20 hI
        have H := HB_20 x2_20 m_20 r_x2_20 hI
        refine w_st (fun _ => rfl) ?_
        refine f_int 51 rfl rfl ?_
        refine b_ge rfl r_x2_20 (by unfold rg; decide) (fun hq => ?_) (fun hq => ?_)
        · replace H := H.1 hq
          refine f_int 1 rfl rfl ?_
          exact f_zret rfl (by unfold rg; decide) (Or.inr rfl) H
        · replace H := H.2 hq
          refine w_st (fun _ => rfl) ?_
          refine g_284_79 rfl ?_
          refine f_int 51 rfl rfl ?_
          refine w_st (fun _ => rfl) ?_
          refine f_mul rfl ?_
          refine w_st (fun _ => rfl) ?_
          refine f_add rfl ?_
          refine w_st (fun _ => rfl) ?_
          refine g_284_56 rfl ?_
          refine w_st (fun _ => rfl) ?_
          refine f_ld ir_322 rfl H.1 ?_
          replace H := H.2
          obtain ⟨m42, e_m42⟩ : ∃ q : Mm, q = wt m_20 340 (Int.toNat (wr ((wr (51 * x1)) + x2_20))) (rd m_20 322 (Int.toNat x2_20)) := ⟨_, rfl⟩
          refine f_st ir_340 rfl H.1 e_m42 ?_
          replace H := H.2 m42 e_m42
          obtain ⟨z2_43, e_z2_43⟩ : ∃ q : Int, q = wr (x2_20 + 1) := ⟨_, rfl⟩
          have r_z2_43 : rg z2_43 := by rw [e_z2_43]; exact wr_rg _
          replace H := H z2_43 e_z2_43
          refine f_iinc (ls2 := [some (.ref 284), some (iv x1), some (iv z2_43)]) 1 rfl rfl rfl e_z2_43 rfl ?_
          refine w_st (fun _ => rfl) ?_
          exact ih_20 z2_43 m42 (Nat.lt_of_lt_of_le H.2 (Nat.le_of_lt_succ hz_20)) r_z2_43 H.1
    exact lp_20 _ 0 m17 (Nat.lt_succ_self _) (by unfold rg; decide) H0_20
  · replace H := H.2 hq
    refine f_int 0 rfl rfl ?_
    exact f_zret rfl (by unfold rg; decide) (Or.inl rfl) H
/-- TippedCratesModel.restore(I)Z -/
def P_285 (d : Nat) (m : Mm) (x1 : Int) (Q : Mm → Int → Prop) : Prop :=
  CK d 206 [iv x1, iv 0, iv 2] m (fun m3 v3 =>
    (∃ R_18 : Prop,
    ((v3 = 0 → R_18) ∧
    (¬ v3 = 0 → (((0 : Int) ≤ x1 ∧ x1 < 3) ∧ ((¬ (rd m3 339 (Int.toNat x1)) = 0 → (∃ (I_22 : Int → Mm → Prop) (mu_22 : Int → Mm → Nat), I_22 0 m3 ∧
        ∀ (x2_22 : Int) (m_22 : Mm), rg x2_22 → I_22 x2_22 m_22 →
        ((51 ≤ x2_22 → (∀ m53 : Mm, m53 = wt m_22 284 60 0 → Q m53 1)) ∧
            (¬ 51 ≤ x2_22 → (((0 : Int) ≤ (wr ((wr (51 * x1)) + x2_22)) ∧ (wr ((wr (51 * x1)) + x2_22)) < 153) ∧ (((0 : Int) ≤ x2_22 ∧ x2_22 < 51) ∧ (∀ m44 : Mm, m44 = wt m_22 322 (Int.toNat x2_22) (rd m_22 340 (Int.toNat (wr ((wr (51 * x1)) + x2_22)))) → (∀ z2_45 : Int, z2_45 = wr (x2_22 + 1) → (I_22 z2_45 m44 ∧ mu_22 z2_45 m44 < mu_22 x2_22 m_22))))))))) ∧
      ((rd m3 339 (Int.toNat x1)) = 0 → R_18))))) ∧
    (R_18 →
    Q m3 0)))
set_option maxRecDepth 20000 in
theorem br_285 {d : Nat} {m : Mm} {x1 : Int} {Q : Mm → Int → Prop} (r_x1 : rg x1) (H : P_285 d m x1 Q) : CK (d + 1) 285 [.ref 284, iv x1] m Q := by
  unfold P_285 at H
  refine CK_of rfl ?_
  show mm_W d mc_285 0 [some (.ref 284), some (iv x1), none] [] (fm m) (XK Q)
  refine w_st (fun _ => rfl) ?_
  refine f_int 0 rfl rfl ?_
  refine f_int 2 rfl rfl ?_
  refine k_SK (as := [iv x1, iv 0, iv 2]) rfl mg_285 rfl rfl rfl H (fun m3 v3 r_v3 H => ?_)
  obtain ⟨R_18, H, HJ_18⟩ := H
  have tl_18 : R_18 → mm_W d mc_285 18 [some (.ref 284), some (iv x1), none] [] (fm m3) (XK Q) := by
    intro   hR
    have H := HJ_18   hR
    refine f_int 0 rfl rfl ?_
    exact f_zret rfl (by unfold rg; decide) (Or.inl rfl) H
  refine z_eq rfl r_v3 (fun hq => ?_) (fun hq => ?_)
  · replace H := H.1 hq
    exact tl_18   H
  · replace H := H.2 hq
    refine w_st (fun _ => rfl) ?_
    refine g_284_78 rfl ?_
    refine w_st (fun _ => rfl) ?_
    refine f_ldz (n := 3) (by decide) rfl (by decide) rfl H.1 ?_
    replace H := H.2
    refine z_ne rfl (rd_rg _ _ _) (fun hq => ?_) (fun hq => ?_)
    · replace H := H.1 hq
      refine f_int 0 rfl rfl ?_
      refine w_st (ls2 := [some (.ref 284), some (iv x1), some (iv 0)]) (fun _ => rfl) ?_
      obtain ⟨I_22, mu_22, H0_22, HB_22⟩ := H
      have lp_22 : ∀ (z : Nat) (x2_22 : Int) (m_22 : Mm), mu_22 x2_22 m_22 < z → rg x2_22 → I_22 x2_22 m_22 → mm_W d mc_285 22 [some (.ref 284), some (iv x1), some (iv x2_22)] [] (fm m_22) (XK Q) := by
        intro z
        induction z with
        | zero => intro x2_22 m_22 hz; exact absurd hz (Nat.not_lt_zero _)
        | succ z ih_22 =>
          intro x2_22 m_22 hz_22 r_x2_22 hI
          have H := HB_22 x2_22 m_22 r_x2_22 hI
          refine w_st (fun _ => rfl) ?_
          refine f_int 51 rfl rfl ?_
          refine b_ge rfl r_x2_22 (by unfold rg; decide) (fun hq => ?_) (fun hq => ?_)
          · replace H := H.1 hq
            refine w_st (fun _ => rfl) ?_
            refine f_int 0 rfl rfl ?_
            obtain ⟨m53, e_m53⟩ : ∃ q : Mm, q = wt m_22 284 60 0 := ⟨_, rfl⟩
            replace H := H m53 e_m53
            refine p_284_60 rfl e_m53 ?_
            refine f_int 1 rfl rfl ?_
            exact f_zret rfl (by unfold rg; decide) (Or.inr rfl) H
          · replace H := H.2 hq
            refine w_st (fun _ => rfl) ?_
            refine g_284_56 rfl ?_
            refine w_st (fun _ => rfl) ?_
            refine w_st (fun _ => rfl) ?_
            refine g_284_79 rfl ?_
            refine f_int 51 rfl rfl ?_
            refine w_st (fun _ => rfl) ?_
            refine f_mul rfl ?_
            refine w_st (fun _ => rfl) ?_
            refine f_add rfl ?_
            refine f_ld ir_340 rfl H.1 ?_
            replace H := H.2
            obtain ⟨m44, e_m44⟩ : ∃ q : Mm, q = wt m_22 322 (Int.toNat x2_22) (rd m_22 340 (Int.toNat (wr ((wr (51 * x1)) + x2_22)))) := ⟨_, rfl⟩
            refine f_st ir_322 rfl H.1 e_m44 ?_
            replace H := H.2 m44 e_m44
            obtain ⟨z2_45, e_z2_45⟩ : ∃ q : Int, q = wr (x2_22 + 1) := ⟨_, rfl⟩
            have r_z2_45 : rg z2_45 := by rw [e_z2_45]; exact wr_rg _
            replace H := H z2_45 e_z2_45
            refine f_iinc (ls2 := [some (.ref 284), some (iv x1), some (iv z2_45)]) 1 rfl rfl rfl e_z2_45 rfl ?_
            refine w_st (fun _ => rfl) ?_
            exact ih_22 z2_45 m44 (Nat.lt_of_lt_of_le H.2 (Nat.le_of_lt_succ hz_22)) r_z2_45 H.1
      exact lp_22 _ 0 m3 (Nat.lt_succ_self _) (by unfold rg; decide) H0_22
    · replace H := H.2 hq
      exact tl_18   H
/-- TippedCratesModel.isStuck(I)Z -/
def P_286 (d : Nat) (m : Mm) (x1 : Int) (Q : Mm → Int → Prop) : Prop :=
  CK d 224 [.ref 284, iv x1, iv 0] m (fun m3 v3 =>
    (∃ R_41 : Int → Mm → Prop,
    (∃ R_40 : Mm → Prop,
    ((¬ v3 = 0 → R_40 m3) ∧
    (v3 = 0 → CK d 224 [.ref 284, iv x1, iv 1] m3 (fun m12 v12 =>
      ((¬ v12 = 0 → R_40 m12) ∧
      (v12 = 0 → CK d 224 [.ref 284, iv x1, iv 2] m12 (fun m21 v21 =>
        ((¬ v21 = 0 → R_40 m21) ∧
        (v21 = 0 → CK d 224 [.ref 284, iv x1, iv 3] m21 (fun m30 v30 =>
          ((¬ v30 = 0 → R_40 m30) ∧
          (v30 = 0 → R_41 1 m30))))))))))) ∧
    (∀ (m_40 : Mm), R_40 m_40 →
    R_41 0 m_40)) ∧
    (∀ (s0_41 : Int) (m_41 : Mm), rg s0_41 → R_41 s0_41 m_41 →
    ((s0_41 = 0 ∨ s0_41 = 1) ∧ Q m_41 s0_41))))
set_option maxRecDepth 20000 in
theorem br_286 {d : Nat} {m : Mm} {x1 : Int} {Q : Mm → Int → Prop} (r_x1 : rg x1) (H : P_286 d m x1 Q) : CK (d + 1) 286 [.ref 284, iv x1] m Q := by
  unfold P_286 at H
  refine CK_of rfl ?_
  show mm_W d mc_286 0 [some (.ref 284), some (iv x1)] [] (fm m) (XK Q)
  refine w_st (fun _ => rfl) ?_
  refine w_st (fun _ => rfl) ?_
  refine f_int 0 rfl rfl ?_
  refine k_VK (as := [iv x1, iv 0]) rfl mg_286 rfl rfl (by decide) rfl rfl H (fun m3 v3 r_v3 H => ?_)
  obtain ⟨R_41, H, HJ_41⟩ := H
  have tl_41 : ∀ (s0_41 : Int) (m_41 : Mm), rg s0_41 → R_41 s0_41 m_41 → mm_W d mc_286 41 [some (.ref 284), some (iv x1)] [iv s0_41] (fm m_41) (XK Q) := by
    intro s0_41 m_41 r_s0_41 hR
    have H := HJ_41 s0_41 m_41 r_s0_41 hR
    exact f_zret rfl r_s0_41 H.1 H.2
  obtain ⟨R_40, H, HJ_40⟩ := H
  have tl_40 : ∀ (m_40 : Mm), R_40 m_40 → mm_W d mc_286 40 [some (.ref 284), some (iv x1)] [] (fm m_40) (XK Q) := by
    intro m_40  hR
    have H := HJ_40 m_40  hR
    refine f_int 0 rfl rfl ?_
    exact tl_41 0 m_40 (by unfold rg; decide) H
  refine z_ne rfl r_v3 (fun hq => ?_) (fun hq => ?_)
  · replace H := H.1 hq
    exact tl_40 m3  H
  · replace H := H.2 hq
    refine w_st (fun _ => rfl) ?_
    refine w_st (fun _ => rfl) ?_
    refine f_int 1 rfl rfl ?_
    refine k_VK (as := [iv x1, iv 1]) rfl mg_286 rfl rfl (by decide) rfl rfl H (fun m12 v12 r_v12 H => ?_)
    refine z_ne rfl r_v12 (fun hq => ?_) (fun hq => ?_)
    · replace H := H.1 hq
      exact tl_40 m12  H
    · replace H := H.2 hq
      refine w_st (fun _ => rfl) ?_
      refine w_st (fun _ => rfl) ?_
      refine f_int 2 rfl rfl ?_
      refine k_VK (as := [iv x1, iv 2]) rfl mg_286 rfl rfl (by decide) rfl rfl H (fun m21 v21 r_v21 H => ?_)
      refine z_ne rfl r_v21 (fun hq => ?_) (fun hq => ?_)
      · replace H := H.1 hq
        exact tl_40 m21  H
      · replace H := H.2 hq
        refine w_st (fun _ => rfl) ?_
        refine w_st (fun _ => rfl) ?_
        refine f_int 3 rfl rfl ?_
        refine k_VK (as := [iv x1, iv 3]) rfl mg_286 rfl rfl (by decide) rfl rfl H (fun m30 v30 r_v30 H => ?_)
        refine z_ne rfl r_v30 (fun hq => ?_) (fun hq => ?_)
        · replace H := H.1 hq
          exact tl_40 m30  H
        · replace H := H.2 hq
          refine f_int 1 rfl rfl ?_
          refine w_st (fun _ => rfl) ?_
          exact tl_41 1 m30 (by unfold rg; decide) H
/-- TippedCratesModel.count(I)I -/
def P_287 (d : Nat) (m : Mm) (x1 : Int) (Q : Mm → Int → Prop) : Prop :=
  CV d 216 [.ref 284] m (fun m1 =>
    ((x1 = 0 → (((0 : Int) ≤ (rd m1 284 18) ∧ (rd m1 284 18) < 2) ∧ Q m1 (rd m1 293 (Int.toNat (rd m1 284 18))))) ∧
    (x1 = 1 → (((0 : Int) ≤ (rd m1 284 18) ∧ (rd m1 284 18) < 2) ∧ Q m1 (rd m1 294 (Int.toNat (rd m1 284 18))))) ∧
    (x1 = 2 → (((0 : Int) ≤ (rd m1 284 18) ∧ (rd m1 284 18) < 2) ∧ Q m1 (rd m1 302 (Int.toNat (rd m1 284 18))))) ∧
    (x1 = 3 → Q m1 (rd m1 323 49)) ∧
    (x1 = 4 → Q m1 (rd m1 323 50)) ∧
    (x1 = 5 → Q m1 (rd m1 284 59)) ∧
    (x1 = 6 → (∃ (I_141 : Int → Int → Mm → Prop) (mu_141 : Int → Int → Mm → Nat), I_141 0 0 m1 ∧
                  ∀ (x2_141 x3_141 : Int) (m_141 : Mm), rg x2_141 → rg x3_141 → I_141 x2_141 x3_141 m_141 →
                  CK d 208 [.ref 284] m_141 (fun m143 v143 =>
                      ((v143 ≤ x3_141 → Q m143 x2_141) ∧
                      (¬ v143 ≤ x3_141 → (((0 : Int) ≤ x3_141 ∧ x3_141 < 51) ∧ (∃ R_164 : Int → Prop,
                        (((rd m143 323 (Int.toNat x3_141)) ≤ 0 → R_164 x2_141) ∧
                        (¬ (rd m143 323 (Int.toNat x3_141)) ≤ 0 → (∀ z2_163 : Int, z2_163 = (orI x2_141 (slI 1 x3_141)) → R_164 z2_163))) ∧
                        (∀ (y2_164 : Int) , rg y2_164 → R_164 y2_164 →
                        (∀ z3_164 : Int, z3_164 = wr (x3_141 + 1) → (I_141 y2_164 z3_164 m143 ∧ mu_141 y2_164 z3_164 m143 < mu_141 x2_141 x3_141 m_141)))))))))) ∧
    (x1 = 7 → (∃ (I_174 : Int → Int → Mm → Prop) (mu_174 : Int → Int → Mm → Nat), I_174 0 0 m1 ∧
                    ∀ (x2_174 x3_174 : Int) (m_174 : Mm), rg x2_174 → rg x3_174 → I_174 x2_174 x3_174 m_174 →
                    CK d 208 [.ref 284] m_174 (fun m176 v176 =>
                        ((v176 ≤ x3_174 → Q m176 x2_174) ∧
                        (¬ v176 ≤ x3_174 → (((0 : Int) ≤ x3_174 ∧ x3_174 < 51) ∧ (∀ z2_190 : Int, z2_190 = (wr (x2_174 + (rd m176 323 (Int.toNat x3_174)))) → (∀ z3_191 : Int, z3_191 = wr (x3_174 + 1) → (I_174 z2_190 z3_191 m176 ∧ mu_174 z2_190 z3_191 m176 < mu_174 x2_174 x3_174 m_174))))))))) ∧
    (x1 = 8 → Q m1 (rd m1 284 2)) ∧
    (x1 = 9 → Q m1 (rd m1 284 60)) ∧
    (x1 = 10 → Q m1 (rd m1 284 72)) ∧
    (x1 = 11 → (∃ R_228 : Int → Prop,
                            (((rd m1 339 0) = 0 → R_228 0) ∧
                            (¬ (rd m1 339 0) = 0 → R_228 1)) ∧
                            (∀ (s0_228 : Int) , rg s0_228 → R_228 s0_228 →
                            (∃ R_242 : Int → Prop,
                              (((rd m1 339 1) = 0 → R_242 0) ∧
                              (¬ (rd m1 339 1) = 0 → R_242 1)) ∧
                              (∀ (s1_242 : Int) , rg s1_242 → R_242 s1_242 →
                              (∃ R_257 : Int → Prop,
                                (((rd m1 339 2) = 0 → R_257 0) ∧
                                (¬ (rd m1 339 2) = 0 → R_257 1)) ∧
                                (∀ (s1_257 : Int) , rg s1_257 → R_257 s1_257 →
                                Q m1 (wr ((wr (s0_228 + s1_242)) + s1_257))))))))) ∧
    (x1 = 12 → Q m1 (wr ((wr ((rd m1 323 46) + (rd m1 323 47))) + (rd m1 323 48)))) ∧
    (x1 = 13 → (∃ (I_285 : Int → Int → Prop) (mu_285 : Int → Int → Nat), I_285 0 0 ∧
                                ∀ (x2_285 x3_285 : Int) , rg x2_285 → rg x3_285 → I_285 x2_285 x3_285 →
                                (((0 : Int) ≤ (rd m1 284 18) ∧ (rd m1 284 18) < 2) ∧ (((rd m1 302 (Int.toNat (rd m1 284 18))) ≤ x3_285 → Q m1 x2_285) ∧
                                    (¬ (rd m1 302 (Int.toNat (rd m1 284 18))) ≤ x3_285 → (((0 : Int) ≤ (wr (43 + x3_285)) ∧ (wr (43 + x3_285)) < 51) ∧ (∀ z2_311 : Int, z2_311 = (orI x2_285 (slI 1 (rd m1 323 (Int.toNat (wr (43 + x3_285)))))) → (∀ z3_312 : Int, z3_312 = wr (x3_285 + 1) → (I_285 z2_311 z3_312 ∧ mu_285 z2_311 z3_312 < mu_285 x2_285 x3_285))))))))) ∧
    (x1 = 14 → (∃ (I_322 : Int → Int → Mm → Prop) (mu_322 : Int → Int → Mm → Nat), I_322 0 0 m1 ∧
                                  ∀ (x2_322 x3_322 : Int) (m_322 : Mm), rg x2_322 → rg x3_322 → I_322 x2_322 x3_322 m_322 →
                                  CK d 208 [.ref 284] m_322 (fun m324 v324 =>
                                      ((v324 ≤ x3_322 → Q m324 x2_322) ∧
                                      (¬ v324 ≤ x3_322 → (((0 : Int) ≤ x3_322 ∧ x3_322 < 51) ∧ (∃ R_347 : Int → Prop,
                                        (((rd m324 323 (Int.toNat x3_322)) ≤ x2_322 → R_347 x2_322) ∧
                                        (¬ (rd m324 323 (Int.toNat x3_322)) ≤ x2_322 → (((0 : Int) ≤ x3_322 ∧ x3_322 < 51) ∧ (∀ z2_346 : Int, z2_346 = (rd m324 323 (Int.toNat x3_322)) → R_347 z2_346)))) ∧
                                        (∀ (y2_347 : Int) , rg y2_347 → R_347 y2_347 →
                                        (∀ z3_347 : Int, z3_347 = wr (x3_322 + 1) → (I_322 y2_347 z3_347 m324 ∧ mu_322 y2_347 z3_347 m324 < mu_322 x2_322 x3_322 m_322)))))))))) ∧
    (x1 = 15 → (∃ (I_357 : Int → Int → Mm → Prop) (mu_357 : Int → Int → Mm → Nat), I_357 0 0 m1 ∧
                                    ∀ (x2_357 x3_357 : Int) (m_357 : Mm), rg x2_357 → rg x3_357 → I_357 x2_357 x3_357 m_357 →
                                    (((0 : Int) ≤ (rd m_357 284 18) ∧ (rd m_357 284 18) < 2) ∧ (((rd m_357 302 (Int.toNat (rd m_357 284 18))) ≤ x3_357 → Q m_357 x2_357) ∧
                                        (¬ (rd m_357 302 (Int.toNat (rd m_357 284 18))) ≤ x3_357 → CK d 286 [.ref 284, iv x3_357] m_357 (fun m372 v372 =>
                                          (∃ R_384 : Int → Prop,
                                          ((v372 = 0 → R_384 x2_357) ∧
                                          (¬ v372 = 0 → (∀ z2_383 : Int, z2_383 = (orI x2_357 (slI 1 x3_357)) → R_384 z2_383))) ∧
                                          (∀ (y2_384 : Int) , rg y2_384 → R_384 y2_384 →
                                          (∀ z3_384 : Int, z3_384 = wr (x3_357 + 1) → (I_357 y2_384 z3_384 m372 ∧ mu_357 y2_384 z3_384 m372 < mu_357 x2_357 x3_357 m_357)))))))))) ∧
    (x1 = 16 → Q m1 (wr ((wr ((rd m1 323 25) + (rd m1 323 31))) + (rd m1 323 37)))) ∧
    (x1 < 0 ∨ 16 < x1 → Q m1 (-1))))
set_option maxRecDepth 20000 in
theorem br_287 {d : Nat} {m : Mm} {x1 : Int} {Q : Mm → Int → Prop} (r_x1 : rg x1) (H : P_287 d m x1 Q) : CK (d + 1) 287 [.ref 284, iv x1] m Q := by
  unfold P_287 at H
  refine CK_of rfl ?_
  show mm_W d mc_287 0 [some (.ref 284), some (iv x1), none, none] [] (fm m) (XK Q)
  refine w_st (fun _ => rfl) ?_
  refine k_VV (as := []) rfl mg_287 rfl rfl (by decide) rfl rfl H (fun m1 H => ?_)
  refine f_int 0 rfl rfl ?_
  refine w_st (ls2 := [some (.ref 284), some (iv x1), some (iv 0), none]) (fun _ => rfl) ?_
  refine w_st (fun _ => rfl) ?_
  by_cases e0_7 : x1 = 0
  · refine f_tsw 0 rfl r_x1 e0_7 rfl rfl ?_
    replace H := H.1 e0_7
    refine w_st (fun _ => rfl) ?_
    refine g_284_22 rfl ?_
    refine w_st (fun _ => rfl) ?_
    refine g_284_18 rfl ?_
    refine f_ld ir_293 rfl H.1 ?_
    replace H := H.2
    exact f_iret rfl (rd_rg _ _ _) H
  · replace H := H.2
    by_cases e1_7 : x1 = 1
    · refine f_tsw 1 rfl r_x1 e1_7 rfl rfl ?_
      replace H := H.1 e1_7
      refine w_st (fun _ => rfl) ?_
      refine g_284_23 rfl ?_
      refine w_st (fun _ => rfl) ?_
      refine g_284_18 rfl ?_
      refine f_ld ir_294 rfl H.1 ?_
      replace H := H.2
      exact f_iret rfl (rd_rg _ _ _) H
    · replace H := H.2
      by_cases e2_7 : x1 = 2
      · refine f_tsw 2 rfl r_x1 e2_7 rfl rfl ?_
        replace H := H.1 e2_7
        refine w_st (fun _ => rfl) ?_
        refine g_284_31 rfl ?_
        refine w_st (fun _ => rfl) ?_
        refine g_284_18 rfl ?_
        refine f_ld ir_302 rfl H.1 ?_
        replace H := H.2
        exact f_iret rfl (rd_rg _ _ _) H
      · replace H := H.2
        by_cases e3_7 : x1 = 3
        · refine f_tsw 3 rfl r_x1 e3_7 rfl rfl ?_
          replace H := H.1 e3_7
          refine w_st (fun _ => rfl) ?_
          refine g_284_57 rfl ?_
          refine f_int 49 rfl rfl ?_
          refine f_ld ir_323 rfl ⟨by decide, by decide⟩ ?_
          exact f_iret rfl (rd_rg _ _ _) H
        · replace H := H.2
          by_cases e4_7 : x1 = 4
          · refine f_tsw 4 rfl r_x1 e4_7 rfl rfl ?_
            replace H := H.1 e4_7
            refine w_st (fun _ => rfl) ?_
            refine g_284_57 rfl ?_
            refine f_int 50 rfl rfl ?_
            refine f_ld ir_323 rfl ⟨by decide, by decide⟩ ?_
            exact f_iret rfl (rd_rg _ _ _) H
          · replace H := H.2
            by_cases e5_7 : x1 = 5
            · refine f_tsw 5 rfl r_x1 e5_7 rfl rfl ?_
              replace H := H.1 e5_7
              refine w_st (fun _ => rfl) ?_
              refine g_284_59 rfl ?_
              exact f_iret rfl (rd_rg _ _ _) H
            · replace H := H.2
              by_cases e6_7 : x1 = 6
              · refine f_tsw 6 rfl r_x1 e6_7 rfl rfl ?_
                replace H := H.1 e6_7
                refine f_int 0 rfl rfl ?_
                refine w_st (ls2 := [some (.ref 284), some (iv x1), some (iv 0), some (iv 0)]) (fun _ => rfl) ?_
                obtain ⟨I_141, mu_141, H0_141, HB_141⟩ := H
                have lp_141 : ∀ (z : Nat) (x2_141 x3_141 : Int) (m_141 : Mm), mu_141 x2_141 x3_141 m_141 < z → rg x2_141 → rg x3_141 → I_141 x2_141 x3_141 m_141 → mm_W d mc_287 141 [some (.ref 284), some (iv x1), some (iv x2_141), some (iv x3_141)] [] (fm m_141) (XK Q) := by
                  intro z
                  induction z with
                  | zero => intro x2_141 x3_141 m_141 hz; exact absurd hz (Nat.not_lt_zero _)
                  | succ z ih_141 =>
                    intro x2_141 x3_141 m_141 hz_141 r_x2_141 r_x3_141 hI
                    have H := HB_141 x2_141 x3_141 m_141 r_x2_141 r_x3_141 hI
                    refine w_st (fun _ => rfl) ?_
                    refine w_st (fun _ => rfl) ?_
                    refine k_VK (as := []) rfl mg_287 rfl rfl (by decide) rfl rfl H (fun m143 v143 r_v143 H => ?_)
                    refine b_ge rfl r_x3_141 r_v143 (fun hq => ?_) (fun hq => ?_)
                    · replace H := H.1 hq
                      refine w_st (fun _ => rfl) ?_
                      exact f_iret rfl r_x2_141 H
                    · replace H := H.2 hq
                      refine w_st (fun _ => rfl) ?_
                      refine g_284_57 rfl ?_
                      refine w_st (fun _ => rfl) ?_
                      refine f_ld ir_323 rfl H.1 ?_
                      replace H := H.2
                      obtain ⟨R_164, H, HJ_164⟩ := H
                      have tl_164 : ∀ (y2_164 : Int) , rg y2_164 → R_164 y2_164 → mm_W d mc_287 164 [some (.ref 284), some (iv x1), some (iv y2_164), some (iv x3_141)] [] (fm m143) (XK Q) := by
                        intro y2_164 r_y2_164 hR
                        have H := HJ_164 y2_164 r_y2_164 hR
                        obtain ⟨z3_164, e_z3_164⟩ : ∃ q : Int, q = wr (x3_141 + 1) := ⟨_, rfl⟩
                        have r_z3_164 : rg z3_164 := by rw [e_z3_164]; exact wr_rg _
                        replace H := H z3_164 e_z3_164
                        refine f_iinc (ls2 := [some (.ref 284), some (iv x1), some (iv y2_164), some (iv z3_164)]) 1 rfl rfl rfl e_z3_164 rfl ?_
                        refine w_st (fun _ => rfl) ?_
                        exact ih_141 y2_164 z3_164 m143 (Nat.lt_of_lt_of_le H.2 (Nat.le_of_lt_succ hz_141)) r_y2_164 r_z3_164 H.1
                      refine z_le rfl (rd_rg _ _ _) (fun hq => ?_) (fun hq => ?_)
                      · replace H := H.1 hq
                        exact tl_164 x2_141 r_x2_141 H
                      · replace H := H.2 hq
                        refine w_st (fun _ => rfl) ?_
                        refine f_int 1 rfl rfl ?_
                        refine w_st (fun _ => rfl) ?_
                        refine f_slI rfl ?_
                        refine f_orI rfl ?_
                        obtain ⟨z2_163, e_z2_163⟩ : ∃ q : Int, q = (orI x2_141 (slI 1 x3_141)) := ⟨_, rfl⟩
                        have r_z2_163 : rg z2_163 := by rw [e_z2_163]; exact (io_rg _ _ _)
                        replace H := H z2_163 e_z2_163
                        refine f_nm e_z2_163 ?_
                        refine w_st (ls2 := [some (.ref 284), some (iv x1), some (iv z2_163), some (iv x3_141)]) (fun _ => rfl) ?_
                        exact tl_164 z2_163 r_z2_163 H
                exact lp_141 _ 0 0 m1 (Nat.lt_succ_self _) (by unfold rg; decide) (by unfold rg; decide) H0_141
              · replace H := H.2
                by_cases e7_7 : x1 = 7
                · refine f_tsw 7 rfl r_x1 e7_7 rfl rfl ?_
                  replace H := H.1 e7_7
                  refine f_int 0 rfl rfl ?_
                  refine w_st (ls2 := [some (.ref 284), some (iv x1), some (iv 0), some (iv 0)]) (fun _ => rfl) ?_
                  obtain ⟨I_174, mu_174, H0_174, HB_174⟩ := H
                  have lp_174 : ∀ (z : Nat) (x2_174 x3_174 : Int) (m_174 : Mm), mu_174 x2_174 x3_174 m_174 < z → rg x2_174 → rg x3_174 → I_174 x2_174 x3_174 m_174 → mm_W d mc_287 174 [some (.ref 284), some (iv x1), some (iv x2_174), some (iv x3_174)] [] (fm m_174) (XK Q) := by
                    intro z
                    induction z with
                    | zero => intro x2_174 x3_174 m_174 hz; exact absurd hz (Nat.not_lt_zero _)
                    | succ z ih_174 =>
                      intro x2_174 x3_174 m_174 hz_174 r_x2_174 r_x3_174 hI
                      have H := HB_174 x2_174 x3_174 m_174 r_x2_174 r_x3_174 hI
                      refine w_st (fun _ => rfl) ?_
                      refine w_st (fun _ => rfl) ?_
                      refine k_VK (as := []) rfl mg_287 rfl rfl (by decide) rfl rfl H (fun m176 v176 r_v176 H => ?_)
                      refine b_ge rfl r_x3_174 r_v176 (fun hq => ?_) (fun hq => ?_)
                      · replace H := H.1 hq
                        refine w_st (fun _ => rfl) ?_
                        exact f_iret rfl r_x2_174 H
                      · replace H := H.2 hq
                        refine w_st (fun _ => rfl) ?_
                        refine w_st (fun _ => rfl) ?_
                        refine g_284_57 rfl ?_
                        refine w_st (fun _ => rfl) ?_
                        refine f_ld ir_323 rfl H.1 ?_
                        replace H := H.2
                        refine f_add rfl ?_
                        obtain ⟨z2_190, e_z2_190⟩ : ∃ q : Int, q = (wr (x2_174 + (rd m176 323 (Int.toNat x3_174)))) := ⟨_, rfl⟩
                        have r_z2_190 : rg z2_190 := by rw [e_z2_190]; exact (wr_rg _)
                        replace H := H z2_190 e_z2_190
                        refine f_nm e_z2_190 ?_
                        refine w_st (ls2 := [some (.ref 284), some (iv x1), some (iv z2_190), some (iv x3_174)]) (fun _ => rfl) ?_
                        obtain ⟨z3_191, e_z3_191⟩ : ∃ q : Int, q = wr (x3_174 + 1) := ⟨_, rfl⟩
                        have r_z3_191 : rg z3_191 := by rw [e_z3_191]; exact wr_rg _
                        replace H := H z3_191 e_z3_191
                        refine f_iinc (ls2 := [some (.ref 284), some (iv x1), some (iv z2_190), some (iv z3_191)]) 1 rfl rfl rfl e_z3_191 rfl ?_
                        refine w_st (fun _ => rfl) ?_
                        exact ih_174 z2_190 z3_191 m176 (Nat.lt_of_lt_of_le H.2 (Nat.le_of_lt_succ hz_174)) r_z2_190 r_z3_191 H.1
                  exact lp_174 _ 0 0 m1 (Nat.lt_succ_self _) (by unfold rg; decide) (by unfold rg; decide) H0_174
                · replace H := H.2
                  by_cases e8_7 : x1 = 8
                  · refine f_tsw 8 rfl r_x1 e8_7 rfl rfl ?_
                    replace H := H.1 e8_7
                    refine w_st (fun _ => rfl) ?_
                    refine g_284_2 rfl ?_
                    exact f_iret rfl (rd_rg _ _ _) H
                  · replace H := H.2
                    by_cases e9_7 : x1 = 9
                    · refine f_tsw 9 rfl r_x1 e9_7 rfl rfl ?_
                      replace H := H.1 e9_7
                      refine w_st (fun _ => rfl) ?_
                      refine g_284_60 rfl ?_
                      exact f_iret rfl (rd_rg _ _ _) H
                    · replace H := H.2
                      by_cases e10_7 : x1 = 10
                      · refine f_tsw 10 rfl r_x1 e10_7 rfl rfl ?_
                        replace H := H.1 e10_7
                        refine w_st (fun _ => rfl) ?_
                        refine g_284_72 rfl ?_
                        exact f_iret rfl (rd_rg _ _ _) H
                      · replace H := H.2
                        by_cases e11_7 : x1 = 11
                        · refine f_tsw 11 rfl r_x1 e11_7 rfl rfl ?_
                          replace H := H.1 e11_7
                          refine w_st (fun _ => rfl) ?_
                          refine g_284_78 rfl ?_
                          refine f_int 0 rfl rfl ?_
                          refine f_ldz (n := 3) (by decide) rfl (by decide) rfl ⟨by decide, by decide⟩ ?_
                          obtain ⟨R_228, H, HJ_228⟩ := H
                          have tl_228 : ∀ (s0_228 : Int) , rg s0_228 → R_228 s0_228 → mm_W d mc_287 228 [some (.ref 284), some (iv x1), some (iv 0), none] [iv s0_228] (fm m1) (XK Q) := by
                            intro s0_228 r_s0_228 hR
                            have H := HJ_228 s0_228 r_s0_228 hR
                            refine w_st (fun _ => rfl) ?_
                            refine g_284_78 rfl ?_
                            refine f_int 1 rfl rfl ?_
                            refine f_ldz (n := 3) (by decide) rfl (by decide) rfl ⟨by decide, by decide⟩ ?_
                            obtain ⟨R_242, H, HJ_242⟩ := H
                            have tl_242 : ∀ (s1_242 : Int) , rg s1_242 → R_242 s1_242 → mm_W d mc_287 242 [some (.ref 284), some (iv x1), some (iv 0), none] [iv s1_242, iv s0_228] (fm m1) (XK Q) := by
                              intro s1_242 r_s1_242 hR
                              have H := HJ_242 s1_242 r_s1_242 hR
                              refine f_add rfl ?_
                              refine w_st (fun _ => rfl) ?_
                              refine g_284_78 rfl ?_
                              refine f_int 2 rfl rfl ?_
                              refine f_ldz (n := 3) (by decide) rfl (by decide) rfl ⟨by decide, by decide⟩ ?_
                              obtain ⟨R_257, H, HJ_257⟩ := H
                              have tl_257 : ∀ (s1_257 : Int) , rg s1_257 → R_257 s1_257 → mm_W d mc_287 257 [some (.ref 284), some (iv x1), some (iv 0), none] [iv s1_257, iv (wr (s0_228 + s1_242))] (fm m1) (XK Q) := by
                                intro s1_257 r_s1_257 hR
                                have H := HJ_257 s1_257 r_s1_257 hR
                                refine f_add rfl ?_
                                exact f_iret rfl (wr_rg _) H
                              refine z_eq rfl (rd_rg _ _ _) (fun hq => ?_) (fun hq => ?_)
                              · replace H := H.1 hq
                                refine f_int 0 rfl rfl ?_
                                exact tl_257 0 (by unfold rg; decide) H
                              · replace H := H.2 hq
                                refine f_int 1 rfl rfl ?_
                                refine w_st (fun _ => rfl) ?_
                                exact tl_257 1 (by unfold rg; decide) H
                            refine z_eq rfl (rd_rg _ _ _) (fun hq => ?_) (fun hq => ?_)
                            · replace H := H.1 hq
                              refine f_int 0 rfl rfl ?_
                              exact tl_242 0 (by unfold rg; decide) H
                            · replace H := H.2 hq
                              refine f_int 1 rfl rfl ?_
                              refine w_st (fun _ => rfl) ?_
                              exact tl_242 1 (by unfold rg; decide) H
                          refine z_eq rfl (rd_rg _ _ _) (fun hq => ?_) (fun hq => ?_)
                          · replace H := H.1 hq
                            refine f_int 0 rfl rfl ?_
                            exact tl_228 0 (by unfold rg; decide) H
                          · replace H := H.2 hq
                            refine f_int 1 rfl rfl ?_
                            refine w_st (fun _ => rfl) ?_
                            exact tl_228 1 (by unfold rg; decide) H
                        · replace H := H.2
                          by_cases e12_7 : x1 = 12
                          · refine f_tsw 12 rfl r_x1 e12_7 rfl rfl ?_
                            replace H := H.1 e12_7
                            refine w_st (fun _ => rfl) ?_
                            refine g_284_57 rfl ?_
                            refine f_int 46 rfl rfl ?_
                            refine f_ld ir_323 rfl ⟨by decide, by decide⟩ ?_
                            refine w_st (fun _ => rfl) ?_
                            refine g_284_57 rfl ?_
                            refine f_int 47 rfl rfl ?_
                            refine f_ld ir_323 rfl ⟨by decide, by decide⟩ ?_
                            refine f_add rfl ?_
                            refine w_st (fun _ => rfl) ?_
                            refine g_284_57 rfl ?_
                            refine f_int 48 rfl rfl ?_
                            refine f_ld ir_323 rfl ⟨by decide, by decide⟩ ?_
                            refine f_add rfl ?_
                            exact f_iret rfl (wr_rg _) H
                          · replace H := H.2
                            by_cases e13_7 : x1 = 13
                            · refine f_tsw 13 rfl r_x1 e13_7 rfl rfl ?_
                              replace H := H.1 e13_7
                              refine f_int 0 rfl rfl ?_
                              refine w_st (ls2 := [some (.ref 284), some (iv x1), some (iv 0), some (iv 0)]) (fun _ => rfl) ?_
                              obtain ⟨I_285, mu_285, H0_285, HB_285⟩ := H
                              have lp_285 : ∀ (z : Nat) (x2_285 x3_285 : Int) , mu_285 x2_285 x3_285 < z → rg x2_285 → rg x3_285 → I_285 x2_285 x3_285 → mm_W d mc_287 285 [some (.ref 284), some (iv x1), some (iv x2_285), some (iv x3_285)] [] (fm m1) (XK Q) := by
                                intro z
                                induction z with
                                | zero => intro x2_285 x3_285 hz; exact absurd hz (Nat.not_lt_zero _)
                                | succ z ih_285 =>
                                  intro x2_285 x3_285 hz_285 r_x2_285 r_x3_285 hI
                                  have H := HB_285 x2_285 x3_285 r_x2_285 r_x3_285 hI
                                  refine w_st (fun _ => rfl) ?_
                                  refine w_st (fun _ => rfl) ?_
                                  refine g_284_31 rfl ?_
                                  refine w_st (fun _ => rfl) ?_
                                  refine g_284_18 rfl ?_
                                  refine f_ld ir_302 rfl H.1 ?_
                                  replace H := H.2
                                  refine b_ge rfl r_x3_285 (rd_rg _ _ _) (fun hq => ?_) (fun hq => ?_)
                                  · replace H := H.1 hq
                                    refine w_st (fun _ => rfl) ?_
                                    exact f_iret rfl r_x2_285 H
                                  · replace H := H.2 hq
                                    refine w_st (fun _ => rfl) ?_
                                    refine f_int 1 rfl rfl ?_
                                    refine w_st (fun _ => rfl) ?_
                                    refine g_284_57 rfl ?_
                                    refine f_int 43 rfl rfl ?_
                                    refine w_st (fun _ => rfl) ?_
                                    refine f_add rfl ?_
                                    refine f_ld ir_323 rfl H.1 ?_
                                    replace H := H.2
                                    refine f_slI rfl ?_
                                    refine f_orI rfl ?_
                                    obtain ⟨z2_311, e_z2_311⟩ : ∃ q : Int, q = (orI x2_285 (slI 1 (rd m1 323 (Int.toNat (wr (43 + x3_285)))))) := ⟨_, rfl⟩
                                    have r_z2_311 : rg z2_311 := by rw [e_z2_311]; exact (io_rg _ _ _)
                                    replace H := H z2_311 e_z2_311
                                    refine f_nm e_z2_311 ?_
                                    refine w_st (ls2 := [some (.ref 284), some (iv x1), some (iv z2_311), some (iv x3_285)]) (fun _ => rfl) ?_
                                    obtain ⟨z3_312, e_z3_312⟩ : ∃ q : Int, q = wr (x3_285 + 1) := ⟨_, rfl⟩
                                    have r_z3_312 : rg z3_312 := by rw [e_z3_312]; exact wr_rg _
                                    replace H := H z3_312 e_z3_312
                                    refine f_iinc (ls2 := [some (.ref 284), some (iv x1), some (iv z2_311), some (iv z3_312)]) 1 rfl rfl rfl e_z3_312 rfl ?_
                                    refine w_st (fun _ => rfl) ?_
                                    exact ih_285 z2_311 z3_312 (Nat.lt_of_lt_of_le H.2 (Nat.le_of_lt_succ hz_285)) r_z2_311 r_z3_312 H.1
                              exact lp_285 _ 0 0 (Nat.lt_succ_self _) (by unfold rg; decide) (by unfold rg; decide) H0_285
                            · replace H := H.2
                              by_cases e14_7 : x1 = 14
                              · refine f_tsw 14 rfl r_x1 e14_7 rfl rfl ?_
                                replace H := H.1 e14_7
                                refine f_int 0 rfl rfl ?_
                                refine w_st (ls2 := [some (.ref 284), some (iv x1), some (iv 0), some (iv 0)]) (fun _ => rfl) ?_
                                obtain ⟨I_322, mu_322, H0_322, HB_322⟩ := H
                                have lp_322 : ∀ (z : Nat) (x2_322 x3_322 : Int) (m_322 : Mm), mu_322 x2_322 x3_322 m_322 < z → rg x2_322 → rg x3_322 → I_322 x2_322 x3_322 m_322 → mm_W d mc_287 322 [some (.ref 284), some (iv x1), some (iv x2_322), some (iv x3_322)] [] (fm m_322) (XK Q) := by
                                  intro z
                                  induction z with
                                  | zero => intro x2_322 x3_322 m_322 hz; exact absurd hz (Nat.not_lt_zero _)
                                  | succ z ih_322 =>
                                    intro x2_322 x3_322 m_322 hz_322 r_x2_322 r_x3_322 hI
                                    have H := HB_322 x2_322 x3_322 m_322 r_x2_322 r_x3_322 hI
                                    refine w_st (fun _ => rfl) ?_
                                    refine w_st (fun _ => rfl) ?_
                                    refine k_VK (as := []) rfl mg_287 rfl rfl (by decide) rfl rfl H (fun m324 v324 r_v324 H => ?_)
                                    refine b_ge rfl r_x3_322 r_v324 (fun hq => ?_) (fun hq => ?_)
                                    · replace H := H.1 hq
                                      refine w_st (fun _ => rfl) ?_
                                      exact f_iret rfl r_x2_322 H
                                    · replace H := H.2 hq
                                      refine w_st (fun _ => rfl) ?_
                                      refine g_284_57 rfl ?_
                                      refine w_st (fun _ => rfl) ?_
                                      refine f_ld ir_323 rfl H.1 ?_
                                      replace H := H.2
                                      refine w_st (fun _ => rfl) ?_
                                      obtain ⟨R_347, H, HJ_347⟩ := H
                                      have tl_347 : ∀ (y2_347 : Int) , rg y2_347 → R_347 y2_347 → mm_W d mc_287 347 [some (.ref 284), some (iv x1), some (iv y2_347), some (iv x3_322)] [] (fm m324) (XK Q) := by
                                        intro y2_347 r_y2_347 hR
                                        have H := HJ_347 y2_347 r_y2_347 hR
                                        obtain ⟨z3_347, e_z3_347⟩ : ∃ q : Int, q = wr (x3_322 + 1) := ⟨_, rfl⟩
                                        have r_z3_347 : rg z3_347 := by rw [e_z3_347]; exact wr_rg _
                                        replace H := H z3_347 e_z3_347
                                        refine f_iinc (ls2 := [some (.ref 284), some (iv x1), some (iv y2_347), some (iv z3_347)]) 1 rfl rfl rfl e_z3_347 rfl ?_
                                        refine w_st (fun _ => rfl) ?_
                                        exact ih_322 y2_347 z3_347 m324 (Nat.lt_of_lt_of_le H.2 (Nat.le_of_lt_succ hz_322)) r_y2_347 r_z3_347 H.1
                                      refine b_le rfl (rd_rg _ _ _) r_x2_322 (fun hq => ?_) (fun hq => ?_)
                                      · replace H := H.1 hq
                                        exact tl_347 x2_322 r_x2_322 H
                                      · replace H := H.2 hq
                                        refine w_st (fun _ => rfl) ?_
                                        refine g_284_57 rfl ?_
                                        refine w_st (fun _ => rfl) ?_
                                        refine f_ld ir_323 rfl H.1 ?_
                                        replace H := H.2
                                        obtain ⟨z2_346, e_z2_346⟩ : ∃ q : Int, q = (rd m324 323 (Int.toNat x3_322)) := ⟨_, rfl⟩
                                        have r_z2_346 : rg z2_346 := by rw [e_z2_346]; exact (rd_rg _ _ _)
                                        replace H := H z2_346 e_z2_346
                                        refine f_nm e_z2_346 ?_
                                        refine w_st (ls2 := [some (.ref 284), some (iv x1), some (iv z2_346), some (iv x3_322)]) (fun _ => rfl) ?_
                                        exact tl_347 z2_346 r_z2_346 H
                                exact lp_322 _ 0 0 m1 (Nat.lt_succ_self _) (by unfold rg; decide) (by unfold rg; decide) H0_322
                              · replace H := H.2
                                by_cases e15_7 : x1 = 15
                                · refine f_tsw 15 rfl r_x1 e15_7 rfl rfl ?_
                                  replace H := H.1 e15_7
                                  refine f_int 0 rfl rfl ?_
                                  refine w_st (ls2 := [some (.ref 284), some (iv x1), some (iv 0), some (iv 0)]) (fun _ => rfl) ?_
                                  obtain ⟨I_357, mu_357, H0_357, HB_357⟩ := H
                                  have lp_357 : ∀ (z : Nat) (x2_357 x3_357 : Int) (m_357 : Mm), mu_357 x2_357 x3_357 m_357 < z → rg x2_357 → rg x3_357 → I_357 x2_357 x3_357 m_357 → mm_W d mc_287 357 [some (.ref 284), some (iv x1), some (iv x2_357), some (iv x3_357)] [] (fm m_357) (XK Q) := by
                                    intro z
                                    induction z with
                                    | zero => intro x2_357 x3_357 m_357 hz; exact absurd hz (Nat.not_lt_zero _)
                                    | succ z ih_357 =>
                                      intro x2_357 x3_357 m_357 hz_357 r_x2_357 r_x3_357 hI
                                      have H := HB_357 x2_357 x3_357 m_357 r_x2_357 r_x3_357 hI
                                      refine w_st (fun _ => rfl) ?_
                                      refine w_st (fun _ => rfl) ?_
                                      refine g_284_31 rfl ?_
                                      refine w_st (fun _ => rfl) ?_
                                      refine g_284_18 rfl ?_
                                      refine f_ld ir_302 rfl H.1 ?_
                                      replace H := H.2
                                      refine b_ge rfl r_x3_357 (rd_rg _ _ _) (fun hq => ?_) (fun hq => ?_)
                                      · replace H := H.1 hq
                                        refine w_st (fun _ => rfl) ?_
                                        exact f_iret rfl r_x2_357 H
                                      · replace H := H.2 hq
                                        refine w_st (fun _ => rfl) ?_
                                        refine w_st (fun _ => rfl) ?_
                                        refine k_VK (as := [iv x3_357]) rfl mg_287 rfl rfl (by decide) rfl rfl H (fun m372 v372 r_v372 H => ?_)
                                        obtain ⟨R_384, H, HJ_384⟩ := H
                                        have tl_384 : ∀ (y2_384 : Int) , rg y2_384 → R_384 y2_384 → mm_W d mc_287 384 [some (.ref 284), some (iv x1), some (iv y2_384), some (iv x3_357)] [] (fm m372) (XK Q) := by
                                          intro y2_384 r_y2_384 hR
                                          have H := HJ_384 y2_384 r_y2_384 hR
                                          obtain ⟨z3_384, e_z3_384⟩ : ∃ q : Int, q = wr (x3_357 + 1) := ⟨_, rfl⟩
                                          have r_z3_384 : rg z3_384 := by rw [e_z3_384]; exact wr_rg _
                                          replace H := H z3_384 e_z3_384
                                          refine f_iinc (ls2 := [some (.ref 284), some (iv x1), some (iv y2_384), some (iv z3_384)]) 1 rfl rfl rfl e_z3_384 rfl ?_
                                          refine w_st (fun _ => rfl) ?_
                                          exact ih_357 y2_384 z3_384 m372 (Nat.lt_of_lt_of_le H.2 (Nat.le_of_lt_succ hz_357)) r_y2_384 r_z3_384 H.1
                                        refine z_eq rfl r_v372 (fun hq => ?_) (fun hq => ?_)
                                        · replace H := H.1 hq
                                          exact tl_384 x2_357 r_x2_357 H
                                        · replace H := H.2 hq
                                          refine w_st (fun _ => rfl) ?_
                                          refine f_int 1 rfl rfl ?_
                                          refine w_st (fun _ => rfl) ?_
                                          refine f_slI rfl ?_
                                          refine f_orI rfl ?_
                                          obtain ⟨z2_383, e_z2_383⟩ : ∃ q : Int, q = (orI x2_357 (slI 1 x3_357)) := ⟨_, rfl⟩
                                          have r_z2_383 : rg z2_383 := by rw [e_z2_383]; exact (io_rg _ _ _)
                                          replace H := H z2_383 e_z2_383
                                          refine f_nm e_z2_383 ?_
                                          refine w_st (ls2 := [some (.ref 284), some (iv x1), some (iv z2_383), some (iv x3_357)]) (fun _ => rfl) ?_
                                          exact tl_384 z2_383 r_z2_383 H
                                  exact lp_357 _ 0 0 m1 (Nat.lt_succ_self _) (by unfold rg; decide) (by unfold rg; decide) H0_357
                                · replace H := H.2
                                  by_cases e16_7 : x1 = 16
                                  · refine f_tsw 16 rfl r_x1 e16_7 rfl rfl ?_
                                    replace H := H.1 e16_7
                                    refine w_st (fun _ => rfl) ?_
                                    refine g_284_57 rfl ?_
                                    refine f_int 25 rfl rfl ?_
                                    refine f_ld ir_323 rfl ⟨by decide, by decide⟩ ?_
                                    refine w_st (fun _ => rfl) ?_
                                    refine g_284_57 rfl ?_
                                    refine f_int 31 rfl rfl ?_
                                    refine f_ld ir_323 rfl ⟨by decide, by decide⟩ ?_
                                    refine f_add rfl ?_
                                    refine w_st (fun _ => rfl) ?_
                                    refine g_284_57 rfl ?_
                                    refine f_int 37 rfl rfl ?_
                                    refine f_ld ir_323 rfl ⟨by decide, by decide⟩ ?_
                                    refine f_add rfl ?_
                                    exact f_iret rfl (wr_rg _) H
                                  · replace H := H.2
                                    refine f_tswd rfl r_x1 (by omega) ?_
                                    replace H := H (by omega)
                                    refine f_int (-1) rfl rfl ?_
                                    exact f_iret rfl (by unfold rg; decide) H
/-- java/lang/String.length()I -/
def P_288 (d : Nat) (m : Mm)  (Q : Mm → Int → Prop) : Prop :=
  CK d 292 [.ref (1100 + 1)] m (fun m6 v6 =>
    Q m6 (srI 9 v6))
set_option maxRecDepth 20000 in
theorem br_288 {d : Nat} {m : Mm}  {Q : Mm → Int → Prop}  (H : P_288 d m  Q) : CK (d + 1) 288 [.ref (1100 + 1)] m Q := by
  unfold P_288 at H
  refine CK_of rfl ?_
  show mm_W d mc_288 0 [some (.ref (1100 + 1))] [] (fm m) (XK Q)
  refine w_st (fun _ => rfl) ?_
  refine w_st (fun _ => rfl) ?_
  refine w_st (st2 := [iv 9]) (fun _ => rfl) ?_
  refine w_st (fun _ => rfl) ?_
  refine k_XK (as := []) rfl mg_288 rfl rfl rfl rfl H (fun m6 v6 r_v6 H => ?_)
  refine f_srI rfl ?_
  exact f_iret rfl (io_rg _ _ _) H
/-- java/lang/String.indexOf(I)I -/
def P_290 (d : Nat) (m : Mm) (x1 : Int) (Q : Mm → Int → Prop) : Prop :=
  CK d 291 [.ref (1100 + 1), iv x1, iv 0] m (fun m3 v3 =>
    Q m3 v3)
set_option maxRecDepth 20000 in
theorem br_290 {d : Nat} {m : Mm} {x1 : Int} {Q : Mm → Int → Prop} (r_x1 : rg x1) (H : P_290 d m x1 Q) : CK (d + 1) 290 [.ref (1100 + 1), iv x1] m Q := by
  unfold P_290 at H
  refine CK_of rfl ?_
  show mm_W d mc_290 0 [some (.ref (1100 + 1)), some (iv x1)] [] (fm m) (XK Q)
  refine w_st (fun _ => rfl) ?_
  refine w_st (fun _ => rfl) ?_
  refine f_int 0 rfl rfl ?_
  refine k_XK (as := [iv x1, iv 0]) rfl mg_290 rfl rfl rfl rfl H (fun m3 v3 r_v3 H => ?_)
  exact f_iret rfl r_v3 H
/-- java/lang/String.indexOf(II)I -/
def P_291 (d : Nat) (m : Mm) (x1 : Int) (x2 : Int) (Q : Mm → Int → Prop) : Prop :=
  CK d 293 [.ref (1100 + 1)] m (fun m1 v1 =>
    ((v1 = 0 → CK d 288 [.ref (1100 + 1)] m1 (fun m30 v30 =>
      False)) ∧
    (¬ v1 = 0 → CK d 288 [.ref (1100 + 1)] m1 (fun m14 v14 =>
      CK d 297 [.ref (1200 + 1), iv x1, iv x2, iv v14] m14 (fun m17 v17 =>
      Q m17 v17)))))
set_option maxRecDepth 20000 in
theorem br_291 {d : Nat} {m : Mm} {x1 : Int} {x2 : Int} {Q : Mm → Int → Prop} (r_x1 : rg x1) (r_x2 : rg x2) (H : P_291 d m x1 x2 Q) : CK (d + 1) 291 [.ref (1100 + 1), iv x1, iv x2] m Q := by
  unfold P_291 at H
  refine CK_of rfl ?_
  show mm_W d mc_291 0 [some (.ref (1100 + 1)), some (iv x1), some (iv x2)] [] (fm m) (XK Q)
  refine w_st (fun _ => rfl) ?_
  refine k_XK (as := []) rfl mg_291 rfl rfl rfl rfl H (fun m1 v1 r_v1 H => ?_)
  refine z_eq rfl r_v1 (fun hq => ?_) (fun hq => ?_)
  · replace H := H.1 hq
    refine w_st (fun _ => rfl) ?_
    refine w_st (fun _ => rfl) ?_
    refine w_st (fun _ => rfl) ?_
    refine w_st (fun _ => rfl) ?_
    refine w_st (fun _ => rfl) ?_
    refine k_XK (as := []) rfl mg_291 rfl rfl rfl rfl H (fun m30 v30 r_v30 H => ?_)
    exact H.elim
  · replace H := H.2 hq
    refine w_st (fun _ => rfl) ?_
    refine w_st (fun _ => rfl) ?_
    refine w_st (fun _ => rfl) ?_
    refine w_st (fun _ => rfl) ?_
    refine w_st (fun _ => rfl) ?_
    refine k_XK (as := []) rfl mg_291 rfl rfl rfl rfl H (fun m14 v14 r_v14 H => ?_)
    refine k_SK (as := [.ref (1200 + 1), iv x1, iv x2, iv v14]) rfl mg_291 rfl rfl rfl H (fun m17 v17 r_v17 H => ?_)
    refine w_st (fun _ => rfl) ?_
    exact f_iret rfl r_v17 H
/-- java/lang/String.coder()B -/
def P_292 (d : Nat) (m : Mm)  (Q : Mm → Int → Prop) : Prop :=
  (∃ R_14 : Int → Prop,
    (((1 : Int) = 0 → R_14 1) ∧
    (¬ (1 : Int) = 0 → R_14 0)) ∧
    (∀ (s0_14 : Int) , rg s0_14 → R_14 s0_14 →
    ((s0_14 = 0 ∨ s0_14 = 1) ∧ Q m s0_14)))
set_option maxRecDepth 20000 in
theorem br_292 {d : Nat} {m : Mm}  {Q : Mm → Int → Prop}  (H : P_292 d m  Q) : CK (d + 1) 292 [.ref (1100 + 1)] m Q := by
  unfold P_292 at H
  refine CK_of rfl ?_
  show mm_W d mc_292 0 [some (.ref (1100 + 1))] [] (fm m) (XK Q)
  refine f_int 1 rfl rfl ?_
  obtain ⟨R_14, H, HJ_14⟩ := H
  have tl_14 : ∀ (s0_14 : Int) , rg s0_14 → R_14 s0_14 → mm_W d mc_292 14 [some (.ref (1100 + 1))] [iv s0_14] (fm m) (XK Q) := by
    intro s0_14 r_s0_14 hR
    have H := HJ_14 s0_14 r_s0_14 hR
    exact f_ire rfl r_s0_14 H.1 H.2
  refine z_eq rfl (by unfold rg; decide) (fun hq => ?_) (fun hq => ?_)
  · replace H := H.1 hq
    refine f_int 1 rfl rfl ?_
    exact tl_14 1 (by unfold rg; decide) H
  · replace H := H.2 hq
    refine w_st (fun _ => rfl) ?_
    refine w_st (st2 := [iv 0]) (fun _ => rfl) ?_
    refine w_st (fun _ => rfl) ?_
    exact tl_14 0 (by unfold rg; decide) H
/-- java/lang/String.isLatin1()Z -/
def P_293 (d : Nat) (m : Mm)  (Q : Mm → Int → Prop) : Prop :=
  (∃ R_18 : Int → Prop,
    (∃ R_17 : Prop,
    (((1 : Int) = 0 → R_17) ∧
    (¬ (1 : Int) = 0 → ((¬ (0 : Int) = 0 → R_17) ∧
      ((0 : Int) = 0 → R_18 1)))) ∧
    (R_17 →
    R_18 0)) ∧
    (∀ (s0_18 : Int) , rg s0_18 → R_18 s0_18 →
    ((s0_18 = 0 ∨ s0_18 = 1) ∧ Q m s0_18)))
set_option maxRecDepth 20000 in
theorem br_293 {d : Nat} {m : Mm}  {Q : Mm → Int → Prop}  (H : P_293 d m  Q) : CK (d + 1) 293 [.ref (1100 + 1)] m Q := by
  unfold P_293 at H
  refine CK_of rfl ?_
  show mm_W d mc_293 0 [some (.ref (1100 + 1))] [] (fm m) (XK Q)
  refine f_int 1 rfl rfl ?_
  obtain ⟨R_18, H, HJ_18⟩ := H
  have tl_18 : ∀ (s0_18 : Int) , rg s0_18 → R_18 s0_18 → mm_W d mc_293 18 [some (.ref (1100 + 1))] [iv s0_18] (fm m) (XK Q) := by
    intro s0_18 r_s0_18 hR
    have H := HJ_18 s0_18 r_s0_18 hR
    exact f_zret rfl r_s0_18 H.1 H.2
  obtain ⟨R_17, H, HJ_17⟩ := H
  have tl_17 : R_17 → mm_W d mc_293 17 [some (.ref (1100 + 1))] [] (fm m) (XK Q) := by
    intro   hR
    have H := HJ_17   hR
    refine f_int 0 rfl rfl ?_
    exact tl_18 0 (by unfold rg; decide) H
  refine z_eq rfl (by unfold rg; decide) (fun hq => ?_) (fun hq => ?_)
  · replace H := H.1 hq
    exact tl_17   H
  · replace H := H.2 hq
    refine w_st (fun _ => rfl) ?_
    refine w_st (st2 := [iv 0]) (fun _ => rfl) ?_
    refine z_ne rfl (by unfold rg; decide) (fun hq => ?_) (fun hq => ?_)
    · replace H := H.1 hq
      exact tl_17   H
    · replace H := H.2 hq
      refine f_int 1 rfl rfl ?_
      refine w_st (fun _ => rfl) ?_
      exact tl_18 1 (by unfold rg; decide) H
/-- java/lang/StringLatin1.canEncode(I)Z -/
def P_296 (d : Nat) (m : Mm) (x0 : Int) (Q : Mm → Int → Prop) : Prop :=
  (∃ R_16 : Int → Prop,
    (∃ R_15 : Prop,
    ((x0 < 0 → R_15) ∧
    (¬ x0 < 0 → ((255 < x0 → R_15) ∧
      (¬ 255 < x0 → R_16 1)))) ∧
    (R_15 →
    R_16 0)) ∧
    (∀ (s0_16 : Int) , rg s0_16 → R_16 s0_16 →
    ((s0_16 = 0 ∨ s0_16 = 1) ∧ Q m s0_16)))
set_option maxRecDepth 20000 in
theorem br_296 {d : Nat} {m : Mm} {x0 : Int} {Q : Mm → Int → Prop} (r_x0 : rg x0) (H : P_296 d m x0 Q) : CK (d + 1) 296 [iv x0] m Q := by
  unfold P_296 at H
  refine CK_of rfl ?_
  show mm_W d mc_296 0 [some (iv x0)] [] (fm m) (XK Q)
  refine w_st (fun _ => rfl) ?_
  obtain ⟨R_16, H, HJ_16⟩ := H
  have tl_16 : ∀ (s0_16 : Int) , rg s0_16 → R_16 s0_16 → mm_W d mc_296 16 [some (iv x0)] [iv s0_16] (fm m) (XK Q) := by
    intro s0_16 r_s0_16 hR
    have H := HJ_16 s0_16 r_s0_16 hR
    exact f_zret rfl r_s0_16 H.1 H.2
  obtain ⟨R_15, H, HJ_15⟩ := H
  have tl_15 : R_15 → mm_W d mc_296 15 [some (iv x0)] [] (fm m) (XK Q) := by
    intro   hR
    have H := HJ_15   hR
    refine f_int 0 rfl rfl ?_
    exact tl_16 0 (by unfold rg; decide) H
  refine z_lt rfl r_x0 (fun hq => ?_) (fun hq => ?_)
  · replace H := H.1 hq
    exact tl_15   H
  · replace H := H.2 hq
    refine w_st (fun _ => rfl) ?_
    refine f_int 255 rfl rfl ?_
    refine b_gt rfl r_x0 (by unfold rg; decide) (fun hq => ?_) (fun hq => ?_)
    · replace H := H.1 hq
      exact tl_15   H
    · replace H := H.2 hq
      refine f_int 1 rfl rfl ?_
      refine w_st (fun _ => rfl) ?_
      exact tl_16 1 (by unfold rg; decide) H
/-- java/lang/StringLatin1.indexOf([BIII)I -/
def P_297 (d : Nat) (m : Mm) (x1 : Int) (x2 : Int) (x3 : Int) (Q : Mm → Int → Prop) : Prop :=
  CK d 296 [iv x1] m (fun m1 v1 =>
    ((¬ v1 = 0 → (∀ z2_14 : Int, z2_14 = (max x2 0) → (∀ z3_21 : Int, z3_21 = (min x3 9) → ((z2_14 < z3_21 → CK d 298 [.ref (1200 + 1), iv x1, iv z2_14, iv z3_21] m1 (fun m33 v33 =>
        Q m33 v33)) ∧
      (¬ z2_14 < z3_21 → Q m1 (-1)))))) ∧
    (v1 = 0 → Q m1 (-1))))
set_option maxRecDepth 20000 in
theorem br_297 {d : Nat} {m : Mm} {x1 : Int} {x2 : Int} {x3 : Int} {Q : Mm → Int → Prop} (r_x1 : rg x1) (r_x2 : rg x2) (r_x3 : rg x3) (H : P_297 d m x1 x2 x3 Q) : CK (d + 1) 297 [.ref (1200 + 1), iv x1, iv x2, iv x3] m Q := by
  unfold P_297 at H
  refine CK_of rfl ?_
  show mm_W d mc_297 0 [some (.ref (1200 + 1)), some (iv x1), some (iv x2), some (iv x3)] [] (fm m) (XK Q)
  refine w_st (fun _ => rfl) ?_
  refine k_SK (as := [iv x1]) rfl mg_297 rfl rfl rfl H (fun m1 v1 r_v1 H => ?_)
  refine z_ne rfl r_v1 (fun hq => ?_) (fun hq => ?_)
  · replace H := H.1 hq
    refine w_st (fun _ => rfl) ?_
    refine f_int 0 rfl rfl ?_
    refine f_max rfl r_x2 (by unfold rg; decide) rfl ?_
    obtain ⟨z2_14, e_z2_14⟩ : ∃ q : Int, q = (max x2 0) := ⟨_, rfl⟩
    have r_z2_14 : rg z2_14 := by rw [e_z2_14]; exact (mx_rg r_x2 (by unfold rg; decide))
    replace H := H z2_14 e_z2_14
    refine f_nm e_z2_14 ?_
    refine w_st (ls2 := [some (.ref (1200 + 1)), some (iv x1), some (iv z2_14), some (iv x3)]) (fun _ => rfl) ?_
    refine w_st (fun _ => rfl) ?_
    refine w_st (fun _ => rfl) ?_
    refine w_st (st2 := [iv 9, iv x3]) (fun _ => rfl) ?_
    refine f_min rfl r_x3 (by unfold rg; decide) rfl ?_
    obtain ⟨z3_21, e_z3_21⟩ : ∃ q : Int, q = (min x3 9) := ⟨_, rfl⟩
    have r_z3_21 : rg z3_21 := by rw [e_z3_21]; exact (mn_rg r_x3 (by unfold rg; decide))
    replace H := H z3_21 e_z3_21
    refine f_nm e_z3_21 ?_
    refine w_st (ls2 := [some (.ref (1200 + 1)), some (iv x1), some (iv z2_14), some (iv z3_21)]) (fun _ => rfl) ?_
    refine w_st (fun _ => rfl) ?_
    refine w_st (fun _ => rfl) ?_
    refine b_lt rfl r_z2_14 r_z3_21 (fun hq => ?_) (fun hq => ?_)
    · replace H := H.1 hq
      refine w_st (fun _ => rfl) ?_
      refine w_st (fun _ => rfl) ?_
      refine w_st (fun _ => rfl) ?_
      refine w_st (fun _ => rfl) ?_
      refine k_SK (as := [.ref (1200 + 1), iv x1, iv z2_14, iv z3_21]) rfl mg_297 rfl rfl rfl H (fun m33 v33 r_v33 H => ?_)
      exact f_iret rfl r_v33 H
    · replace H := H.2 hq
      refine f_int (-1) rfl rfl ?_
      exact f_iret rfl (by unfold rg; decide) H
  · replace H := H.2 hq
    refine f_int (-1) rfl rfl ?_
    exact f_iret rfl (by unfold rg; decide) H
/-- java/lang/StringLatin1.indexOfChar([BIII)I -/
def P_298 (d : Nat) (m : Mm) (x1 : Int) (x2 : Int) (x3 : Int) (Q : Mm → Int → Prop) : Prop :=
  (∀ z4_2 : Int, z4_2 = (nb x1) → (∃ (I_7 : Int → Prop) (mu_7 : Int → Nat), I_7 x2 ∧
    ∀ (x5_7 : Int) , rg x5_7 → I_7 x5_7 →
    ((x3 ≤ x5_7 → Q m (-1)) ∧
        (¬ x3 ≤ x5_7 → (((0 : Int) ≤ x5_7 ∧ x5_7 < 9) ∧ ((¬ (sy x5_7) = z4_2 → (∀ z5_25 : Int, z5_25 = wr (x5_7 + 1) → (I_7 z5_25 ∧ mu_7 z5_25 < mu_7 x5_7))) ∧
          ((sy x5_7) = z4_2 → Q m x5_7)))))))
set_option maxRecDepth 20000 in
theorem br_298 {d : Nat} {m : Mm} {x1 : Int} {x2 : Int} {x3 : Int} {Q : Mm → Int → Prop} (r_x1 : rg x1) (r_x2 : rg x2) (r_x3 : rg x3) (H : P_298 d m x1 x2 x3 Q) : CK (d + 1) 298 [.ref (1200 + 1), iv x1, iv x2, iv x3] m Q := by
  unfold P_298 at H
  refine CK_of rfl ?_
  show mm_W d mc_298 0 [some (.ref (1200 + 1)), some (iv x1), some (iv x2), some (iv x3), none, none] [] (fm m) (XK Q)
  refine w_st (fun _ => rfl) ?_
  refine f_nbI rfl ?_
  obtain ⟨z4_2, e_z4_2⟩ : ∃ q : Int, q = (nb x1) := ⟨_, rfl⟩
  have r_z4_2 : rg z4_2 := by rw [e_z4_2]; exact (nb_rg _)
  replace H := H z4_2 e_z4_2
  refine f_nm e_z4_2 ?_
  refine w_st (ls2 := [some (.ref (1200 + 1)), some (iv x1), some (iv x2), some (iv x3), some (iv z4_2), none]) (fun _ => rfl) ?_
  refine w_st (fun _ => rfl) ?_
  refine w_st (ls2 := [some (.ref (1200 + 1)), some (iv x1), some (iv x2), some (iv x3), some (iv z4_2), some (iv x2)]) (fun _ => rfl) ?_
  obtain ⟨I_7, mu_7, H0_7, HB_7⟩ := H
  have lp_7 : ∀ (z : Nat) (x5_7 : Int) , mu_7 x5_7 < z → rg x5_7 → I_7 x5_7 → mm_W d mc_298 7 [some (.ref (1200 + 1)), some (iv x1), some (iv x2), some (iv x3), some (iv z4_2), some (iv x5_7)] [] (fm m) (XK Q) := by
    intro z
    induction z with
    | zero => intro x5_7 hz; exact absurd hz (Nat.not_lt_zero _)
    | succ z ih_7 =>
      intro x5_7 hz_7 r_x5_7 hI
      have H := HB_7 x5_7 r_x5_7 hI
      refine w_st (fun _ => rfl) ?_
      refine w_st (fun _ => rfl) ?_
      refine b_ge rfl r_x5_7 r_x3 (fun hq => ?_) (fun hq => ?_)
      · replace H := H.1 hq
        refine f_int (-1) rfl rfl ?_
        exact f_iret rfl (by unfold rg; decide) H
      · replace H := H.2 hq
        refine w_st (fun _ => rfl) ?_
        refine w_st (fun _ => rfl) ?_
        refine f_xbl rfl H.1 ?_
        replace H := H.2
        refine w_st (fun _ => rfl) ?_
        refine b_ne rfl (sy_rg _) r_z4_2 (fun hq => ?_) (fun hq => ?_)
        · replace H := H.1 hq
          obtain ⟨z5_25, e_z5_25⟩ : ∃ q : Int, q = wr (x5_7 + 1) := ⟨_, rfl⟩
          have r_z5_25 : rg z5_25 := by rw [e_z5_25]; exact wr_rg _
          replace H := H z5_25 e_z5_25
          refine f_iinc (ls2 := [some (.ref (1200 + 1)), some (iv x1), some (iv x2), some (iv x3), some (iv z4_2), some (iv z5_25)]) 1 rfl rfl rfl e_z5_25 rfl ?_
          refine w_st (fun _ => rfl) ?_
          exact ih_7 z5_25 (Nat.lt_of_lt_of_le H.2 (Nat.le_of_lt_succ hz_7)) r_z5_25 H.1
        · replace H := H.2 hq
          refine w_st (fun _ => rfl) ?_
          exact f_iret rfl r_x5_7 H
  exact lp_7 _ x2 (Nat.lt_succ_self _) r_x2 H0_7
/-- java/util/Arrays.fill([II)V -/
def P_299 (d : Nat) (m : Mm) (b n : Nat) (x1 : Int) (Q : Mm → Prop) : Prop :=
  (∀ z3_4 : Int, z3_4 = (n : Int) → (∃ (I_5 : Int → Mm → Prop) (mu_5 : Int → Mm → Nat), I_5 0 m ∧
    ∀ (x2_5 : Int) (m_5 : Mm), rg x2_5 → I_5 x2_5 m_5 →
    ((z3_4 ≤ x2_5 → Q m_5) ∧
        (¬ z3_4 ≤ x2_5 → (((0 : Int) ≤ x2_5 ∧ x2_5 < n) ∧ (∀ m13 : Mm, m13 = wt m_5 b (Int.toNat x2_5) x1 → (∀ z2_14 : Int, z2_14 = wr (x2_5 + 1) → (I_5 z2_14 m13 ∧ mu_5 z2_14 m13 < mu_5 x2_5 m_5))))))))
set_option maxRecDepth 20000 in
theorem br_299 {d : Nat} {m : Mm} {b n : Nat} {x1 : Int} {Q : Mm → Prop} (h_b : isR n b) (r_x1 : rg x1) (H : P_299 d m b n x1 Q) : CV (d + 1) 299 [.ref b, iv x1] m Q := by
  unfold P_299 at H
  refine CV_of rfl ?_
  show mm_W d mc_299 0 [some (.ref b), some (iv x1), none, none] [] (fm m) (XV Q)
  refine f_int 0 rfl rfl ?_
  refine w_st (ls2 := [some (.ref b), some (iv x1), some (iv 0), none]) (fun _ => rfl) ?_
  refine w_st (fun _ => rfl) ?_
  refine f_len h_b rfl ?_
  obtain ⟨z3_4, e_z3_4⟩ : ∃ q : Int, q = (n : Int) := ⟨_, rfl⟩
  have r_z3_4 : rg z3_4 := by rw [e_z3_4]; exact (isR_rg h_b)
  replace H := H z3_4 e_z3_4
  refine f_nm e_z3_4 ?_
  refine w_st (ls2 := [some (.ref b), some (iv x1), some (iv 0), some (iv z3_4)]) (fun _ => rfl) ?_
  obtain ⟨I_5, mu_5, H0_5, HB_5⟩ := H
  have lp_5 : ∀ (z : Nat) (x2_5 : Int) (m_5 : Mm), mu_5 x2_5 m_5 < z → rg x2_5 → I_5 x2_5 m_5 → mm_W d mc_299 5 [some (.ref b), some (iv x1), some (iv x2_5), some (iv z3_4)] [] (fm m_5) (XV Q) := by
    intro z
    induction z with
    | zero => intro x2_5 m_5 hz; exact absurd hz (Nat.not_lt_zero _)
    | succ z ih_5 =>
      intro x2_5 m_5 hz_5 r_x2_5 hI
      have H := HB_5 x2_5 m_5 r_x2_5 hI
      refine w_st (fun _ => rfl) ?_
      refine w_st (fun _ => rfl) ?_
      refine b_ge rfl r_x2_5 r_z3_4 (fun hq => ?_) (fun hq => ?_)
      · replace H := H.1 hq
        exact f_ret rfl H
      · replace H := H.2 hq
        refine w_st (fun _ => rfl) ?_
        refine w_st (fun _ => rfl) ?_
        refine w_st (fun _ => rfl) ?_
        obtain ⟨m13, e_m13⟩ : ∃ q : Mm, q = wt m_5 b (Int.toNat x2_5) x1 := ⟨_, rfl⟩
        refine f_st h_b rfl H.1 e_m13 ?_
        replace H := H.2 m13 e_m13
        obtain ⟨z2_14, e_z2_14⟩ : ∃ q : Int, q = wr (x2_5 + 1) := ⟨_, rfl⟩
        have r_z2_14 : rg z2_14 := by rw [e_z2_14]; exact wr_rg _
        replace H := H z2_14 e_z2_14
        refine f_iinc (ls2 := [some (.ref b), some (iv x1), some (iv z2_14), some (iv z3_4)]) 1 rfl rfl rfl e_z2_14 rfl ?_
        refine w_st (fun _ => rfl) ?_
        exact ih_5 z2_14 m13 (Nat.lt_of_lt_of_le H.2 (Nat.le_of_lt_succ hz_5)) r_z2_14 H.1
  exact lp_5 _ 0 m (Nat.lt_succ_self _) (by unfold rg; decide) H0_5
