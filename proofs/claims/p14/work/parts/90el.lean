theorem go_M {m0 m m2 : Mm} {A : Ab} {x1 : Int} (y : YM m A.Y A.E A.r ∧ mA m A) (h0 : mA m0 A) (cp : cpR m0 m) (l : 0 ≤ rd m 284 18 ∧ rd m 284 18 ≤ 1) (hx : 0 ≤ x1 ∧ x1 ≤ 60) (g : GX sR m m2) (q : ∀ Y E r, YM m Y E r → YM m2 Y E (goN Y E (rd m 284 58) r (Int.toNat x1))) : ((¬ (0 ≤ x1 ∧ x1 ≤ 60) ∧ rd m2 323 50 = -1) ∨ ((0 ≤ x1 ∧ x1 ≤ 60) ∧ rd m2 323 50 = goN A.Y A.E (A.Y 4) A.r (Int.toNat x1) 50)) ∧ mA m2 A := by
  have e58 : rd m 284 58 = A.Y 4 := cp.2.1.trans h0.1.1.2.2.2.2
  have t := q A.Y A.E A.r y.1
  rw [e58] at t
  exact ⟨Or.inr ⟨hx, t.2.1 50 (by omega)⟩, mA_sR y.2 l g⟩
theorem go_F {m0 m m2 : Mm} {A : Ab} {x1 x2 v : Int} (y : YM m A.Y A.E A.r ∧ mA m A) (h0 : mA m0 A) (cp : cpR m0 m) (l : 0 ≤ rd m 284 18 ∧ rd m 284 18 ≤ 1) (p : pFm m0 v x1) (z : ¬ v = 0) (hx : 0 ≤ x2 ∧ x2 ≤ 60) (g : GX sR m m2) (q : ∀ Y E r, YM m Y E r → YM m2 Y E (goN Y E (rd m 284 58) r (Int.toNat x2))) : ((¬ ((0 ≤ x1 ∧ x1 < A.Y 0 * A.Y 1) ∧ 0 ≤ x2 ∧ x2 ≤ 60) ∧ rd m2 323 (Int.toNat x1) = -1) ∨ (((0 ≤ x1 ∧ x1 < A.Y 0 * A.Y 1) ∧ 0 ≤ x2 ∧ x2 ≤ 60) ∧ rd m2 323 (Int.toNat x1) = goN A.Y A.E (A.Y 4) A.r (Int.toNat x2) (Int.toNat x1))) ∧ mA m2 A := by
  have e58 : rd m 284 58 = A.Y 4 := cp.2.1.trans h0.1.1.2.2.2.2
  have t := q A.Y A.E A.r y.1
  rw [e58] at t
  have b := wh_b y.1.2.2.1.1 y.1.2.2.1.2.1
  have h1 := fl_Mx h0 p z
  exact ⟨Or.inr ⟨⟨h1, hx⟩, t.2.1 _ (by omega)⟩, mA_sR y.2 l g⟩
theorem go_Fn {m m15 : Mm} {A : Ab} {x1 x2 w : Int} (h : mA m A) (e : m15 = m) (c : ¬ (0 ≤ x1 ∧ x1 < rd m 293 (Int.toNat (rd m 284 18)) * rd m 294 (Int.toNat (rd m 284 18))) ∨ ¬ (0 ≤ x2 ∧ x2 ≤ 60)) : ((¬ ((0 ≤ x1 ∧ x1 < A.Y 0 * A.Y 1) ∧ 0 ≤ x2 ∧ x2 ≤ 60) ∧ (-1 : Int) = -1) ∨ (((0 ≤ x1 ∧ x1 < A.Y 0 * A.Y 1) ∧ 0 ≤ x2 ∧ x2 ≤ 60) ∧ (-1 : Int) = w)) ∧ mA m15 A := by
  subst e
  rw [h.1.1.1, h.1.1.2.1] at c
  exact ⟨Or.inl ⟨by omega, rfl⟩, h⟩
-- TippedCratesModel.paidIn(I)I
set_option maxRecDepth 20000 in
theorem mz_275 {m0 m : Mm} {x1 : Int}  (g_m : G m0 m) (r_x1 : rg x1) (p0 : MW m0) (p1 : lawsM m0) : CK 9 275 [.ref 284, iv x1] m (fun m2 v => G m0 m2 ∧ ((True) ∧ (∀ A, okY A.Y → okR A.Y A.r → A.n ≤ 40 → mA m A → ((¬ (0 ≤ x1 ∧ x1 ≤ 60) ∧ v = -1) ∨ ((0 ≤ x1 ∧ x1 ≤ 60) ∧ v = goN A.Y A.E (A.Y 4) A.r (Int.toNat x1) 50)) ∧ mA m2 A))) := by
  refine br_275 r_x1 ?_
  unfold P_275
  refine CK.mono (ct_243   r_x1) (by decide) ?_
  rintro m1 v1 r_v1 ⟨e_m1, h_m1⟩
  replace e_m1 := e_m1.symm
  subst e_m1
  refine ⟨fun hq => ?_, fun hq => ?_⟩
  · skip
    refine CV.mono (mz_216   g_m.1) (by decide) ?_
    rintro m10 ⟨hx_m10, h_m10⟩
    have g_m10 : G m0 m10 := gx_in g_m hx_m10 in_sC_scr
    refine CV.mono (mz_235   g_m10.1 r_x1 (MW_G p0 g_m10) (laws_G p1 g_m10) (by omega)) (by decide) ?_
    rintro m15 ⟨hx_m15, h_m15⟩
    have g_m15 : G m0 m15 := gx_in g_m10 hx_m15 in_sR_scr
    have t1 := tr_323 g_m15.1 50
    exact ⟨g_m15, by exact ⟨by first | trivial | omega | (refine ⟨?_, ?_⟩ <;> omega), by first | (have u := h_m15; exact fun A oY oR _ h => go_M (mA_cp h oY oR (ty_284_18 g_m.1) h_m10.2) h h_m10.2 (ty_284_18 g_m10.1) (by omega) hx_m15 h_m15.2) | exact fun A _ _ _ h => ⟨Or.inl ⟨by omega, rfl⟩, h⟩⟩⟩
  · skip
    exact ⟨g_m, by exact ⟨by first | trivial | omega | (refine ⟨?_, ?_⟩ <;> omega), by first | (have u := h_m15; exact fun A oY oR _ h => go_M (mA_cp h oY oR (ty_284_18 g_m.1) h_m10.2) h h_m10.2 (ty_284_18 g_m10.1) (by omega) hx_m15 h_m15.2) | exact fun A _ _ _ h => ⟨Or.inl ⟨by omega, rfl⟩, h⟩⟩⟩
-- TippedCratesModel.flagIn(II)I
set_option maxRecDepth 20000 in
theorem mz_274 {m0 m : Mm} {x1 : Int} {x2 : Int}  (g_m : G m0 m) (r_x1 : rg x1) (r_x2 : rg x2) (p0 : MW m0) (p1 : lawsM m0) : CK 9 274 [.ref 284, iv x1, iv x2] m (fun m2 v => G m0 m2 ∧ ((True) ∧ (∀ A, okY A.Y → okR A.Y A.r → A.n ≤ 40 → mA m A → ((¬ ((0 ≤ x1 ∧ x1 < A.Y 0 * A.Y 1) ∧ 0 ≤ x2 ∧ x2 ≤ 60) ∧ v = -1) ∨ (((0 ≤ x1 ∧ x1 < A.Y 0 * A.Y 1) ∧ 0 ≤ x2 ∧ x2 ≤ 60) ∧ v = goN A.Y A.E (A.Y 4) A.r (Int.toNat x2) (Int.toNat x1))) ∧ mA m2 A))) := by
  refine br_274 r_x1 r_x2 ?_
  unfold P_274
  refine CK.mono (mz_209   g_m.1 r_x1 (MW_G p0 g_m)) (by decide) ?_
  rintro m2 v2 r_v2 ⟨e_m2, h_m2⟩
  replace e_m2 := e_m2.symm
  subst e_m2
  refine ⟨fun m_15 => G m0 m_15 ∧ (m_15 = m ∧ (¬ (0 ≤ x1 ∧ x1 < rd m 293 (Int.toNat (rd m 284 18)) * rd m 294 (Int.toNat (rd m 284 18))) ∨ ¬ (0 ≤ x2 ∧ x2 ≤ 60))), ?_, ?_⟩
  · skip
    refine ⟨fun hq => ?_, fun hq => ?_⟩
    · skip
      exact ⟨g_m, by exact ⟨rfl, by omega⟩⟩
    · skip
      refine CK.mono (ct_243   r_x2) (by decide) ?_
      rintro m9 v9 r_v9 ⟨e_m9, h_m9⟩
      replace e_m9 := e_m9.symm
      subst e_m9
      refine ⟨fun hq => ?_, fun hq => ?_⟩
      · skip
        refine CV.mono (mz_216   g_m.1) (by decide) ?_
        rintro m18 ⟨hx_m18, h_m18⟩
        have g_m18 : G m0 m18 := gx_in g_m hx_m18 in_sC_scr
        refine CV.mono (mz_235   g_m18.1 r_x2 (MW_G p0 g_m18) (laws_G p1 g_m18) (by omega)) (by decide) ?_
        rintro m23 ⟨hx_m23, h_m23⟩
        have g_m23 : G m0 m23 := gx_in g_m18 hx_m23 in_sR_scr
        refine ⟨⟨by omega, by omega⟩, ?_⟩
        have t1 := tr_323 g_m23.1 (Int.toNat x1)
        exact ⟨g_m23, by exact ⟨by first | trivial | omega | (refine ⟨?_, ?_⟩ <;> omega), by first | (have u := h_m23; exact fun A oY oR _ h => go_F (mA_cp h oY oR (ty_284_18 g_m.1) h_m18.2) h h_m18.2 (ty_284_18 g_m18.1) h_m2.2 (by omega) (by omega) hx_m23 h_m23.2) | exact fun A _ _ _ h => go_Fn h hR_15.1 hR_15.2⟩⟩
      · skip
        exact ⟨g_m, by exact ⟨rfl, by omega⟩⟩
  · intro m_15  hR_15
    obtain ⟨g_m_15, hR_15⟩ := hR_15
    exact ⟨g_m_15, by exact ⟨by first | trivial | omega | (refine ⟨?_, ?_⟩ <;> omega), by first | (have u := h_m23; exact fun A oY oR _ h => go_F (mA_cp h oY oR (ty_284_18 g_m.1) h_m18.2) h h_m18.2 (ty_284_18 g_m18.1) h_m2.2 (by omega) (by omega) hx_m23 h_m23.2) | exact fun A _ _ _ h => go_Fn h hR_15.1 hR_15.2⟩⟩
