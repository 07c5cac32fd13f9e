theorem lsE_A {m m2 : Mm} (h : ∃ E, LSd m 11 E) (g : GX (sA 279) m m2) : ∃ E, LSd m2 11 E := by
  obtain ⟨E, h⟩ := h
  exact ⟨E, ls_fr h (g.2.1 11 4 (sA_no (by omega))) (fun j => g.2.1 13 j (sA_no (by omega))) (fun j => g.2.1 14 j (sA_no (by omega)))⟩
theorem fo_C {m m8 m21 : Mm} {A : Ab} {x1 x2 : Int} (h : cA m A) (g : GX (sA 279) m m8) (e : stEq m8 279 m 274) (g2 : GX (sT 279) m8 m21) (q : ∀ Y E r, YS m8 279 Y E r → YS m21 279 Y E (goN Y E x2 r (Int.toNat x1))) : cA m21 A ∧ stC m21 279 A.Y (goN A.Y A.E x2 A.r (Int.toNat x1)) := by
  have h8 : cA m8 A := cA_fr h (fun i j q => g.2.1 i j (sA_no (by unfold cAr at q; omega)))
  have s8 := stC_eq h.2.2.1.2 e h.2.1.2.2.2
  have y := q A.Y A.E A.r ⟨h8.1, s8, h.2.1, h.2.2.1.1⟩
  exact ⟨cA_fr h8 (fun i j q => g2.2.1 i j (sT_no (by unfold cAr at q; omega) (by unfold cAr at q; omega) (by unfold cAr at q; omega))), y.2.1⟩
theorem fo_P {m m21 : Mm} {A : Ab} {x1 : Int} (h : cA m A) (hx : 0 ≤ x1 ∧ x1 ≤ 60) (q : cA m21 A ∧ stC m21 279 A.Y (goN A.Y A.E (rd m 7 2) A.r (Int.toNat x1))) : ((¬ (0 ≤ x1 ∧ x1 ≤ 60) ∧ rd m21 279 6 = -1) ∨ ((0 ≤ x1 ∧ x1 ≤ 60) ∧ rd m21 279 6 = goN A.Y A.E (A.Y 4) A.r (Int.toNat x1) 50)) ∧ cA m21 A := by
  have e4 : rd m 7 2 = A.Y 4 := h.1.1.2.2.2.2
  rw [e4] at q
  exact ⟨Or.inr ⟨hx, q.2.2.2.2.2.2.2⟩, q.1⟩
theorem fo_F {m m29 : Mm} {A : Ab} {x1 x2 v : Int} (h : cA m A) (p : pFl m v x1) (z : ¬ v = 0) (hx : 0 ≤ x2 ∧ x2 ≤ 60) (q : cA m29 A ∧ stC m29 279 A.Y (goN A.Y A.E (rd m 7 2) A.r (Int.toNat x2))) : ((¬ ((0 ≤ x1 ∧ x1 < A.Y 0 * A.Y 1) ∧ 0 ≤ x2 ∧ x2 ≤ 60) ∧ rd m29 280 (Int.toNat x1) = -1) ∨ (((0 ≤ x1 ∧ x1 < A.Y 0 * A.Y 1) ∧ 0 ≤ x2 ∧ x2 ≤ 60) ∧ rd m29 280 (Int.toNat x1) = goN A.Y A.E (A.Y 4) A.r (Int.toNat x2) (Int.toNat x1))) ∧ cA m29 A := by
  have e4 : rd m 7 2 = A.Y 4 := h.1.1.2.2.2.2
  rw [e4] at q
  have b := wh_b h.2.1.1 h.2.1.2.1
  have h1 := fl_Cx h p z
  exact ⟨Or.inr ⟨⟨h1, hx⟩, q.2.2.1 _ (by omega)⟩, q.1⟩
theorem fo_Fn {m m18 : Mm} {A : Ab} {x1 x2 w : Int} (h : cA m A) (e : m18 = m) (c : ¬ (0 ≤ x1 ∧ x1 ≤ rd m 7 0 * rd m 7 1 - 1) ∨ ¬ (0 ≤ x2 ∧ x2 ≤ 60)) : ((¬ ((0 ≤ x1 ∧ x1 < A.Y 0 * A.Y 1) ∧ 0 ≤ x2 ∧ x2 ≤ 60) ∧ (-1 : Int) = -1) ∨ (((0 ≤ x1 ∧ x1 < A.Y 0 * A.Y 1) ∧ 0 ≤ x2 ∧ x2 ≤ 60) ∧ (-1 : Int) = w)) ∧ cA m18 A := by
  subst e
  rw [h.1.1.1, h.1.1.2.1] at c
  exact ⟨Or.inl ⟨by omega, rfl⟩, h⟩
-- TippedCrates.foresee(II)V
set_option maxRecDepth 20000 in
theorem ey_160 {m0 m : Mm} {x1 : Int} {x2 : Int}  (g_m : G m0 m) (r_x1 : rg x1) (r_x2 : rg x2) (p0 : okS m 274) (p1 : lwOk m0 11) (p2 : x1 ≤ 60) (p3 : ∃ E, LSd m 11 E) : CV 7 160 [.ref 0, iv x1, iv x2] m (fun m2 => G m0 m2 ∧ ((True) ∧ (∀ A, cA m A → cA m2 A ∧ stC m2 279 A.Y (goN A.Y A.E x2 A.r (Int.toNat x1))))) := by
  refine br_160 r_x1 r_x2 ?_
  unfold P_160
  have ok := p0
  have t4 := ty_s4 g_m.1 st_274
  refine CV.mono (ct_76   g_m.1 st_279 st_274) (by decide) ?_
  rintro m8 ⟨hx_m8, h_m8⟩
  have g_m8 : G m0 m8 := gx_in g_m hx_m8 (in_sA279 )
  have o8 : okC m8 279 := okC_st h_m8 ok.2 t4.2
  have l8 : lwOk m8 11 := lwOk_G p1 g_m8
  refine CV.mono (ey_8   g_m8.1 st_279 r_x1 r_x2 o8 l8 (by omega) (lsE_A p3 hx_m8)) (by decide) ?_
  rintro m21 ⟨hx_m21, h_m21⟩
  have g_m21 : G m0 m21 := gx_in g_m8 hx_m21 in_sT279
  exact ⟨g_m21, by exact ⟨by first | trivial | omega | (refine ⟨?_, ?_⟩ <;> omega), by exact fun A h => fo_C h hx_m8 h_m8 hx_m21 h_m21.2⟩⟩
-- TippedCrates.paidIn(I)I
set_option maxRecDepth 20000 in
theorem ey_149 {m0 m : Mm} {x1 : Int}  (g_m : G m0 m) (r_x1 : rg x1) (p0 : okS m 274) (p1 : lwOk m0 11) (p2 : ∃ E, LSd m 11 E) : CK 8 149 [.ref 0, iv x1] m (fun m2 v => G m0 m2 ∧ ((True) ∧ (∀ A, cA m A → ((¬ (0 ≤ x1 ∧ x1 ≤ 60) ∧ v = -1) ∨ ((0 ≤ x1 ∧ x1 ≤ 60) ∧ v = goN A.Y A.E (A.Y 4) A.r (Int.toNat x1) 50)) ∧ cA m2 A))) := by
  refine br_149 r_x1 ?_
  unfold P_149
  refine CK.mono (ct_166   r_x1 (by unfold rg; decide) (by unfold rg; decide)) (by decide) ?_
  rintro m4 v4 r_v4 ⟨e_m4, h_m4⟩
  replace e_m4 := e_m4.symm
  subst e_m4
  refine ⟨fun hq => ?_, fun hq => ?_⟩
  · skip
    refine CV.mono (ey_160   g_m r_x1 (rd_rg _ _ _) p0 p1 (by omega) p2) (by decide) ?_
    rintro m21 ⟨g_m21, h_m21⟩
    exact ⟨g_m21, by exact ⟨by first | trivial | omega | (refine ⟨?_, ?_⟩ <;> omega), by first | (have u := h_m21; exact fun A h => fo_P h (by omega) (h_m21.2 A h)) | exact fun A h => ⟨Or.inl ⟨by omega, rfl⟩, h⟩⟩⟩
  · skip
    exact ⟨g_m, by exact ⟨by first | trivial | omega | (refine ⟨?_, ?_⟩ <;> omega), by first | (have u := h_m21; exact fun A h => fo_P h (by omega) (h_m21.2 A h)) | exact fun A h => ⟨Or.inl ⟨by omega, rfl⟩, h⟩⟩⟩
-- TippedCrates.flagIn(II)I
set_option maxRecDepth 20000 in
theorem ey_148 {m0 m : Mm} {x1 : Int} {x2 : Int}  (g_m : G m0 m) (r_x1 : rg x1) (r_x2 : rg x2) (p0 : okS m 274) (p1 : lwOk m0 11) (p2 : ∃ E, LSd m 11 E) : CK 8 148 [.ref 0, iv x1, iv x2] m (fun m2 v => G m0 m2 ∧ ((True) ∧ (∀ A, cA m A → ((¬ ((0 ≤ x1 ∧ x1 < A.Y 0 * A.Y 1) ∧ 0 ≤ x2 ∧ x2 ≤ 60) ∧ v = -1) ∨ (((0 ≤ x1 ∧ x1 < A.Y 0 * A.Y 1) ∧ 0 ≤ x2 ∧ x2 ≤ 60) ∧ v = goN A.Y A.E (A.Y 4) A.r (Int.toNat x2) (Int.toNat x1))) ∧ cA m2 A))) := by
  refine br_148 r_x1 r_x2 ?_
  unfold P_148
  have wb := wh_b (ty_7_0 g_m.1) (ty_7_1 g_m.1)
  refine CK.mono (ct_163   g_m.1 r_x1) (by decide) ?_
  rintro m2 v2 r_v2 ⟨e_m2, h_m2⟩
  replace e_m2 := e_m2.symm
  subst e_m2
  refine ⟨fun m_18 => G m0 m_18 ∧ (m_18 = m ∧ (¬ (0 ≤ x1 ∧ x1 ≤ rd m 7 0 * rd m 7 1 - 1) ∨ ¬ (0 ≤ x2 ∧ x2 ≤ 60))), ?_, ?_⟩
  · skip
    refine ⟨fun hq => ?_, fun hq => ?_⟩
    · skip
      exact ⟨g_m, by exact ⟨rfl, by omega⟩⟩
    · skip
      refine CK.mono (ct_166   r_x2 (by unfold rg; decide) (by unfold rg; decide)) (by decide) ?_
      rintro m12 v12 r_v12 ⟨e_m12, h_m12⟩
      replace e_m12 := e_m12.symm
      subst e_m12
      refine ⟨fun hq => ?_, fun hq => ?_⟩
      · skip
        refine CV.mono (ey_160   g_m r_x2 (rd_rg _ _ _) p0 p1 (by omega) p2) (by decide) ?_
        rintro m29 ⟨g_m29, h_m29⟩
        refine ⟨⟨by omega, by omega⟩, ?_⟩
        have t2 := ty_sM g_m29.1 st_279 (Int.toNat x1)
        exact ⟨g_m29, by exact ⟨by first | trivial | omega | (refine ⟨?_, ?_⟩ <;> omega), by first | (have u := h_m29; exact fun A h => fo_F h h_m2 (by omega) (by omega) (h_m29.2 A h)) | exact fun A h => fo_Fn h hR_18.1 hR_18.2⟩⟩
      · skip
        exact ⟨g_m, by exact ⟨rfl, by omega⟩⟩
  · intro m_18  hR_18
    obtain ⟨g_m_18, hR_18⟩ := hR_18
    exact ⟨g_m_18, by exact ⟨by first | trivial | omega | (refine ⟨?_, ?_⟩ <;> omega), by first | (have u := h_m29; exact fun A h => fo_F h h_m2 (by omega) (by omega) (h_m29.2 A h)) | exact fun A h => fo_Fn h hR_18.1 hR_18.2⟩⟩
