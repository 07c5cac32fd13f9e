abbrev pFm (m : Mm) (v x1 : Int) : Prop := (v = 1 ∧ 0 ≤ x1 ∧ x1 < rd m 293 (Int.toNat (rd m 284 18)) * rd m 294 (Int.toNat (rd m 284 18))) ∨ (v = 0 ∧ ¬ (0 ≤ x1 ∧ x1 < rd m 293 (Int.toNat (rd m 284 18)) * rd m 294 (Int.toNat (rd m 284 18))))
theorem fl_Mx {m : Mm} {A : Ab} {x1 v : Int} (h : mA m A) (p : pFm m v x1) (z : ¬ v = 0) : 0 ≤ x1 ∧ x1 < A.Y 0 * A.Y 1 := by
  unfold pFm at p
  rw [h.1.1.1, h.1.1.2.1] at p
  omega
theorem fl_Mf {m : Mm} {A : Ab} {x1 x2 v : Int} (h : mA m A) (p : pFm m v x1) (z : v = 0) : flgP A x1 x2 (-1) ∧ mA m A := by
  refine ⟨?_, h⟩
  unfold pFm at p
  rw [h.1.1.1, h.1.1.2.1] at p
  exact Or.inl ⟨by omega, rfl⟩
theorem fl_Mn {m m1 : Mm} {A : Ab} {x1 x2 v : Int} (y : YM m1 A.Y A.E A.r ∧ mA m1 A) (h : mA m A) (p : pFm m v x1) (z : ¬ v = 0) (k : x2 < 0 ∨ 2 < x2) : flgP A x1 x2 (-1) ∧ mA m1 A := ⟨Or.inr ⟨fl_Mx h p z, Or.inr (Or.inr (Or.inr ⟨k, rfl⟩))⟩, y.2⟩
theorem fl_M0 {m m1 : Mm} {A : Ab} {x1 x2 v : Int} (y : YM m1 A.Y A.E A.r ∧ mA m1 A) (h : mA m A) (p : pFm m v x1) (z : ¬ v = 0) (k : x2 = 0) : flgP A x1 x2 (rd m1 323 (Int.toNat x1)) ∧ mA m1 A := by
  have b := wh_b y.1.2.2.1.1 y.1.2.2.1.2.1
  have hx := fl_Mx h p z
  exact ⟨Or.inr ⟨hx, Or.inl ⟨k, y.1.2.1 _ (by omega)⟩⟩, y.2⟩
theorem fl_M1 {m m1 : Mm} {A : Ab} {x1 x2 v w s : Int} (y : YM m1 A.Y A.E A.r ∧ mA m1 A) (h : mA m A) (p : pFm m v x1) (z : ¬ v = 0) (k : x2 = 1) (q : (w = 1 ∧ anI (srI (rd m1 284 59) x1) 1 = 1) ∨ (w = 0 ∧ ¬ anI (srI (rd m1 284 59) x1) 1 = 1)) (e : (s = 1 ∧ ¬ w = 0) ∨ (s = 0 ∧ w = 0)) : flgP A x1 x2 s ∧ mA m1 A := by
  rw [y.1.1.1.2.2.1] at q
  exact ⟨Or.inr ⟨fl_Mx h p z, Or.inr (Or.inl ⟨k, by omega⟩)⟩, y.2⟩
theorem fl_M2 {m m1 : Mm} {A : Ab} {x1 x2 v w : Int} (y : YM m1 A.Y A.E A.r ∧ mA m1 A) (h : mA m A) (p : pFm m v x1) (z : ¬ v = 0) (k : x2 = 2) (q : (w < 0 ∧ ∀ o : Int, 0 ≤ o → o < rd m1 302 (Int.toNat (rd m1 284 18)) → ¬ rd m1 323 (Int.toNat (43 + o)) = x1) ∨ ((0 ≤ w ∧ w < rd m1 302 (Int.toNat (rd m1 284 18))) ∧ rd m1 323 (Int.toNat (43 + w)) = x1)) (t : (w < 0 → w = -2) ∧ (0 ≤ w → ∀ o : Int, 0 ≤ o → o < w → ¬ rd m1 323 (Int.toNat (43 + o)) = x1)) : flgP A x1 x2 w ∧ mA m1 A := by
  have e3 := y.1.1.1.2.2.2.1
  have y3 := y.1.2.2.1.2.2
  rw [e3] at q
  refine ⟨Or.inr ⟨fl_Mx h p z, Or.inr (Or.inr (Or.inl ⟨k, ?_⟩))⟩, y.2⟩
  rcases q with ⟨a, b⟩ | ⟨a, b⟩
  · exact Or.inr ⟨t.1 a, fun o h0 h1 w => b o h0 h1 ((y.1.2.1 _ (by omega)).trans w)⟩
  · exact Or.inl ⟨a.1, a.2, (y.1.2.1 _ (by omega)).symm.trans b, fun o h0 h1 w => t.2 a.1 o h0 h1 ((y.1.2.1 _ (by omega)).trans w)⟩
/-- what is asked of a crate -/
def crqA (A : Ab) (x1 x2 : Int) : Int := if (0 ≤ x1 ∧ x1 < A.Y 3) ∧ 0 ≤ x2 ∧ x2 ≤ 7 then (if x2 = 7 then A.r (Int.toNat (46 + x1)) else if x2 = 6 then fC A.r x1 else A.r (Int.toNat (25 + 6 * x1 + x2))) else -1
abbrev pCra (m : Mm) (v x1 : Int) : Prop := (v = 1 ∧ 0 ≤ x1 ∧ x1 ≤ rd m 7 3 - 1) ∨ (v = 0 ∧ (x1 < 0 ∨ rd m 7 3 - 1 < x1))
theorem cq_Cn {m : Mm} {A : Ab} {x1 x2 v : Int} (h : cA m A) (p : pCra m v x1) (z : v = 0) : (-1 : Int) = crqA A x1 x2 := by
  unfold pCra at p
  rw [h.1.1.2.2.2.1] at p
  unfold crqA
  rw [if_neg (by omega)]
theorem cq_C6 {m : Mm} {A : Ab} {x1 x2 v : Int} (h : cA m A) (p : pCra m v x1) (z : ¬ v = 0) (k : x2 = 6) : rd m 276 (Int.toNat x1) = crqA A x1 x2 := by
  unfold pCra at p
  rw [h.1.1.2.2.2.1] at p
  unfold crqA
  rw [if_pos (by omega), if_neg (by omega), if_pos k]
  exact h.2.2.1.2.2.2.1 x1 (by omega) (by omega)
theorem cq_C7 {m : Mm} {A : Ab} {x1 x2 v : Int} (h : cA m A) (p : pCra m v x1) (z : ¬ v = 0) (k : x2 = 7) : rd m 278 (Int.toNat x1) = crqA A x1 x2 := by
  have y3 := h.2.1.2.2
  unfold pCra at p
  rw [h.1.1.2.2.2.1] at p
  unfold crqA
  rw [if_pos (by omega), if_pos k]
  exact h.2.2.1.2.2.2.2.2.1 x1 (by omega) (by omega)
theorem cq_C {m : Mm} {A : Ab} {x1 x2 v w s : Int} (h : cA m A) (p : pCra m v x1) (z : ¬ v = 0) (n6 : ¬ x2 = 6) (n7 : ¬ x2 = 7) (q : (w = 1 ∧ 0 ≤ x2 ∧ x2 ≤ 5) ∨ (w = 0 ∧ (x2 < 0 ∨ 5 < x2))) (e : (w = 0 ∧ s = -1) ∨ (¬ w = 0 ∧ s = rd m 277 (Int.toNat (wr ((wr (x1 * 6)) + x2))))) : s = crqA A x1 x2 := by
  have y3 := h.2.1.2.2
  unfold pCra at p
  rw [h.1.1.2.2.2.1] at p
  unfold crqA
  rcases e with ⟨a, b⟩ | ⟨a, b⟩
  · rw [if_neg (by omega)]; exact b
  · rw [if_pos (by omega), if_neg n7, if_neg n6, b, wr_id (x := x1 * 6) (by omega) (by omega), wr_id (by omega) (by omega), h.2.2.1.2.2.2.2.1 (x1 * 6 + x2) (by omega) (by omega)]
    exact congrArg A.r (by omega)
theorem cq_Mn {m : Mm} {A : Ab} {x1 x2 : Int} (h : mA m A) (c : ¬ (0 ≤ x1 ∧ x1 < rd m 302 (Int.toNat (rd m 284 18))) ∨ ¬ (0 ≤ x2 ∧ x2 ≤ 7)) : (-1 : Int) = crqA A x1 x2 := by
  rw [h.1.1.2.2.2.1] at c
  unfold crqA
  rw [if_neg (by omega)]
theorem cq_M {m : Mm} {A : Ab} {x1 x2 s : Int} (h : mA m A) (oY : okY A.Y) (hx : 0 ≤ x1 ∧ x1 < rd m 302 (Int.toNat (rd m 284 18))) (hk : 0 ≤ x2 ∧ x2 ≤ 7) (e : (x2 = 7 ∧ s = rd m 322 (Int.toNat (wr (46 + x1)))) ∨ (x2 = 6 ∧ s = rd m 322 (Int.toNat (wr (43 + x1)))) ∨ (x2 ≤ 5 ∧ s = rd m 322 (Int.toNat (wr ((wr (25 + (wr (6 * x1)))) + x2))))) : s = crqA A x1 x2 := by
  have y3 := oY.2.2
  rw [h.1.1.2.2.2.1] at hx
  unfold crqA
  rw [if_pos (by omega)]
  rcases e with ⟨a, b⟩ | ⟨a, b⟩ | ⟨a, b⟩
  · rw [if_pos a, b, wr_id (by omega) (by omega)]; exact h.2.1 _ (by omega)
  · rw [if_neg (by omega), if_pos a, b, wr_id (by omega) (by omega)]; exact h.2.1 _ (by omega)
  · rw [if_neg (by omega), if_neg (by omega), b, wr_id (x := 6 * x1) (by omega) (by omega), wr_id (x := 25 + 6 * x1) (by omega) (by omega), wr_id (by omega) (by omega)]; exact h.2.1 _ (by omega)
-- TippedCratesModel.flag(II)I
set_option maxRecDepth 20000 in
theorem mz_236 {m0 m : Mm} {x1 : Int} {x2 : Int}  (g_m : G m0 m) (r_x1 : rg x1) (r_x2 : rg x2) (p0 : MW m0) : CK 3 236 [.ref 284, iv x1, iv x2] m (fun m2 v => G m0 m2 ∧ ((True) ∧ (∀ A, okY A.Y → okR A.Y A.r → A.n ≤ 40 → mA m A → flgP A x1 x2 v ∧ mA m2 A))) := by
  refine br_236 r_x1 r_x2 ?_
  unfold P_236
  refine CK.mono (mz_209   g_m.1 r_x1 (MW_G p0 g_m)) (by decide) ?_
  rintro m2 v2 r_v2 ⟨e_m2, h_m2⟩
  replace e_m2 := e_m2.symm
  subst e_m2
  refine ⟨fun hq => ?_, fun hq => ?_⟩
  · skip
    refine CV.mono (mz_216   g_m.1) (by decide) ?_
    rintro m11 ⟨hx_m11, h_m11⟩
    have g_m11 : G m0 m11 := gx_in g_m hx_m11 in_sC_scr
    refine ⟨fun hq => ?_, fun hq => ?_, fun hq => ?_, fun hq => ?_⟩
    · skip
      refine ⟨⟨by omega, by omega⟩, ?_⟩
      have t1 := tr_323 g_m11.1 (Int.toNat x1)
      exact ⟨g_m11, by exact ⟨by first | trivial | omega | (refine ⟨?_, ?_⟩ <;> omega), by first | (have u := hR_60; exact fun A oY oR _ h => fl_M1 (mA_cp h oY oR (ty_284_18 g_m.1) h_m11.2) h h_m2.2 (by omega) (by omega) h_m49 hR_60) | (have u := h_m63; exact fun A oY oR _ h => fl_M2 (mA_cp h oY oR (ty_284_18 g_m.1) h_m11.2) h h_m2.2 (by omega) (by omega) h_m63.1.2 h_m63.2) | (have u := h_m11; exact fun A oY oR _ h => fl_M0 (mA_cp h oY oR (ty_284_18 g_m.1) h_m11.2) h h_m2.2 (by omega) (by omega)) | (have u := h_m11; exact fun A oY oR _ h => fl_Mn (mA_cp h oY oR (ty_284_18 g_m.1) h_m11.2) h h_m2.2 (by omega) (by omega)) | exact fun A oY oR _ h => fl_Mf h h_m2.2 (by omega)⟩⟩
    · skip
      refine CK.mono (mz_213   r_x1) (by decide) ?_
      rintro m49 v49 r_v49 ⟨e_m49, h_m49⟩
      replace e_m49 := e_m49.symm
      subst e_m49
      refine ⟨fun s0_60 => (s0_60 = 1 ∧ ¬ v49 = 0) ∨ (s0_60 = 0 ∧ v49 = 0), ?_, ?_⟩
      · skip
        refine ⟨fun hq => ?_, fun hq => ?_⟩
        · skip
          (first | exact Or.inl ⟨rfl, by omega⟩ | exact Or.inr ⟨rfl, by omega⟩)
        · skip
          (first | exact Or.inl ⟨rfl, by omega⟩ | exact Or.inr ⟨rfl, by omega⟩)
      · intro s0_60 r_s0_60 hR_60
        exact ⟨g_m11, by exact ⟨by first | trivial | omega | (refine ⟨?_, ?_⟩ <;> omega), by first | (have u := hR_60; exact fun A oY oR _ h => fl_M1 (mA_cp h oY oR (ty_284_18 g_m.1) h_m11.2) h h_m2.2 (by omega) (by omega) h_m49 hR_60) | (have u := h_m63; exact fun A oY oR _ h => fl_M2 (mA_cp h oY oR (ty_284_18 g_m.1) h_m11.2) h h_m2.2 (by omega) (by omega) h_m63.1.2 h_m63.2) | (have u := h_m11; exact fun A oY oR _ h => fl_M0 (mA_cp h oY oR (ty_284_18 g_m.1) h_m11.2) h h_m2.2 (by omega) (by omega)) | (have u := h_m11; exact fun A oY oR _ h => fl_Mn (mA_cp h oY oR (ty_284_18 g_m.1) h_m11.2) h h_m2.2 (by omega) (by omega)) | exact fun A oY oR _ h => fl_Mf h h_m2.2 (by omega)⟩⟩
    · skip
      refine CK.mono (mw_237   g_m11.1 r_x1) (by decide) ?_
      rintro m63 v63 r_v63 ⟨e_m63, h_m63⟩
      replace e_m63 := e_m63.symm
      subst e_m63
      exact ⟨g_m11, by exact ⟨by first | trivial | omega | (refine ⟨?_, ?_⟩ <;> omega), by first | (have u := hR_60; exact fun A oY oR _ h => fl_M1 (mA_cp h oY oR (ty_284_18 g_m.1) h_m11.2) h h_m2.2 (by omega) (by omega) h_m49 hR_60) | (have u := h_m63; exact fun A oY oR _ h => fl_M2 (mA_cp h oY oR (ty_284_18 g_m.1) h_m11.2) h h_m2.2 (by omega) (by omega) h_m63.1.2 h_m63.2) | (have u := h_m11; exact fun A oY oR _ h => fl_M0 (mA_cp h oY oR (ty_284_18 g_m.1) h_m11.2) h h_m2.2 (by omega) (by omega)) | (have u := h_m11; exact fun A oY oR _ h => fl_Mn (mA_cp h oY oR (ty_284_18 g_m.1) h_m11.2) h h_m2.2 (by omega) (by omega)) | exact fun A oY oR _ h => fl_Mf h h_m2.2 (by omega)⟩⟩
    · skip
      exact ⟨g_m11, by exact ⟨by first | trivial | omega | (refine ⟨?_, ?_⟩ <;> omega), by first | (have u := hR_60; exact fun A oY oR _ h => fl_M1 (mA_cp h oY oR (ty_284_18 g_m.1) h_m11.2) h h_m2.2 (by omega) (by omega) h_m49 hR_60) | (have u := h_m63; exact fun A oY oR _ h => fl_M2 (mA_cp h oY oR (ty_284_18 g_m.1) h_m11.2) h h_m2.2 (by omega) (by omega) h_m63.1.2 h_m63.2) | (have u := h_m11; exact fun A oY oR _ h => fl_M0 (mA_cp h oY oR (ty_284_18 g_m.1) h_m11.2) h h_m2.2 (by omega) (by omega)) | (have u := h_m11; exact fun A oY oR _ h => fl_Mn (mA_cp h oY oR (ty_284_18 g_m.1) h_m11.2) h h_m2.2 (by omega) (by omega)) | exact fun A oY oR _ h => fl_Mf h h_m2.2 (by omega)⟩⟩
  · skip
    exact ⟨g_m, by exact ⟨by first | trivial | omega | (refine ⟨?_, ?_⟩ <;> omega), by first | (have u := hR_60; exact fun A oY oR _ h => fl_M1 (mA_cp h oY oR (ty_284_18 g_m.1) h_m11.2) h h_m2.2 (by omega) (by omega) h_m49 hR_60) | (have u := h_m63; exact fun A oY oR _ h => fl_M2 (mA_cp h oY oR (ty_284_18 g_m.1) h_m11.2) h h_m2.2 (by omega) (by omega) h_m63.1.2 h_m63.2) | (have u := h_m11; exact fun A oY oR _ h => fl_M0 (mA_cp h oY oR (ty_284_18 g_m.1) h_m11.2) h h_m2.2 (by omega) (by omega)) | (have u := h_m11; exact fun A oY oR _ h => fl_Mn (mA_cp h oY oR (ty_284_18 g_m.1) h_m11.2) h h_m2.2 (by omega) (by omega)) | exact fun A oY oR _ h => fl_Mf h h_m2.2 (by omega)⟩⟩
-- TippedCrates.crate(II)I
set_option maxRecDepth 20000 in
theorem ey_127 {m : Mm} {x1 : Int} {x2 : Int}  (T_m : Ty m) (r_x1 : rg x1) (r_x2 : rg x2)  : CK 3 127 [.ref 0, iv x1, iv x2] m (fun m2 v => m2 = m ∧ ((True) ∧ (∀ A, cA m A → v = crqA A x1 x2))) := by
  refine br_127 r_x1 r_x2 ?_
  unfold P_127
  have t73 := ty_7_3 T_m
  refine CK.mono (ct_162   T_m r_x1) (by decide) ?_
  rintro m2 v2 r_v2 ⟨e_m2, h_m2⟩
  replace e_m2 := e_m2.symm
  subst e_m2
  refine ⟨fun hq => ?_, fun hq => ?_⟩
  · skip
    refine ⟨fun hq => ?_, fun hq => ?_⟩
    · skip
      refine ⟨fun hq => ?_, fun hq => ?_⟩
      · skip
        refine CK.mono (ct_166   r_x2 (by unfold rg; decide) (by unfold rg; decide)) (by decide) ?_
        rintro m45 v45 r_v45 ⟨e_m45, h_m45⟩
        replace e_m45 := e_m45.symm
        subst e_m45
        refine ⟨fun s0_69 => (v45 = 0 ∧ s0_69 = -1) ∨ (¬ v45 = 0 ∧ s0_69 = rd m 277 (Int.toNat (wr ((wr (x1 * 6)) + x2)))), ?_, ?_⟩
        · skip
          refine ⟨fun hq => ?_, fun hq => ?_⟩
          · skip
            (first | exact Or.inl ⟨by assumption, rfl⟩ | exact Or.inr ⟨by assumption, rfl⟩)
          · skip
            try have w1 : wr (x1 * 6) = x1 * 6 := wr_id (by omega) (by omega)
            try have w2 : wr ((wr (x1 * 6)) + x2) = (wr (x1 * 6)) + x2 := wr_id (by omega) (by omega)
            refine ⟨⟨by omega, by omega⟩, ?_⟩
            have t3 := ty_sC T_m st_274 (Int.toNat (wr ((wr (x1 * 6)) + x2)))
            (first | exact Or.inl ⟨by assumption, rfl⟩ | exact Or.inr ⟨by assumption, rfl⟩)
        · intro s0_69 r_s0_69 hR_69
          exact ⟨rfl, by exact ⟨by first | trivial | omega | (refine ⟨?_, ?_⟩ <;> omega), by first | (have u := hR_69; exact fun A h => cq_C h h_m2 (by omega) (by assumption) (by assumption) h_m45 hR_69) | exact fun A h => cq_C7 h h_m2 (by omega) (by assumption) | exact fun A h => cq_C6 h h_m2 (by omega) (by assumption) | exact fun A h => cq_Cn h h_m2 (by omega)⟩⟩
      · skip
        refine ⟨⟨by omega, by omega⟩, ?_⟩
        exact ⟨rfl, by exact ⟨by first | trivial | omega | (refine ⟨?_, ?_⟩ <;> omega), by first | (have u := hR_69; exact fun A h => cq_C h h_m2 (by omega) (by assumption) (by assumption) h_m45 hR_69) | exact fun A h => cq_C7 h h_m2 (by omega) (by assumption) | exact fun A h => cq_C6 h h_m2 (by omega) (by assumption) | exact fun A h => cq_Cn h h_m2 (by omega)⟩⟩
    · skip
      refine ⟨⟨by omega, by omega⟩, ?_⟩
      have t5 := ty_sF T_m st_274 (Int.toNat x1)
      exact ⟨rfl, by exact ⟨by first | trivial | omega | (refine ⟨?_, ?_⟩ <;> omega), by first | (have u := hR_69; exact fun A h => cq_C h h_m2 (by omega) (by assumption) (by assumption) h_m45 hR_69) | exact fun A h => cq_C7 h h_m2 (by omega) (by assumption) | exact fun A h => cq_C6 h h_m2 (by omega) (by assumption) | exact fun A h => cq_Cn h h_m2 (by omega)⟩⟩
  · skip
    exact ⟨rfl, by exact ⟨by first | trivial | omega | (refine ⟨?_, ?_⟩ <;> omega), by first | (have u := hR_69; exact fun A h => cq_C h h_m2 (by omega) (by assumption) (by assumption) h_m45 hR_69) | exact fun A h => cq_C7 h h_m2 (by omega) (by assumption) | exact fun A h => cq_C6 h h_m2 (by omega) (by assumption) | exact fun A h => cq_Cn h h_m2 (by omega)⟩⟩
-- TippedCratesModel.crate(II)I
set_option maxRecDepth 20000 in
theorem mz_238 {m : Mm} {x1 : Int} {x2 : Int}  (T_m : Ty m) (r_x1 : rg x1) (r_x2 : rg x2)  : CK 3 238 [.ref 284, iv x1, iv x2] m (fun m2 v => m2 = m ∧ ((True) ∧ (∀ A, okY A.Y → okR A.Y A.r → A.n ≤ 40 → mA m A → v = crqA A x1 x2))) := by
  refine br_238 r_x1 r_x2 ?_
  unfold P_238
  refine CK.mono (ct_210   T_m r_x1) (by decide) ?_
  rintro m2 v2 r_v2 ⟨e_m2, h_m2⟩
  replace e_m2 := e_m2.symm
  subst e_m2
  refine ⟨fun m_18 => m_18 = m ∧ (¬ (0 ≤ x1 ∧ x1 < rd m 302 (Int.toNat (rd m 284 18))) ∨ ¬ (0 ≤ x2 ∧ x2 ≤ 7)), ?_, ?_⟩
  · skip
    refine ⟨fun hq => ?_, fun hq => ?_⟩
    · skip
      exact ⟨rfl, by omega⟩
    · skip
      refine CK.mono (ct_206   r_x2 (by unfold rg; decide) (by unfold rg; decide)) (by decide) ?_
      rintro m12 v12 r_v12 ⟨e_m12, h_m12⟩
      replace e_m12 := e_m12.symm
      subst e_m12
      refine ⟨fun hq => ?_, fun hq => ?_⟩
      · skip
        refine ⟨fun s0_70 => (x2 = 7 ∧ s0_70 = rd m 322 (Int.toNat (wr (46 + x1)))) ∨ (x2 = 6 ∧ s0_70 = rd m 322 (Int.toNat (wr (43 + x1)))) ∨ (x2 ≤ 5 ∧ s0_70 = rd m 322 (Int.toNat (wr ((wr (25 + (wr (6 * x1)))) + x2)))), ?_, ?_⟩
        · skip
          refine ⟨fun hq => ?_, fun hq => ?_⟩
          · skip
            refine ⟨fun hq => ?_, fun hq => ?_⟩
            · skip
              try have w1 : wr (46 + x1) = 46 + x1 := wr_id (by omega) (by omega)
              refine ⟨⟨by omega, by omega⟩, ?_⟩
              have t2 := tr_322 T_m (Int.toNat (wr (46 + x1)))
              (first | exact Or.inl ⟨by omega, rfl⟩ | exact Or.inr (Or.inl ⟨by omega, rfl⟩) | exact Or.inr (Or.inr ⟨by omega, rfl⟩))
            · skip
              try have w3 : wr (43 + x1) = 43 + x1 := wr_id (by omega) (by omega)
              refine ⟨⟨by omega, by omega⟩, ?_⟩
              have t4 := tr_322 T_m (Int.toNat (wr (43 + x1)))
              (first | exact Or.inl ⟨by omega, rfl⟩ | exact Or.inr (Or.inl ⟨by omega, rfl⟩) | exact Or.inr (Or.inr ⟨by omega, rfl⟩))
          · skip
            try have w5 : wr (6 * x1) = 6 * x1 := wr_id (by omega) (by omega)
            try have w6 : wr (25 + (wr (6 * x1))) = 25 + (wr (6 * x1)) := wr_id (by omega) (by omega)
            try have w7 : wr ((wr (25 + (wr (6 * x1)))) + x2) = (wr (25 + (wr (6 * x1)))) + x2 := wr_id (by omega) (by omega)
            refine ⟨⟨by omega, by omega⟩, ?_⟩
            have t8 := tr_322 T_m (Int.toNat (wr ((wr (25 + (wr (6 * x1)))) + x2)))
            (first | exact Or.inl ⟨by omega, rfl⟩ | exact Or.inr (Or.inl ⟨by omega, rfl⟩) | exact Or.inr (Or.inr ⟨by omega, rfl⟩))
        · intro s0_70 r_s0_70 hR_70
          exact ⟨rfl, by exact ⟨by first | trivial | omega | (refine ⟨?_, ?_⟩ <;> omega), by first | (have u := hR_70; exact fun A oY _ _ h => cq_M h oY (by omega) (by omega) hR_70) | exact fun A oY _ _ h => cq_Mn h hR_18⟩⟩
      · skip
        exact ⟨rfl, by omega⟩
  · intro m_18  hR_18
    obtain ⟨e_m_18, hR_18⟩ := hR_18
    replace e_m_18 := e_m_18.symm
    subst e_m_18
    exact ⟨rfl, by exact ⟨by first | trivial | omega | (refine ⟨?_, ?_⟩ <;> omega), by first | (have u := hR_70; exact fun A oY _ _ h => cq_M h oY (by omega) (by omega) hR_70) | exact fun A oY _ _ h => cq_Mn h hR_18⟩⟩
