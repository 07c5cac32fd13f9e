/-- what the laws tell of a tip -/
def telP (A : Ab) (x1 x2 x3 v : Int) : Prop := (¬ ((0 ≤ x1 ∧ x1 < A.Y 3) ∧ 0 ≤ x2 ∧ x2 ≤ 3) ∧ v = -1) ∨ (((0 ≤ x1 ∧ x1 < A.Y 3) ∧ 0 ≤ x2 ∧ x2 ≤ 3) ∧ ((x3 = 0 ∧ ((v = 1 ∧ canN A.Y A.r x1 x2) ∨ (v = 0 ∧ ¬ canN A.Y A.r x1 x2))) ∨ (x3 = 1 ∧ v = clI 99 (lwN A.Y A.E 2 A.r x1 x2)) ∨ (x3 = 2 ∧ ((v = 1 ∧ 0 < lwN A.Y A.E 0 A.r x1 x2) ∨ (v = 0 ∧ ¬ 0 < lwN A.Y A.E 0 A.r x1 x2))) ∨ (x3 = 3 ∧ ((v = 1 ∧ 0 < lwN A.Y A.E 1 A.r x1 x2) ∨ (v = 0 ∧ ¬ 0 < lwN A.Y A.E 1 A.r x1 x2))) ∨ (x3 = 4 ∧ v = clI 100 (lwN A.Y A.E 3 A.r x1 x2)) ∨ ((x3 < 0 ∨ 4 < x3) ∧ v = -1)))
theorem mA_sV {m m2 : Mm} {A : Ab} (h : mA m A) (l : 0 ≤ rd m 284 18 ∧ rd m 284 18 ≤ 1) (g : GX sV m m2) : mA m2 A := mA_fr h l (fun i j q => g.2.1 i j (sV_no (by unfold plR at q; omega) (by unfold plR at q; omega) (by unfold plR at q; omega)))
theorem te_x {m : Mm} {A : Ab} {x1 : Int} (h : mA m A) (_o : okY A.Y) (hx : 0 ≤ x1 ∧ x1 < rd m 302 (Int.toNat (rd m 284 18))) : 0 ≤ x1 ∧ x1 < A.Y 3 := by rw [h.1.1.2.2.2.1] at hx; exact hx
theorem te_Mn {m m15 : Mm} {A : Ab} {x1 x2 x3 : Int} (h : mA m A) (e : m15 = m) (c : ¬ (0 ≤ x1 ∧ x1 < rd m 302 (Int.toNat (rd m 284 18))) ∨ ¬ (0 ≤ x2 ∧ x2 ≤ 3)) : telP A x1 x2 x3 (-1) ∧ mA m15 A := by
  subst e
  rw [h.1.1.2.2.2.1] at c
  exact ⟨Or.inl ⟨by omega, rfl⟩, h⟩
theorem te_M0 {m : Mm} {A : Ab} {x1 x2 x3 w s : Int} (y : YM m A.Y A.E A.r ∧ mA m A) (hx : 0 ≤ x1 ∧ x1 < A.Y 3) (hk : 0 ≤ x2 ∧ x2 ≤ 3) (k : x3 = 0) (p : (w = 1 ∧ cfM m x1 (rd m 323 (Int.toNat (43 + x1))) x2) ∨ (w = 0 ∧ ¬ cfM m x1 (rd m 323 (Int.toNat (43 + x1))) x2)) (e : (s = 1 ∧ ¬ w = 0) ∨ (s = 0 ∧ w = 0)) : telP A x1 x2 x3 s ∧ mA m A := by
  have cc := can_M y.1 hx hk
  refine ⟨Or.inr ⟨⟨hx, hk⟩, Or.inl ⟨k, ?_⟩⟩, y.2⟩
  rcases e with ⟨a, b⟩ | ⟨a, b⟩
  · exact Or.inl ⟨a, cc.mp (or_1 p b)⟩
  · exact Or.inr ⟨a, fun q => or_0 p b (cc.mpr q)⟩
theorem te_M1 {m m2 : Mm} {A : Ab} {x1 x2 x3 v : Int} (y : YM m A.Y A.E A.r ∧ mA m A) (l : 0 ≤ rd m 284 18 ∧ rd m 284 18 ≤ 1) (hx : 0 ≤ x1 ∧ x1 < A.Y 3) (hk : 0 ≤ x2 ∧ x2 ≤ 3) (k : x3 = 1) (q : ∀ E, LM m E → v = clI 99 (lval (vfI m x1 (rd m 323 (Int.toNat (43 + x1))) 0 x2) (E 2).1 (E 2).2)) (g : GX sV m m2) : telP A x1 x2 x3 v ∧ mA m2 A :=
  ⟨Or.inr ⟨⟨hx, hk⟩, Or.inr (Or.inl ⟨k, by rw [q A.E y.1.1.2.1, lw_M y.1 hx hk (by omega)]⟩)⟩, mA_sV y.2 l g⟩
theorem te_M2 {m m2 : Mm} {A : Ab} {x1 x2 x3 w s : Int} (y : YM m A.Y A.E A.r ∧ mA m A) (l : 0 ≤ rd m 284 18 ∧ rd m 284 18 ≤ 1) (hx : 0 ≤ x1 ∧ x1 < A.Y 3) (hk : 0 ≤ x2 ∧ x2 ≤ 3) (k : x3 = 2) (q : ∀ E, LM m E → (w = 1 ∧ 0 < lval (vfI m x1 (rd m 323 (Int.toNat (43 + x1))) 0 x2) (E 0).1 (E 0).2) ∨ (w = 0 ∧ ¬ 0 < lval (vfI m x1 (rd m 323 (Int.toNat (43 + x1))) 0 x2) (E 0).1 (E 0).2)) (e : (s = 1 ∧ ¬ w = 0) ∨ (s = 0 ∧ w = 0)) (g : GX sV m m2) : telP A x1 x2 x3 s ∧ mA m2 A := by
  have t := q A.E y.1.1.2.1
  rw [lw_M y.1 hx hk (by omega)] at t
  exact ⟨Or.inr ⟨⟨hx, hk⟩, Or.inr (Or.inr (Or.inl ⟨k, by omega⟩))⟩, mA_sV y.2 l g⟩
theorem te_M3 {m m2 : Mm} {A : Ab} {x1 x2 x3 w s : Int} (y : YM m A.Y A.E A.r ∧ mA m A) (l : 0 ≤ rd m 284 18 ∧ rd m 284 18 ≤ 1) (hx : 0 ≤ x1 ∧ x1 < A.Y 3) (hk : 0 ≤ x2 ∧ x2 ≤ 3) (k : x3 = 3) (q : ∀ E, LM m E → (w = 1 ∧ 0 < lval (vfI m x1 (rd m 323 (Int.toNat (43 + x1))) 0 x2) (E 1).1 (E 1).2) ∨ (w = 0 ∧ ¬ 0 < lval (vfI m x1 (rd m 323 (Int.toNat (43 + x1))) 0 x2) (E 1).1 (E 1).2)) (e : (s = 1 ∧ ¬ w = 0) ∨ (s = 0 ∧ w = 0)) (g : GX sV m m2) : telP A x1 x2 x3 s ∧ mA m2 A := by
  have t := q A.E y.1.1.2.1
  rw [lw_M y.1 hx hk (by omega)] at t
  exact ⟨Or.inr ⟨⟨hx, hk⟩, Or.inr (Or.inr (Or.inr (Or.inl ⟨k, by omega⟩)))⟩, mA_sV y.2 l g⟩
theorem te_M4 {m m2 : Mm} {A : Ab} {x1 x2 x3 v : Int} (y : YM m A.Y A.E A.r ∧ mA m A) (l : 0 ≤ rd m 284 18 ∧ rd m 284 18 ≤ 1) (hx : 0 ≤ x1 ∧ x1 < A.Y 3) (hk : 0 ≤ x2 ∧ x2 ≤ 3) (k : x3 = 4) (q : ∀ E, LM m E → v = clI 100 (lval (vfI m x1 (rd m 323 (Int.toNat (43 + x1))) 0 x2) (E 3).1 (E 3).2)) (g : GX sV m m2) : telP A x1 x2 x3 v ∧ mA m2 A :=
  ⟨Or.inr ⟨⟨hx, hk⟩, Or.inr (Or.inr (Or.inr (Or.inr (Or.inl ⟨k, by rw [q A.E y.1.1.2.1, lw_M y.1 hx hk (by omega)]⟩))))⟩, mA_sV y.2 l g⟩
-- TippedCratesModel.tells(III)I
set_option maxRecDepth 20000 in
theorem mz_239 {m0 m : Mm} {x1 : Int} {x2 : Int} {x3 : Int}  (g_m : G m0 m) (r_x1 : rg x1) (r_x2 : rg x2) (r_x3 : rg x3) (p0 : MW m0) (p1 : lawsM m0) : CK 6 239 [.ref 284, iv x1, iv x2, iv x3] m (fun m2 v => G m0 m2 ∧ ((True) ∧ (∀ A, okY A.Y → okR A.Y A.r → A.n ≤ 40 → mA m A → telP A x1 x2 x3 v ∧ mA m2 A))) := by
  refine br_239 r_x1 r_x2 r_x3 ?_
  unfold P_239
  refine CK.mono (ct_210   g_m.1 r_x1) (by decide) ?_
  rintro m2 v2 r_v2 ⟨e_m2, h_m2⟩
  replace e_m2 := e_m2.symm
  subst e_m2
  refine ⟨fun m_15 => G m0 m_15 ∧ (m_15 = m ∧ (¬ (0 ≤ x1 ∧ x1 < rd m 302 (Int.toNat (rd m 284 18))) ∨ ¬ (0 ≤ x2 ∧ x2 ≤ 3))), ?_, ?_⟩
  · skip
    refine ⟨fun hq => ?_, fun hq => ?_⟩
    · skip
      exact ⟨g_m, by exact ⟨rfl, by omega⟩⟩
    · skip
      refine CK.mono (ct_212   r_x2) (by decide) ?_
      rintro m9 v9 r_v9 ⟨e_m9, h_m9⟩
      replace e_m9 := e_m9.symm
      subst e_m9
      refine ⟨fun hq => ?_, fun hq => ?_⟩
      · skip
        refine CV.mono (mz_216   g_m.1) (by decide) ?_
        rintro m18 ⟨hx_m18, h_m18⟩
        have g_m18 : G m0 m18 := gx_in g_m hx_m18 in_sC_scr
        refine ⟨fun hq => ?_, fun hq => ?_, fun hq => ?_, fun hq => ?_, fun hq => ?_, fun hq => ?_⟩
        · skip
          refine CK.mono (mz_224   g_m18.1 r_x1 r_x2 (MW_G p0 g_m18) (by omega) (by omega)) (by decide) ?_
          rintro m59 v59 r_v59 ⟨e_m59, h_m59⟩
          replace e_m59 := e_m59.symm
          subst e_m59
          refine ⟨fun s0_70 => (s0_70 = 1 ∧ ¬ v59 = 0) ∨ (s0_70 = 0 ∧ v59 = 0), ?_, ?_⟩
          · skip
            refine ⟨fun hq => ?_, fun hq => ?_⟩
            · skip
              (first | exact Or.inl ⟨rfl, by omega⟩ | exact Or.inr ⟨rfl, by omega⟩)
            · skip
              (first | exact Or.inl ⟨rfl, by omega⟩ | exact Or.inr ⟨rfl, by omega⟩)
          · intro s0_70 r_s0_70 hR_70
            exact ⟨g_m18, by exact ⟨by first | trivial | omega | (refine ⟨?_, ?_⟩ <;> omega), by first | (have u := hR_70; exact fun A oY oR _ h => te_M0 (mA_cp h oY oR (ty_284_18 g_m.1) h_m18.2) (te_x h oY (by omega)) (by omega) (by omega) h_m59.2 hR_70) | (have u := h_m74; exact fun A oY oR _ h => te_M1 (mA_cp h oY oR (ty_284_18 g_m.1) h_m18.2) (ty_284_18 g_m18.1) (te_x h oY (by omega)) (by omega) (by omega) h_m74.2 hx_m74) | (have u := hR_92; exact fun A oY oR _ h => te_M2 (mA_cp h oY oR (ty_284_18 g_m.1) h_m18.2) (ty_284_18 g_m18.1) (te_x h oY (by omega)) (by omega) (by omega) h_m81.2 hR_92 hx_m81) | (have u := hR_107; exact fun A oY oR _ h => te_M3 (mA_cp h oY oR (ty_284_18 g_m.1) h_m18.2) (ty_284_18 g_m18.1) (te_x h oY (by omega)) (by omega) (by omega) h_m96.2 hR_107 hx_m96) | (have u := h_m111; exact fun A oY oR _ h => te_M4 (mA_cp h oY oR (ty_284_18 g_m.1) h_m18.2) (ty_284_18 g_m18.1) (te_x h oY (by omega)) (by omega) (by omega) h_m111.2 hx_m111) | (have u := h_m18; exact fun A oY oR _ h => ⟨Or.inr ⟨⟨te_x h oY (by omega), by omega⟩, Or.inr (Or.inr (Or.inr (Or.inr (Or.inr ⟨by omega, rfl⟩))))⟩, (mA_cp h oY oR (ty_284_18 g_m.1) h_m18.2).2⟩) | exact fun A oY _ _ h => te_Mn h hR_15.1 hR_15.2⟩⟩
        · skip
          refine CK.mono (mz_229   g_m18.1 r_x1 r_x2 (MW_G p0 g_m18) (laws_G p1 g_m18) (by omega) (by omega)) (by decide) ?_
          rintro m74 v74 r_v74 ⟨hx_m74, h_m74⟩
          have g_m74 : G m0 m74 := gx_in g_m18 hx_m74 in_sV_scr
          exact ⟨g_m74, by exact ⟨by first | trivial | omega | (refine ⟨?_, ?_⟩ <;> omega), by first | (have u := hR_70; exact fun A oY oR _ h => te_M0 (mA_cp h oY oR (ty_284_18 g_m.1) h_m18.2) (te_x h oY (by omega)) (by omega) (by omega) h_m59.2 hR_70) | (have u := h_m74; exact fun A oY oR _ h => te_M1 (mA_cp h oY oR (ty_284_18 g_m.1) h_m18.2) (ty_284_18 g_m18.1) (te_x h oY (by omega)) (by omega) (by omega) h_m74.2 hx_m74) | (have u := hR_92; exact fun A oY oR _ h => te_M2 (mA_cp h oY oR (ty_284_18 g_m.1) h_m18.2) (ty_284_18 g_m18.1) (te_x h oY (by omega)) (by omega) (by omega) h_m81.2 hR_92 hx_m81) | (have u := hR_107; exact fun A oY oR _ h => te_M3 (mA_cp h oY oR (ty_284_18 g_m.1) h_m18.2) (ty_284_18 g_m18.1) (te_x h oY (by omega)) (by omega) (by omega) h_m96.2 hR_107 hx_m96) | (have u := h_m111; exact fun A oY oR _ h => te_M4 (mA_cp h oY oR (ty_284_18 g_m.1) h_m18.2) (ty_284_18 g_m18.1) (te_x h oY (by omega)) (by omega) (by omega) h_m111.2 hx_m111) | (have u := h_m18; exact fun A oY oR _ h => ⟨Or.inr ⟨⟨te_x h oY (by omega), by omega⟩, Or.inr (Or.inr (Or.inr (Or.inr (Or.inr ⟨by omega, rfl⟩))))⟩, (mA_cp h oY oR (ty_284_18 g_m.1) h_m18.2).2⟩) | exact fun A oY _ _ h => te_Mn h hR_15.1 hR_15.2⟩⟩
        · skip
          refine CK.mono (mz_230   g_m18.1 r_x1 r_x2 (MW_G p0 g_m18) (laws_G p1 g_m18) (by omega) (by omega)) (by decide) ?_
          rintro m81 v81 r_v81 ⟨hx_m81, h_m81⟩
          have g_m81 : G m0 m81 := gx_in g_m18 hx_m81 in_sV_scr
          refine ⟨fun s0_92 => (s0_92 = 1 ∧ ¬ v81 = 0) ∨ (s0_92 = 0 ∧ v81 = 0), ?_, ?_⟩
          · skip
            refine ⟨fun hq => ?_, fun hq => ?_⟩
            · skip
              (first | exact Or.inl ⟨rfl, by omega⟩ | exact Or.inr ⟨rfl, by omega⟩)
            · skip
              (first | exact Or.inl ⟨rfl, by omega⟩ | exact Or.inr ⟨rfl, by omega⟩)
          · intro s0_92 r_s0_92 hR_92
            exact ⟨g_m81, by exact ⟨by first | trivial | omega | (refine ⟨?_, ?_⟩ <;> omega), by first | (have u := hR_70; exact fun A oY oR _ h => te_M0 (mA_cp h oY oR (ty_284_18 g_m.1) h_m18.2) (te_x h oY (by omega)) (by omega) (by omega) h_m59.2 hR_70) | (have u := h_m74; exact fun A oY oR _ h => te_M1 (mA_cp h oY oR (ty_284_18 g_m.1) h_m18.2) (ty_284_18 g_m18.1) (te_x h oY (by omega)) (by omega) (by omega) h_m74.2 hx_m74) | (have u := hR_92; exact fun A oY oR _ h => te_M2 (mA_cp h oY oR (ty_284_18 g_m.1) h_m18.2) (ty_284_18 g_m18.1) (te_x h oY (by omega)) (by omega) (by omega) h_m81.2 hR_92 hx_m81) | (have u := hR_107; exact fun A oY oR _ h => te_M3 (mA_cp h oY oR (ty_284_18 g_m.1) h_m18.2) (ty_284_18 g_m18.1) (te_x h oY (by omega)) (by omega) (by omega) h_m96.2 hR_107 hx_m96) | (have u := h_m111; exact fun A oY oR _ h => te_M4 (mA_cp h oY oR (ty_284_18 g_m.1) h_m18.2) (ty_284_18 g_m18.1) (te_x h oY (by omega)) (by omega) (by omega) h_m111.2 hx_m111) | (have u := h_m18; exact fun A oY oR _ h => ⟨Or.inr ⟨⟨te_x h oY (by omega), by omega⟩, Or.inr (Or.inr (Or.inr (Or.inr (Or.inr ⟨by omega, rfl⟩))))⟩, (mA_cp h oY oR (ty_284_18 g_m.1) h_m18.2).2⟩) | exact fun A oY _ _ h => te_Mn h hR_15.1 hR_15.2⟩⟩
        · skip
          refine CK.mono (mz_231   g_m18.1 r_x1 r_x2 (MW_G p0 g_m18) (laws_G p1 g_m18) (by omega) (by omega)) (by decide) ?_
          rintro m96 v96 r_v96 ⟨hx_m96, h_m96⟩
          have g_m96 : G m0 m96 := gx_in g_m18 hx_m96 in_sV_scr
          refine ⟨fun s0_107 => (s0_107 = 1 ∧ ¬ v96 = 0) ∨ (s0_107 = 0 ∧ v96 = 0), ?_, ?_⟩
          · skip
            refine ⟨fun hq => ?_, fun hq => ?_⟩
            · skip
              (first | exact Or.inl ⟨rfl, by omega⟩ | exact Or.inr ⟨rfl, by omega⟩)
            · skip
              (first | exact Or.inl ⟨rfl, by omega⟩ | exact Or.inr ⟨rfl, by omega⟩)
          · intro s0_107 r_s0_107 hR_107
            exact ⟨g_m96, by exact ⟨by first | trivial | omega | (refine ⟨?_, ?_⟩ <;> omega), by first | (have u := hR_70; exact fun A oY oR _ h => te_M0 (mA_cp h oY oR (ty_284_18 g_m.1) h_m18.2) (te_x h oY (by omega)) (by omega) (by omega) h_m59.2 hR_70) | (have u := h_m74; exact fun A oY oR _ h => te_M1 (mA_cp h oY oR (ty_284_18 g_m.1) h_m18.2) (ty_284_18 g_m18.1) (te_x h oY (by omega)) (by omega) (by omega) h_m74.2 hx_m74) | (have u := hR_92; exact fun A oY oR _ h => te_M2 (mA_cp h oY oR (ty_284_18 g_m.1) h_m18.2) (ty_284_18 g_m18.1) (te_x h oY (by omega)) (by omega) (by omega) h_m81.2 hR_92 hx_m81) | (have u := hR_107; exact fun A oY oR _ h => te_M3 (mA_cp h oY oR (ty_284_18 g_m.1) h_m18.2) (ty_284_18 g_m18.1) (te_x h oY (by omega)) (by omega) (by omega) h_m96.2 hR_107 hx_m96) | (have u := h_m111; exact fun A oY oR _ h => te_M4 (mA_cp h oY oR (ty_284_18 g_m.1) h_m18.2) (ty_284_18 g_m18.1) (te_x h oY (by omega)) (by omega) (by omega) h_m111.2 hx_m111) | (have u := h_m18; exact fun A oY oR _ h => ⟨Or.inr ⟨⟨te_x h oY (by omega), by omega⟩, Or.inr (Or.inr (Or.inr (Or.inr (Or.inr ⟨by omega, rfl⟩))))⟩, (mA_cp h oY oR (ty_284_18 g_m.1) h_m18.2).2⟩) | exact fun A oY _ _ h => te_Mn h hR_15.1 hR_15.2⟩⟩
        · skip
          refine CK.mono (mz_232   g_m18.1 r_x1 r_x2 (MW_G p0 g_m18) (laws_G p1 g_m18) (by omega) (by omega)) (by decide) ?_
          rintro m111 v111 r_v111 ⟨hx_m111, h_m111⟩
          have g_m111 : G m0 m111 := gx_in g_m18 hx_m111 in_sV_scr
          exact ⟨g_m111, by exact ⟨by first | trivial | omega | (refine ⟨?_, ?_⟩ <;> omega), by first | (have u := hR_70; exact fun A oY oR _ h => te_M0 (mA_cp h oY oR (ty_284_18 g_m.1) h_m18.2) (te_x h oY (by omega)) (by omega) (by omega) h_m59.2 hR_70) | (have u := h_m74; exact fun A oY oR _ h => te_M1 (mA_cp h oY oR (ty_284_18 g_m.1) h_m18.2) (ty_284_18 g_m18.1) (te_x h oY (by omega)) (by omega) (by omega) h_m74.2 hx_m74) | (have u := hR_92; exact fun A oY oR _ h => te_M2 (mA_cp h oY oR (ty_284_18 g_m.1) h_m18.2) (ty_284_18 g_m18.1) (te_x h oY (by omega)) (by omega) (by omega) h_m81.2 hR_92 hx_m81) | (have u := hR_107; exact fun A oY oR _ h => te_M3 (mA_cp h oY oR (ty_284_18 g_m.1) h_m18.2) (ty_284_18 g_m18.1) (te_x h oY (by omega)) (by omega) (by omega) h_m96.2 hR_107 hx_m96) | (have u := h_m111; exact fun A oY oR _ h => te_M4 (mA_cp h oY oR (ty_284_18 g_m.1) h_m18.2) (ty_284_18 g_m18.1) (te_x h oY (by omega)) (by omega) (by omega) h_m111.2 hx_m111) | (have u := h_m18; exact fun A oY oR _ h => ⟨Or.inr ⟨⟨te_x h oY (by omega), by omega⟩, Or.inr (Or.inr (Or.inr (Or.inr (Or.inr ⟨by omega, rfl⟩))))⟩, (mA_cp h oY oR (ty_284_18 g_m.1) h_m18.2).2⟩) | exact fun A oY _ _ h => te_Mn h hR_15.1 hR_15.2⟩⟩
        · skip
          exact ⟨g_m18, by exact ⟨by first | trivial | omega | (refine ⟨?_, ?_⟩ <;> omega), by first | (have u := hR_70; exact fun A oY oR _ h => te_M0 (mA_cp h oY oR (ty_284_18 g_m.1) h_m18.2) (te_x h oY (by omega)) (by omega) (by omega) h_m59.2 hR_70) | (have u := h_m74; exact fun A oY oR _ h => te_M1 (mA_cp h oY oR (ty_284_18 g_m.1) h_m18.2) (ty_284_18 g_m18.1) (te_x h oY (by omega)) (by omega) (by omega) h_m74.2 hx_m74) | (have u := hR_92; exact fun A oY oR _ h => te_M2 (mA_cp h oY oR (ty_284_18 g_m.1) h_m18.2) (ty_284_18 g_m18.1) (te_x h oY (by omega)) (by omega) (by omega) h_m81.2 hR_92 hx_m81) | (have u := hR_107; exact fun A oY oR _ h => te_M3 (mA_cp h oY oR (ty_284_18 g_m.1) h_m18.2) (ty_284_18 g_m18.1) (te_x h oY (by omega)) (by omega) (by omega) h_m96.2 hR_107 hx_m96) | (have u := h_m111; exact fun A oY oR _ h => te_M4 (mA_cp h oY oR (ty_284_18 g_m.1) h_m18.2) (ty_284_18 g_m18.1) (te_x h oY (by omega)) (by omega) (by omega) h_m111.2 hx_m111) | (have u := h_m18; exact fun A oY oR _ h => ⟨Or.inr ⟨⟨te_x h oY (by omega), by omega⟩, Or.inr (Or.inr (Or.inr (Or.inr (Or.inr ⟨by omega, rfl⟩))))⟩, (mA_cp h oY oR (ty_284_18 g_m.1) h_m18.2).2⟩) | exact fun A oY _ _ h => te_Mn h hR_15.1 hR_15.2⟩⟩
      · skip
        exact ⟨g_m, by exact ⟨rfl, by omega⟩⟩
  · intro m_15  hR_15
    obtain ⟨g_m_15, hR_15⟩ := hR_15
    exact ⟨g_m_15, by exact ⟨by first | trivial | omega | (refine ⟨?_, ?_⟩ <;> omega), by first | (have u := hR_70; exact fun A oY oR _ h => te_M0 (mA_cp h oY oR (ty_284_18 g_m.1) h_m18.2) (te_x h oY (by omega)) (by omega) (by omega) h_m59.2 hR_70) | (have u := h_m74; exact fun A oY oR _ h => te_M1 (mA_cp h oY oR (ty_284_18 g_m.1) h_m18.2) (ty_284_18 g_m18.1) (te_x h oY (by omega)) (by omega) (by omega) h_m74.2 hx_m74) | (have u := hR_92; exact fun A oY oR _ h => te_M2 (mA_cp h oY oR (ty_284_18 g_m.1) h_m18.2) (ty_284_18 g_m18.1) (te_x h oY (by omega)) (by omega) (by omega) h_m81.2 hR_92 hx_m81) | (have u := hR_107; exact fun A oY oR _ h => te_M3 (mA_cp h oY oR (ty_284_18 g_m.1) h_m18.2) (ty_284_18 g_m18.1) (te_x h oY (by omega)) (by omega) (by omega) h_m96.2 hR_107 hx_m96) | (have u := h_m111; exact fun A oY oR _ h => te_M4 (mA_cp h oY oR (ty_284_18 g_m.1) h_m18.2) (ty_284_18 g_m18.1) (te_x h oY (by omega)) (by omega) (by omega) h_m111.2 hx_m111) | (have u := h_m18; exact fun A oY oR _ h => ⟨Or.inr ⟨⟨te_x h oY (by omega), by omega⟩, Or.inr (Or.inr (Or.inr (Or.inr (Or.inr ⟨by omega, rfl⟩))))⟩, (mA_cp h oY oR (ty_284_18 g_m.1) h_m18.2).2⟩) | exact fun A oY _ _ h => te_Mn h hR_15.1 hR_15.2⟩⟩
