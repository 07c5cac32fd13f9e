theorem cA_12 {m m2 : Mm} {A : Ab} (h : cA m A) (g : GX s12 m m2) : cA m2 A := cA_fr h (fun i j q => g.2.1 i j (nb_ne (by unfold cAr at q; omega)))
theorem cA_15 {m m2 : Mm} {A : Ab} (h : cA m A) (g : GX s15 m m2) : cA m2 A := cA_fr h (fun i j q => g.2.1 i j (nb_ne (by unfold cAr at q; omega)))
theorem te_Cx {m : Mm} {A : Ab} {x1 : Int} (h : cA m A) (hx : 0 ≤ x1 ∧ x1 ≤ rd m 7 3 - 1) : 0 ≤ x1 ∧ x1 < A.Y 3 := by
  have := h.1.1.2.2.2.1
  omega
theorem te_Cn {m m15 : Mm} {A : Ab} {x1 x2 x3 : Int} (h : cA m A) (e : m15 = m) (c : ¬ (0 ≤ x1 ∧ x1 ≤ rd m 7 3 - 1) ∨ ¬ (0 ≤ x2 ∧ x2 ≤ 3)) : telP A x1 x2 x3 (-1) ∧ cA m15 A := by
  subst e
  rw [h.1.1.2.2.2.1] at c
  exact ⟨Or.inl ⟨by omega, rfl⟩, h⟩
theorem te_Cl {m m27 : Mm} {A : Ab} {x1 x2 q : Int} (h : cA m A) (hx : 0 ≤ x1 ∧ x1 < A.Y 3) (hk : 0 ≤ x2 ∧ x2 ≤ 3) (lf : lfX m m27 274 x1 (rd m (274 + 2) (Int.toNat x1)) x2 (rd m (274 + 3) (Int.toNat (6 * x1 + ct x2))) (rd m (274 + 3) (Int.toNat (6 * x1 + cb x2)))) (hq : 0 ≤ q ∧ q < 4) : lval (vaC m27) (A.E q).1 (A.E q).2 = lwN A.Y A.E q A.r x1 x2 :=
  lw_C (fun k h1 h2 => (h.1.2.2 k h1 h2).1) (va_C h.1 h.2.2.1.2 h.2.1 h.2.2.1.1 (by rw [h.2.2.1.2.1]; exact hx) hk lf) hq
theorem te_C0 {m m27 : Mm} {A : Ab} {x1 x2 x3 w s : Int} (h : cA m A) (hx : 0 ≤ x1 ∧ x1 < A.Y 3) (hk : 0 ≤ x2 ∧ x2 ≤ 3) (k : x3 = 0) (g : GX s12 m m27) (p : (w = 1 ∧ canT m27 274 x1 x2) ∨ (w = 0 ∧ ¬ canT m27 274 x1 x2)) (e : (s = 1 ∧ ¬ w = 0) ∨ (s = 0 ∧ w = 0)) : telP A x1 x2 x3 s ∧ cA m27 A := by
  have h2 := cA_12 h g
  have cc := can_C (m := m27) (a := 274) (Y := A.Y) (r := A.r) (E := A.E) ⟨h2.1, h2.2.2.1.2, h2.2.1, h2.2.2.1.1⟩ (x2 := x1) (by rw [h2.2.2.1.2.1]; exact hx) (x3 := x2) hk
  refine ⟨Or.inr ⟨⟨hx, hk⟩, Or.inl ⟨k, ?_⟩⟩, h2⟩
  rcases e with ⟨a, b⟩ | ⟨a, b⟩
  · exact Or.inl ⟨a, cc.mp (or_1 p b)⟩
  · exact Or.inr ⟨a, fun q => or_0 p b (cc.mpr q)⟩
theorem te_C1 {m m27 m2 : Mm} {A : Ab} {x1 x2 x3 v : Int} (h : cA m A) (hx : 0 ≤ x1 ∧ x1 < A.Y 3) (hk : 0 ≤ x2 ∧ x2 ≤ 3) (k : x3 = 1) (g : GX s12 m m27) (lf : lfX m m27 274 x1 (rd m (274 + 2) (Int.toNat x1)) x2 (rd m (274 + 3) (Int.toNat (6 * x1 + ct x2))) (rd m (274 + 3) (Int.toNat (6 * x1 + cb x2)))) (q : ∀ E, LSd m27 11 E → v = clI 99 (lval (vaC m27) (E 2).1 (E 2).2)) (g2 : GX s15 m27 m2) : telP A x1 x2 x3 v ∧ cA m2 A :=
  ⟨Or.inr ⟨⟨hx, hk⟩, Or.inr (Or.inl ⟨k, by rw [q A.E (cA_12 h g).1.2.2, te_Cl h hx hk lf (by omega)]⟩)⟩, cA_15 (cA_12 h g) g2⟩
theorem te_C2 {m m27 m2 : Mm} {A : Ab} {x1 x2 x3 w s : Int} (h : cA m A) (hx : 0 ≤ x1 ∧ x1 < A.Y 3) (hk : 0 ≤ x2 ∧ x2 ≤ 3) (k : x3 = 2) (g : GX s12 m m27) (lf : lfX m m27 274 x1 (rd m (274 + 2) (Int.toNat x1)) x2 (rd m (274 + 3) (Int.toNat (6 * x1 + ct x2))) (rd m (274 + 3) (Int.toNat (6 * x1 + cb x2)))) (q : ∀ E, LSd m27 11 E → (w = 1 ∧ 0 < lval (vaC m27) (E 0).1 (E 0).2) ∨ (w = 0 ∧ ¬ 0 < lval (vaC m27) (E 0).1 (E 0).2)) (e : (s = 1 ∧ ¬ w = 0) ∨ (s = 0 ∧ w = 0)) (g2 : GX s15 m27 m2) : telP A x1 x2 x3 s ∧ cA m2 A := by
  have t := q A.E (cA_12 h g).1.2.2
  rw [te_Cl h hx hk lf (by omega)] at t
  exact ⟨Or.inr ⟨⟨hx, hk⟩, Or.inr (Or.inr (Or.inl ⟨k, by omega⟩))⟩, cA_15 (cA_12 h g) g2⟩
theorem te_C3 {m m27 m2 : Mm} {A : Ab} {x1 x2 x3 w s : Int} (h : cA m A) (hx : 0 ≤ x1 ∧ x1 < A.Y 3) (hk : 0 ≤ x2 ∧ x2 ≤ 3) (k : x3 = 3) (g : GX s12 m m27) (lf : lfX m m27 274 x1 (rd m (274 + 2) (Int.toNat x1)) x2 (rd m (274 + 3) (Int.toNat (6 * x1 + ct x2))) (rd m (274 + 3) (Int.toNat (6 * x1 + cb x2)))) (q : ∀ E, LSd m27 11 E → (w = 1 ∧ 0 < lval (vaC m27) (E 1).1 (E 1).2) ∨ (w = 0 ∧ ¬ 0 < lval (vaC m27) (E 1).1 (E 1).2)) (e : (s = 1 ∧ ¬ w = 0) ∨ (s = 0 ∧ w = 0)) (g2 : GX s15 m27 m2) : telP A x1 x2 x3 s ∧ cA m2 A := by
  have t := q A.E (cA_12 h g).1.2.2
  rw [te_Cl h hx hk lf (by omega)] at t
  exact ⟨Or.inr ⟨⟨hx, hk⟩, Or.inr (Or.inr (Or.inr (Or.inl ⟨k, by omega⟩)))⟩, cA_15 (cA_12 h g) g2⟩
theorem te_C4 {m m27 m2 : Mm} {A : Ab} {x1 x2 x3 v : Int} (h : cA m A) (hx : 0 ≤ x1 ∧ x1 < A.Y 3) (hk : 0 ≤ x2 ∧ x2 ≤ 3) (k : x3 = 4) (g : GX s12 m m27) (lf : lfX m m27 274 x1 (rd m (274 + 2) (Int.toNat x1)) x2 (rd m (274 + 3) (Int.toNat (6 * x1 + ct x2))) (rd m (274 + 3) (Int.toNat (6 * x1 + cb x2)))) (q : ∀ E, LSd m27 11 E → v = clI 100 (lval (vaC m27) (E 3).1 (E 3).2)) (g2 : GX s15 m27 m2) : telP A x1 x2 x3 v ∧ cA m2 A :=
  ⟨Or.inr ⟨⟨hx, hk⟩, Or.inr (Or.inr (Or.inr (Or.inr (Or.inl ⟨k, by rw [q A.E (cA_12 h g).1.2.2, te_Cl h hx hk lf (by omega)]⟩))))⟩, cA_15 (cA_12 h g) g2⟩
-- TippedCrates.tells(III)I
set_option maxRecDepth 20000 in
theorem ey_128 {m0 m : Mm} {x1 : Int} {x2 : Int} {x3 : Int}  (g_m : G m0 m) (r_x1 : rg x1) (r_x2 : rg x2) (r_x3 : rg x3) (p0 : okS m 274) (p1 : lwOk m0 11) (p2 : ∃ E, LSd m 11 E) : CK 4 128 [.ref 0, iv x1, iv x2, iv x3] m (fun m2 v => G m0 m2 ∧ ((True) ∧ (∀ A, cA m A → telP A x1 x2 x3 v ∧ cA m2 A))) := by
  refine br_128 r_x1 r_x2 r_x3 ?_
  unfold P_128
  have ok := p0
  have okn := p0.1
  have t73 := ty_7_3 g_m.1
  refine CK.mono (ct_162   g_m.1 r_x1) (by decide) ?_
  rintro m2 v2 r_v2 ⟨e_m2, h_m2⟩
  replace e_m2 := e_m2.symm
  subst e_m2
  refine ⟨fun m_15 => G m0 m_15 ∧ (m_15 = m ∧ (¬ (0 ≤ x1 ∧ x1 ≤ rd m 7 3 - 1) ∨ ¬ (0 ≤ x2 ∧ x2 ≤ 3))), ?_, ?_⟩
  · skip
    refine ⟨fun hq => ?_, fun hq => ?_⟩
    · skip
      exact ⟨g_m, by exact ⟨rfl, by omega⟩⟩
    · skip
      refine CK.mono (ct_165   r_x2) (by decide) ?_
      rintro m9 v9 r_v9 ⟨e_m9, h_m9⟩
      replace e_m9 := e_m9.symm
      subst e_m9
      refine ⟨fun hq => ?_, fun hq => ?_⟩
      · skip
        have fl := ok.2.1 (Int.toNat x1) (by omega)
        refine CV.mono (ey_2   g_m.1 st_274 r_x1 r_x2 (by omega) (by omega) fl) (by decide) ?_
        rintro m27 ⟨hx_m27, h_m27⟩
        have g_m27 : G m0 m27 := gx_in g_m hx_m27 in_s12_scr
        refine ⟨fun hq => ?_, fun hq => ?_, fun hq => ?_, fun hq => ?_, fun hq => ?_, fun hq => ?_⟩
        · skip
          have fl27 : 0 ≤ rd m27 276 (Int.toNat x1) := by rw [hx_m27.2.1 276 _ rfl]; exact fl
          refine CK.mono (ct_1   g_m27.1 st_274 r_x1 r_x2 (by omega) (by omega) fl27) (by decide) ?_
          rintro m74 v74 r_v74 ⟨e_m74, h_m74⟩
          replace e_m74 := e_m74.symm
          subst e_m74
          refine ⟨fun s0_85 => (s0_85 = 1 ∧ ¬ v74 = 0) ∨ (s0_85 = 0 ∧ v74 = 0), ?_, ?_⟩
          · skip
            refine ⟨fun hq => ?_, fun hq => ?_⟩
            · skip
              (first | exact Or.inl ⟨rfl, by omega⟩ | exact Or.inr ⟨rfl, by omega⟩)
            · skip
              (first | exact Or.inl ⟨rfl, by omega⟩ | exact Or.inr ⟨rfl, by omega⟩)
          · intro s0_85 r_s0_85 hR_85
            exact ⟨g_m27, by exact ⟨by first | trivial | omega | (refine ⟨?_, ?_⟩ <;> omega), by first | (have u := hR_85; exact fun A h => te_C0 h (te_Cx h (by omega)) (by omega) (by omega) hx_m27 h_m74 hR_85) | (have u := h_m90; exact fun A h => te_C1 h (te_Cx h (by omega)) (by omega) (by omega) hx_m27 h_m27.2 h_m90.2 hx_m90) | (have u := hR_110; exact fun A h => te_C2 h (te_Cx h (by omega)) (by omega) (by omega) hx_m27 h_m27.2 h_m99.2 hR_110 hx_m99) | (have u := hR_127; exact fun A h => te_C3 h (te_Cx h (by omega)) (by omega) (by omega) hx_m27 h_m27.2 h_m116.2 hR_127 hx_m116) | (have u := h_m132; exact fun A h => te_C4 h (te_Cx h (by omega)) (by omega) (by omega) hx_m27 h_m27.2 h_m132.2 hx_m132) | (have u := h_m27; exact fun A h => ⟨Or.inr ⟨⟨te_Cx h (by omega), by omega⟩, Or.inr (Or.inr (Or.inr (Or.inr (Or.inr ⟨by omega, rfl⟩))))⟩, cA_12 h hx_m27⟩) | exact fun A h => te_Cn h hR_15.1 hR_15.2⟩⟩
        · skip
          refine CK.mono (ey_4   g_m27.1 (lwOk_G p1 g_m27) (lsE_12 p2 hx_m27)) (by decide) ?_
          rintro m90 v90 r_v90 ⟨hx_m90, h_m90⟩
          have g_m90 : G m0 m90 := gx_in g_m27 hx_m90 in_s15_scr
          exact ⟨g_m90, by exact ⟨by first | trivial | omega | (refine ⟨?_, ?_⟩ <;> omega), by first | (have u := hR_85; exact fun A h => te_C0 h (te_Cx h (by omega)) (by omega) (by omega) hx_m27 h_m74 hR_85) | (have u := h_m90; exact fun A h => te_C1 h (te_Cx h (by omega)) (by omega) (by omega) hx_m27 h_m27.2 h_m90.2 hx_m90) | (have u := hR_110; exact fun A h => te_C2 h (te_Cx h (by omega)) (by omega) (by omega) hx_m27 h_m27.2 h_m99.2 hR_110 hx_m99) | (have u := hR_127; exact fun A h => te_C3 h (te_Cx h (by omega)) (by omega) (by omega) hx_m27 h_m27.2 h_m116.2 hR_127 hx_m116) | (have u := h_m132; exact fun A h => te_C4 h (te_Cx h (by omega)) (by omega) (by omega) hx_m27 h_m27.2 h_m132.2 hx_m132) | (have u := h_m27; exact fun A h => ⟨Or.inr ⟨⟨te_Cx h (by omega), by omega⟩, Or.inr (Or.inr (Or.inr (Or.inr (Or.inr ⟨by omega, rfl⟩))))⟩, cA_12 h hx_m27⟩) | exact fun A h => te_Cn h hR_15.1 hR_15.2⟩⟩
        · skip
          refine CK.mono (ey_6   g_m27.1 (by unfold rg; decide) (lwOk_G p1 g_m27) (by omega) (lsE_12 p2 hx_m27)) (by decide) ?_
          rintro m99 v99 r_v99 ⟨hx_m99, h_m99⟩
          have g_m99 : G m0 m99 := gx_in g_m27 hx_m99 in_s15_scr
          refine ⟨fun s0_110 => (s0_110 = 1 ∧ ¬ v99 = 0) ∨ (s0_110 = 0 ∧ v99 = 0), ?_, ?_⟩
          · skip
            refine ⟨fun hq => ?_, fun hq => ?_⟩
            · skip
              (first | exact Or.inl ⟨rfl, by omega⟩ | exact Or.inr ⟨rfl, by omega⟩)
            · skip
              (first | exact Or.inl ⟨rfl, by omega⟩ | exact Or.inr ⟨rfl, by omega⟩)
          · intro s0_110 r_s0_110 hR_110
            exact ⟨g_m99, by exact ⟨by first | trivial | omega | (refine ⟨?_, ?_⟩ <;> omega), by first | (have u := hR_85; exact fun A h => te_C0 h (te_Cx h (by omega)) (by omega) (by omega) hx_m27 h_m74 hR_85) | (have u := h_m90; exact fun A h => te_C1 h (te_Cx h (by omega)) (by omega) (by omega) hx_m27 h_m27.2 h_m90.2 hx_m90) | (have u := hR_110; exact fun A h => te_C2 h (te_Cx h (by omega)) (by omega) (by omega) hx_m27 h_m27.2 h_m99.2 hR_110 hx_m99) | (have u := hR_127; exact fun A h => te_C3 h (te_Cx h (by omega)) (by omega) (by omega) hx_m27 h_m27.2 h_m116.2 hR_127 hx_m116) | (have u := h_m132; exact fun A h => te_C4 h (te_Cx h (by omega)) (by omega) (by omega) hx_m27 h_m27.2 h_m132.2 hx_m132) | (have u := h_m27; exact fun A h => ⟨Or.inr ⟨⟨te_Cx h (by omega), by omega⟩, Or.inr (Or.inr (Or.inr (Or.inr (Or.inr ⟨by omega, rfl⟩))))⟩, cA_12 h hx_m27⟩) | exact fun A h => te_Cn h hR_15.1 hR_15.2⟩⟩
        · skip
          refine CK.mono (ey_6   g_m27.1 (by unfold rg; decide) (lwOk_G p1 g_m27) (by omega) (lsE_12 p2 hx_m27)) (by decide) ?_
          rintro m116 v116 r_v116 ⟨hx_m116, h_m116⟩
          have g_m116 : G m0 m116 := gx_in g_m27 hx_m116 in_s15_scr
          refine ⟨fun s0_127 => (s0_127 = 1 ∧ ¬ v116 = 0) ∨ (s0_127 = 0 ∧ v116 = 0), ?_, ?_⟩
          · skip
            refine ⟨fun hq => ?_, fun hq => ?_⟩
            · skip
              (first | exact Or.inl ⟨rfl, by omega⟩ | exact Or.inr ⟨rfl, by omega⟩)
            · skip
              (first | exact Or.inl ⟨rfl, by omega⟩ | exact Or.inr ⟨rfl, by omega⟩)
          · intro s0_127 r_s0_127 hR_127
            exact ⟨g_m116, by exact ⟨by first | trivial | omega | (refine ⟨?_, ?_⟩ <;> omega), by first | (have u := hR_85; exact fun A h => te_C0 h (te_Cx h (by omega)) (by omega) (by omega) hx_m27 h_m74 hR_85) | (have u := h_m90; exact fun A h => te_C1 h (te_Cx h (by omega)) (by omega) (by omega) hx_m27 h_m27.2 h_m90.2 hx_m90) | (have u := hR_110; exact fun A h => te_C2 h (te_Cx h (by omega)) (by omega) (by omega) hx_m27 h_m27.2 h_m99.2 hR_110 hx_m99) | (have u := hR_127; exact fun A h => te_C3 h (te_Cx h (by omega)) (by omega) (by omega) hx_m27 h_m27.2 h_m116.2 hR_127 hx_m116) | (have u := h_m132; exact fun A h => te_C4 h (te_Cx h (by omega)) (by omega) (by omega) hx_m27 h_m27.2 h_m132.2 hx_m132) | (have u := h_m27; exact fun A h => ⟨Or.inr ⟨⟨te_Cx h (by omega), by omega⟩, Or.inr (Or.inr (Or.inr (Or.inr (Or.inr ⟨by omega, rfl⟩))))⟩, cA_12 h hx_m27⟩) | exact fun A h => te_Cn h hR_15.1 hR_15.2⟩⟩
        · skip
          refine CK.mono (ey_5   g_m27.1 (lwOk_G p1 g_m27) (lsE_12 p2 hx_m27)) (by decide) ?_
          rintro m132 v132 r_v132 ⟨hx_m132, h_m132⟩
          have g_m132 : G m0 m132 := gx_in g_m27 hx_m132 in_s15_scr
          exact ⟨g_m132, by exact ⟨by first | trivial | omega | (refine ⟨?_, ?_⟩ <;> omega), by first | (have u := hR_85; exact fun A h => te_C0 h (te_Cx h (by omega)) (by omega) (by omega) hx_m27 h_m74 hR_85) | (have u := h_m90; exact fun A h => te_C1 h (te_Cx h (by omega)) (by omega) (by omega) hx_m27 h_m27.2 h_m90.2 hx_m90) | (have u := hR_110; exact fun A h => te_C2 h (te_Cx h (by omega)) (by omega) (by omega) hx_m27 h_m27.2 h_m99.2 hR_110 hx_m99) | (have u := hR_127; exact fun A h => te_C3 h (te_Cx h (by omega)) (by omega) (by omega) hx_m27 h_m27.2 h_m116.2 hR_127 hx_m116) | (have u := h_m132; exact fun A h => te_C4 h (te_Cx h (by omega)) (by omega) (by omega) hx_m27 h_m27.2 h_m132.2 hx_m132) | (have u := h_m27; exact fun A h => ⟨Or.inr ⟨⟨te_Cx h (by omega), by omega⟩, Or.inr (Or.inr (Or.inr (Or.inr (Or.inr ⟨by omega, rfl⟩))))⟩, cA_12 h hx_m27⟩) | exact fun A h => te_Cn h hR_15.1 hR_15.2⟩⟩
        · skip
          exact ⟨g_m27, by exact ⟨by first | trivial | omega | (refine ⟨?_, ?_⟩ <;> omega), by first | (have u := hR_85; exact fun A h => te_C0 h (te_Cx h (by omega)) (by omega) (by omega) hx_m27 h_m74 hR_85) | (have u := h_m90; exact fun A h => te_C1 h (te_Cx h (by omega)) (by omega) (by omega) hx_m27 h_m27.2 h_m90.2 hx_m90) | (have u := hR_110; exact fun A h => te_C2 h (te_Cx h (by omega)) (by omega) (by omega) hx_m27 h_m27.2 h_m99.2 hR_110 hx_m99) | (have u := hR_127; exact fun A h => te_C3 h (te_Cx h (by omega)) (by omega) (by omega) hx_m27 h_m27.2 h_m116.2 hR_127 hx_m116) | (have u := h_m132; exact fun A h => te_C4 h (te_Cx h (by omega)) (by omega) (by omega) hx_m27 h_m27.2 h_m132.2 hx_m132) | (have u := h_m27; exact fun A h => ⟨Or.inr ⟨⟨te_Cx h (by omega), by omega⟩, Or.inr (Or.inr (Or.inr (Or.inr (Or.inr ⟨by omega, rfl⟩))))⟩, cA_12 h hx_m27⟩) | exact fun A h => te_Cn h hR_15.1 hR_15.2⟩⟩
      · skip
        exact ⟨g_m, by exact ⟨rfl, by omega⟩⟩
  · intro m_15  hR_15
    obtain ⟨g_m_15, hR_15⟩ := hR_15
    exact ⟨g_m_15, by exact ⟨by first | trivial | omega | (refine ⟨?_, ?_⟩ <;> omega), by first | (have u := hR_85; exact fun A h => te_C0 h (te_Cx h (by omega)) (by omega) (by omega) hx_m27 h_m74 hR_85) | (have u := h_m90; exact fun A h => te_C1 h (te_Cx h (by omega)) (by omega) (by omega) hx_m27 h_m27.2 h_m90.2 hx_m90) | (have u := hR_110; exact fun A h => te_C2 h (te_Cx h (by omega)) (by omega) (by omega) hx_m27 h_m27.2 h_m99.2 hR_110 hx_m99) | (have u := hR_127; exact fun A h => te_C3 h (te_Cx h (by omega)) (by omega) (by omega) hx_m27 h_m27.2 h_m116.2 hR_127 hx_m116) | (have u := h_m132; exact fun A h => te_C4 h (te_Cx h (by omega)) (by omega) (by omega) hx_m27 h_m27.2 h_m132.2 hx_m132) | (have u := h_m27; exact fun A h => ⟨Or.inr ⟨⟨te_Cx h (by omega), by omega⟩, Or.inr (Or.inr (Or.inr (Or.inr (Or.inr ⟨by omega, rfl⟩))))⟩, cA_12 h hx_m27⟩) | exact fun A h => te_Cn h hR_15.1 hR_15.2⟩⟩
