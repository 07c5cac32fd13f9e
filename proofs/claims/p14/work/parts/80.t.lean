theorem in_sC_sMd (i j : Nat) (h : sC i j = true) : sMd i j = true := by
  rcases sC_in h with rfl | ⟨rfl, rfl⟩ <;> rfl
theorem in_sR_sMd (i j : Nat) (h : sR i j = true) : sMd i j = true := by
  rcases sR_in h with rfl | rfl | ⟨rfl, rfl⟩ | rfl | rfl <;> rfl
theorem sMd_no {i j : Nat} (h : i = 293 ∨ i = 294 ∨ (307 ≤ i ∧ i ≤ 315)) : sMd i j = false := by
  have : i = 293 ∨ i = 294 ∨ i = 307 ∨ i = 308 ∨ i = 309 ∨ i = 310 ∨ i = 311 ∨ i = 312 ∨ i = 313 ∨ i = 314 ∨ i = 315 := by omega
  rcases this with rfl | rfl | rfl | rfl | rfl | rfl | rfl | rfl | rfl | rfl | rfl <;> rfl
theorem MW_D {m m2 : Mm} (h : MW m) (g : GX sMd m m2) : MW m2 := by
  unfold MW
  rw [g.2.1 284 18 rfl, g.2.1 293 _ (sMd_no (by omega)), g.2.1 294 _ (sMd_no (by omega))]
  exact h
theorem laws_D {m m2 : Mm} (h : lawsM m) (g : GX sMd m m2) : lawsM m2 := laws_fr h (g.2.1 284 18 rfl) (fun i j hi => g.2.1 i j (sMd_no (by omega)))
-- TippedCratesModel.tip(II)I
set_option maxRecDepth 20000 in
theorem ct_241 {m : Mm} {x1 : Int} {x2 : Int}  (T_m : Ty m) (r_x1 : rg x1) (r_x2 : rg x2) (p0 : MW m) (p1 : lawsM m) : CK 7 241 [.ref 284, iv x1, iv x2] m (fun m2 v => GX sMd m m2 ∧ (True)) := by
  refine br_241 r_x1 r_x2 ?_
  unfold P_241
  have g_m : GX sMd m m := ⟨T_m, fun _ _ _ => rfl, fun _ _ => rfl⟩
  refine CV.mono (ct_216   T_m) (by decide) ?_
  rintro m1 ⟨hx_m1, h_m1⟩
  have g_m1 : GX sMd m m1 := gx_in g_m hx_m1 in_sC_sMd
  refine CK.mono (ct_210   g_m1.1 r_x1) (by decide) ?_
  rintro m6 v6 r_v6 ⟨e_m6, h_m6⟩
  replace e_m6 := e_m6.symm
  subst e_m6
  refine ⟨fun m_28 => GX sMd m m_28 ∧ (True), ?_, ?_⟩
  · skip
    refine ⟨fun hq => ?_, fun hq => ?_⟩
    · skip
      exact ⟨g_m1, by first | trivial | omega | (refine ⟨?_, ?_⟩ <;> omega)⟩
    · skip
      refine CK.mono (ct_212   r_x2) (by decide) ?_
      rintro m13 v13 r_v13 ⟨e_m13, h_m13⟩
      replace e_m13 := e_m13.symm
      subst e_m13
      refine ⟨fun hq => ?_, fun hq => ?_⟩
      · skip
        exact ⟨g_m1, by first | trivial | omega | (refine ⟨?_, ?_⟩ <;> omega)⟩
      · skip
        refine CK.mono (ct_224   g_m1.1 r_x1 r_x2 (MW_D p0 g_m1) (by omega) (by omega)) (by decide) ?_
        rintro m22 v22 r_v22 ⟨e_m22, h_m22⟩
        replace e_m22 := e_m22.symm
        subst e_m22
        refine ⟨fun hq => ?_, fun hq => ?_⟩
        · skip
          refine CV.mono (ct_233   g_m1.1 r_x1 r_x2 (MW_D p0 g_m1) (laws_D p1 g_m1) (by omega) (by omega) (h_m22.2 (by omega))) (by decide) ?_
          rintro m33 ⟨hx_m33, h_m33⟩
          have g_m33 : GX sMd m m33 := gx_in g_m1 hx_m33 in_sR_sMd
          refine CV.mono (ct_240   g_m33.1) (by decide) ?_
          rintro m37 ⟨hx_m37, h_m37⟩
          have g_m37 : GX sMd m m37 := gx_in g_m33 hx_m37 (fun _ _ h => h)
          try have w1 : wr (43 + x1) = 43 + x1 := wr_id (by omega) (by omega)
          refine ⟨⟨by omega, by omega⟩, ?_⟩
          have t2 := tr_322 g_m37.1 (Int.toNat (wr (43 + x1)))
          exact ⟨g_m37, by first | trivial | omega | (refine ⟨?_, ?_⟩ <;> omega)⟩
        · skip
          exact ⟨g_m1, by first | trivial | omega | (refine ⟨?_, ?_⟩ <;> omega)⟩
  · intro m_28  hR_28
    obtain ⟨g_m_28, hR_28⟩ := hR_28
    exact ⟨g_m_28, by first | trivial | omega | (refine ⟨?_, ?_⟩ <;> omega)⟩
-- TippedCratesModel.paint(II)Z
set_option maxRecDepth 20000 in
theorem ct_242 {m : Mm} {x1 : Int} {x2 : Int}  (T_m : Ty m) (r_x1 : rg x1) (r_x2 : rg x2) (p0 : MW m) (p1 : lawsM m) : CK 3 242 [.ref 284, iv x1, iv x2] m (fun m2 v => GX sMd m m2 ∧ (v = 0 ∨ v = 1)) := by
  refine br_242 r_x1 r_x2 ?_
  unfold P_242
  have g_m : GX sMd m m := ⟨T_m, fun _ _ _ => rfl, fun _ _ => rfl⟩
  refine CV.mono (ct_216   T_m) (by decide) ?_
  rintro m1 ⟨hx_m1, h_m1⟩
  have g_m1 : GX sMd m m1 := gx_in g_m hx_m1 in_sC_sMd
  refine CK.mono (ct_209   g_m1.1 r_x1 (MW_D p0 g_m1)) (by decide) ?_
  rintro m6 v6 r_v6 ⟨e_m6, h_m6⟩
  replace e_m6 := e_m6.symm
  subst e_m6
  refine ⟨fun m_45 => GX sMd m m_45 ∧ (True), ?_, ?_⟩
  · skip
    refine ⟨fun hq => ?_, fun hq => ?_⟩
    · skip
      exact ⟨g_m1, by first | trivial | omega | (refine ⟨?_, ?_⟩ <;> omega)⟩
    · skip
      refine CK.mono (ct_211   r_x2) (by decide) ?_
      rintro m13 v13 r_v13 ⟨e_m13, h_m13⟩
      replace e_m13 := e_m13.symm
      subst e_m13
      refine ⟨fun hq => ?_, fun hq => ?_⟩
      · skip
        exact ⟨g_m1, by first | trivial | omega | (refine ⟨?_, ?_⟩ <;> omega)⟩
      · skip
        refine ⟨⟨by omega, by omega⟩, ?_⟩
        have t1 := tr_323 g_m1.1 (Int.toNat x1)
        refine ⟨fun hq => ?_, fun hq => ?_⟩
        · skip
          exact ⟨g_m1, by first | trivial | omega | (refine ⟨?_, ?_⟩ <;> omega)⟩
        · skip
          refine CK.mono (ct_213   r_x1) (by decide) ?_
          rintro m31 v31 r_v31 ⟨e_m31, h_m31⟩
          replace e_m31 := e_m31.symm
          subst e_m31
          refine ⟨fun hq => ?_, fun hq => ?_⟩
          · skip
            exact ⟨g_m1, by first | trivial | omega | (refine ⟨?_, ?_⟩ <;> omega)⟩
          · skip
            refine CK.mono (ct_237   g_m1.1 r_x1) (by decide) ?_
            rintro m39 v39 r_v39 ⟨e_m39, h_m39⟩
            replace e_m39 := e_m39.symm
            subst e_m39
            refine ⟨fun hq => ?_, fun hq => ?_⟩
            · skip
              refine ⟨⟨by omega, by omega⟩, ?_⟩
              intro m53 e_m53
              have g_m53 : GX sMd m m53 := by rw [e_m53]; exact GX.wt g_m1 (tz_323 g_m1.1 (by first | assumption | omega) (by omega) (by omega)) (Eq.refl true)
              refine CV.mono (ct_240   g_m53.1) (by decide) ?_
              rintro m55 ⟨hx_m55, h_m55⟩
              have g_m55 : GX sMd m m55 := gx_in g_m53 hx_m55 (fun _ _ h => h)
              exact ⟨g_m55, by first | trivial | omega | (refine ⟨?_, ?_⟩ <;> omega)⟩
            · skip
              exact ⟨g_m1, by first | trivial | omega | (refine ⟨?_, ?_⟩ <;> omega)⟩
  · intro m_45  hR_45
    obtain ⟨g_m_45, hR_45⟩ := hR_45
    exact ⟨g_m_45, by first | trivial | omega | (refine ⟨?_, ?_⟩ <;> omega)⟩
-- TippedCratesModel.minutes(I)I
set_option maxRecDepth 20000 in
theorem ct_244 {m : Mm} {x1 : Int}  (T_m : Ty m) (r_x1 : rg x1) (p0 : MW m) (p1 : lawsM m) : CK 9 244 [.ref 284, iv x1] m (fun m2 v => GX sMd m m2 ∧ (True)) := by
  refine br_244 r_x1 ?_
  unfold P_244
  have g_m : GX sMd m m := ⟨T_m, fun _ _ _ => rfl, fun _ _ => rfl⟩
  refine CK.mono (ct_243   r_x1) (by decide) ?_
  rintro m1 v1 r_v1 ⟨e_m1, h_m1⟩
  replace e_m1 := e_m1.symm
  subst e_m1
  refine ⟨fun hq => ?_, fun hq => ?_⟩
  · skip
    refine ⟨fun hq => ?_, fun hq => ?_⟩
    · skip
      refine CV.mono (ct_216   T_m) (by decide) ?_
      rintro m22 ⟨hx_m22, h_m22⟩
      have g_m22 : GX sMd m m22 := gx_in g_m hx_m22 in_sC_sMd
      refine CV.mono (ct_235   g_m22.1 r_x1 (MW_D p0 g_m22) (laws_D p1 g_m22) (by omega)) (by decide) ?_
      rintro m27 ⟨hx_m27, h_m27⟩
      have g_m27 : GX sMd m m27 := gx_in g_m22 hx_m27 in_sR_sMd
      refine CV.mono (ct_240   g_m27.1) (by decide) ?_
      rintro m31 ⟨hx_m31, h_m31⟩
      have g_m31 : GX sMd m m31 := gx_in g_m27 hx_m31 (fun _ _ h => h)
      have t1 := tr_322 g_m31.1 49
      exact ⟨g_m31, by first | trivial | omega | (refine ⟨?_, ?_⟩ <;> omega)⟩
    · skip
      have t2 := tr_322 T_m 49
      exact ⟨g_m, by first | trivial | omega | (refine ⟨?_, ?_⟩ <;> omega)⟩
  · skip
    exact ⟨g_m, by first | trivial | omega | (refine ⟨?_, ?_⟩ <;> omega)⟩
