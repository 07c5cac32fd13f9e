theorem th_M {m0 m m2 : Mm} {A : Ab} {x1 x2 x3 s : Int} (y : YM m A.Y A.E A.r ∧ mA m A) (h0 : mA m0 A) (cp : cpR m0 m) (l : 0 ≤ rd m 284 18 ∧ rd m 284 18 ≤ 1) (hx : 0 ≤ x1 ∧ x1 < A.Y 3) (h2 : 0 ≤ x2 ∧ x2 ≤ 60) (h3 : 0 ≤ x3 ∧ x3 ≤ 1) (g : GX sR m m2) (q : ∀ Y E r, YM m Y E r → YM m2 Y E (goN Y E (rd m 284 58) r (Int.toNat x2))) (e : (x3 = 0 ∧ s = rd m2 323 (Int.toNat (43 + x1))) ∨ (¬ x3 = 0 ∧ s = rd m2 323 (Int.toNat (25 + 6 * x1)))) : s = thnA A x1 x2 x3 ∧ mA m2 A := by
  have e58 : rd m 284 58 = A.Y 4 := cp.2.1.trans h0.1.1.2.2.2.2
  have t := q A.Y A.E A.r y.1
  rw [e58] at t
  have y3 := y.1.2.2.1.2.2
  refine ⟨?_, mA_sR y.2 l g⟩
  unfold thnA
  rw [if_pos ⟨hx, h2, h3⟩]
  rcases e with ⟨a, b⟩ | ⟨a, b⟩
  · rw [if_pos a, b]
    exact t.2.1 (Int.toNat (43 + x1)) (by omega)
  · rw [if_neg a, b]
    exact t.2.1 (Int.toNat (25 + 6 * x1)) (by omega)
theorem th_Mn {m m24 : Mm} {A : Ab} {x1 x2 x3 : Int} (h : mA m A) (e : m24 = m) (c : ¬ (0 ≤ x1 ∧ x1 < rd m 302 (Int.toNat (rd m 284 18))) ∨ ¬ (0 ≤ x2 ∧ x2 ≤ 60) ∨ ¬ (0 ≤ x3 ∧ x3 ≤ 1)) : (-1 : Int) = thnA A x1 x2 x3 ∧ mA m24 A := by
  subst e
  rw [h.1.1.2.2.2.1] at c
  refine ⟨?_, h⟩
  unfold thnA
  rw [if_neg (by omega)]
theorem yr_M {m41 m49 m60 m65 : Mm} {A : Ab} {x1 x2 x3 x5 x6 y z : Int} (d : mA m41 A ∧ x5 = yrN A x1 x2 x3 (Int.toNat x6)) (oY : okY A.Y) (oR : okR A.Y A.r) (l41 : 0 ≤ rd m41 284 18 ∧ rd m41 284 18 ≤ 1) (cp : cpR m41 m49) (l49 : 0 ≤ rd m49 284 18 ∧ rd m49 284 18 ≤ 1) (hx : 0 ≤ x1 ∧ x1 < A.Y 3) (e60 : m60 = wt m49 284 58 (wr (rd m49 284 58 + x6))) (g : GX sR m60 m65) (q : ∀ Y E r, YM m60 Y E r → YM m65 Y E (goN Y E (rd m60 284 58) r (Int.toNat x3))) (ey : (rd m65 323 (Int.toNat (25 + 6 * x1)) = x2 ∧ y = wr (x5 + 1)) ∨ (¬ rd m65 323 (Int.toNat (25 + 6 * x1)) = x2 ∧ y = x5)) (e6 : 0 ≤ x6 ∧ z = x6 + 1) : mA m65 A ∧ y = yrN A x1 x2 x3 (Int.toNat z) := by
  have y1 := mA_cp d.1 oY oR l41 cp
  have e58 : rd m49 284 58 = A.Y 4 := cp.2.1.trans d.1.1.1.2.2.2.2
  have F : ∀ i j : Nat, ¬ (i = 284 ∧ j = 58) → rd m60 i j = rd m49 i j := fun i j p => by rw [e60, rd_wt, if_neg (by omega)]
  have r58 : rd m60 284 58 = wr (A.Y 4 + x6) := by rw [e60, rd_wt, if_pos ⟨rfl, rfl⟩, wr_i (wr_rg _), e58]
  have pl := plM_fr y1.1.1 l49 (fun i j p => F i j (by unfold plR at p; omega))
  have t := q A.Y A.E A.r ⟨pl, fun j hj => (F 323 j (by omega)).trans (y1.1.2.1 j hj), oY, oR⟩
  rw [r58] at t
  have l60 : 0 ≤ rd m60 284 18 ∧ rd m60 284 18 ≤ 1 := by rw [F 284 18 (by omega)]; exact l49
  have a60 : mA m60 A := mA_fr y1.2 l49 (fun i j p => F i j (by unfold plR at p; omega))
  have y3 := oY.2.2
  exact ⟨mA_sR a60 l60 g, yr_s d.2 (t.2.1 (Int.toNat (25 + 6 * x1)) (by omega)) ey e6⟩
theorem yr_Mr {m41 : Mm} {A : Ab} {x1 x2 x3 x4 x5 x6 : Int} (d : mA m41 A ∧ x5 = yrN A x1 x2 x3 (Int.toNat x6)) (hx : 0 ≤ x1 ∧ x1 < A.Y 3) (h2 : 0 ≤ x2 ∧ x2 ≤ 9) (h3 : 0 ≤ x3 ∧ x3 ≤ 60) (h4 : 1 ≤ x4 ∧ x4 ≤ 20) (e : x6 = x4) : x5 = yrA A x1 x2 x3 x4 ∧ mA m41 A := by
  subst e
  refine ⟨?_, d.1⟩
  unfold yrA
  rw [if_pos ⟨hx, h2, h3, h4⟩]
  exact d.2
theorem yr_Mn {m m33 : Mm} {A : Ab} {x1 x2 x3 x4 : Int} (h : mA m A) (e : m33 = m) (c : ¬ (0 ≤ x1 ∧ x1 < rd m 302 (Int.toNat (rd m 284 18))) ∨ ¬ (0 ≤ x2 ∧ x2 ≤ 9) ∨ ¬ (0 ≤ x3 ∧ x3 ≤ 60) ∨ ¬ (1 ≤ x4 ∧ x4 ≤ 20)) : (-1 : Int) = yrA A x1 x2 x3 x4 ∧ mA m33 A := by
  subst e
  rw [h.1.1.2.2.2.1] at c
  refine ⟨?_, h⟩
  unfold yrA
  rw [if_neg (by omega)]
-- TippedCratesModel.then(III)I
set_option maxRecDepth 20000 in
theorem mz_273 {m0 m : Mm} {x1 : Int} {x2 : Int} {x3 : Int}  (g_m : G m0 m) (r_x1 : rg x1) (r_x2 : rg x2) (r_x3 : rg x3) (p0 : MW m0) (p1 : lawsM m0) : CK 9 273 [.ref 284, iv x1, iv x2, iv x3] m (fun m2 v => G m0 m2 ∧ ((True) ∧ (∀ A, okY A.Y → okR A.Y A.r → A.n ≤ 40 → mA m A → v = thnA A x1 x2 x3 ∧ mA m2 A))) := by
  refine br_273 r_x1 r_x2 r_x3 ?_
  unfold P_273
  refine CK.mono (ct_210   g_m.1 r_x1) (by decide) ?_
  rintro m2 v2 r_v2 ⟨e_m2, h_m2⟩
  replace e_m2 := e_m2.symm
  subst e_m2
  refine ⟨fun m_24 => G m0 m_24 ∧ (m_24 = m ∧ (¬ (0 ≤ x1 ∧ x1 < rd m 302 (Int.toNat (rd m 284 18))) ∨ ¬ (0 ≤ x2 ∧ x2 ≤ 60) ∨ ¬ (0 ≤ x3 ∧ x3 ≤ 1))), ?_, ?_⟩
  · skip
    refine ⟨fun hq => ?_, fun hq => ?_⟩
    · skip
      exact ⟨g_m, by exact ⟨rfl, by omega⟩⟩
    · skip
      refine CK.mono (ct_243   r_x2) (by decide) ?_
      rintro m9 v9 r_v9 ⟨e_m9, h_m9⟩
      replace e_m9 := e_m9.symm
      subst e_m9
      refine ⟨fun hq => ?_, fun hq => ?_⟩
      · skip
        exact ⟨g_m, by exact ⟨rfl, by omega⟩⟩
      · skip
        refine CK.mono (ct_206   r_x3 (by unfold rg; decide) (by unfold rg; decide)) (by decide) ?_
        rintro m18 v18 r_v18 ⟨e_m18, h_m18⟩
        replace e_m18 := e_m18.symm
        subst e_m18
        refine ⟨fun hq => ?_, fun hq => ?_⟩
        · skip
          refine CV.mono (mz_216   g_m.1) (by decide) ?_
          rintro m27 ⟨hx_m27, h_m27⟩
          have g_m27 : G m0 m27 := gx_in g_m hx_m27 in_sC_scr
          refine CV.mono (mz_235   g_m27.1 r_x2 (MW_G p0 g_m27) (laws_G p1 g_m27) (by omega)) (by decide) ?_
          rintro m32 ⟨hx_m32, h_m32⟩
          have g_m32 : G m0 m32 := gx_in g_m27 hx_m32 in_sR_scr
          refine ⟨fun s0_63 => (x3 = 0 ∧ s0_63 = rd m32 323 (Int.toNat (43 + x1))) ∨ (¬ x3 = 0 ∧ s0_63 = rd m32 323 (Int.toNat (25 + 6 * x1))), ?_, ?_⟩
          · skip
            refine ⟨fun hq => ?_, fun hq => ?_⟩
            · skip
              try have w1 : wr (6 * x1) = 6 * x1 := wr_id (by omega) (by omega)
              try have w2 : wr (25 + (wr (6 * x1))) = 25 + (wr (6 * x1)) := wr_id (by omega) (by omega)
              refine ⟨⟨by omega, by omega⟩, ?_⟩
              have t3 := tr_323 g_m32.1 (Int.toNat (wr (25 + (wr (6 * x1)))))
              (first | exact Or.inl ⟨by assumption, congrArg (rd m32 323) (by omega)⟩ | exact Or.inr ⟨by assumption, congrArg (rd m32 323) (by omega)⟩)
            · skip
              try have w4 : wr (43 + x1) = 43 + x1 := wr_id (by omega) (by omega)
              refine ⟨⟨by omega, by omega⟩, ?_⟩
              have t5 := tr_323 g_m32.1 (Int.toNat (wr (43 + x1)))
              (first | exact Or.inl ⟨by assumption, congrArg (rd m32 323) (by omega)⟩ | exact Or.inr ⟨by assumption, congrArg (rd m32 323) (by omega)⟩)
          · intro s0_63 r_s0_63 hR_63
            exact ⟨g_m32, by exact ⟨by first | trivial | omega | (refine ⟨?_, ?_⟩ <;> omega), by first | (have u := hR_63; exact fun A oY oR _ h => th_M (mA_cp h oY oR (ty_284_18 g_m.1) h_m27.2) h h_m27.2 (ty_284_18 g_m27.1) (te_x h oY (by omega)) (by omega) (by omega) hx_m32 h_m32.2 hR_63) | exact fun A _ _ _ h => th_Mn h hR_24.1 hR_24.2⟩⟩
        · skip
          exact ⟨g_m, by exact ⟨rfl, by omega⟩⟩
  · intro m_24  hR_24
    obtain ⟨g_m_24, hR_24⟩ := hR_24
    exact ⟨g_m_24, by exact ⟨by first | trivial | omega | (refine ⟨?_, ?_⟩ <;> omega), by first | (have u := hR_63; exact fun A oY oR _ h => th_M (mA_cp h oY oR (ty_284_18 g_m.1) h_m27.2) h h_m27.2 (ty_284_18 g_m27.1) (te_x h oY (by omega)) (by omega) (by omega) hx_m32 h_m32.2 hR_63) | exact fun A _ _ _ h => th_Mn h hR_24.1 hR_24.2⟩⟩
-- TippedCratesModel.year(IIII)I
set_option maxRecDepth 20000 in
theorem mz_276 {m0 m : Mm} {x1 : Int} {x2 : Int} {x3 : Int} {x4 : Int}  (g_m : G m0 m) (r_x1 : rg x1) (r_x2 : rg x2) (r_x3 : rg x3) (r_x4 : rg x4) (p0 : MW m0) (p1 : lawsM m0) : CK 9 276 [.ref 284, iv x1, iv x2, iv x3, iv x4] m (fun m2 v => G m0 m2 ∧ ((True) ∧ (∀ A, okY A.Y → okR A.Y A.r → A.n ≤ 40 → mA m A → v = yrA A x1 x2 x3 x4 ∧ mA m2 A))) := by
  refine br_276 r_x1 r_x2 r_x3 r_x4 ?_
  unfold P_276
  refine CK.mono (ct_210   g_m.1 r_x1) (by decide) ?_
  rintro m2 v2 r_v2 ⟨e_m2, h_m2⟩
  replace e_m2 := e_m2.symm
  subst e_m2
  refine ⟨fun m_33 => G m0 m_33 ∧ (m_33 = m ∧ (¬ (0 ≤ x1 ∧ x1 < rd m 302 (Int.toNat (rd m 284 18))) ∨ ¬ (0 ≤ x2 ∧ x2 ≤ 9) ∨ ¬ (0 ≤ x3 ∧ x3 ≤ 60) ∨ ¬ (1 ≤ x4 ∧ x4 ≤ 20))), ?_, ?_⟩
  · skip
    refine ⟨fun hq => ?_, fun hq => ?_⟩
    · skip
      exact ⟨g_m, by exact ⟨rfl, by omega⟩⟩
    · skip
      refine CK.mono (ct_211   r_x2) (by decide) ?_
      rintro m9 v9 r_v9 ⟨e_m9, h_m9⟩
      replace e_m9 := e_m9.symm
      subst e_m9
      refine ⟨fun hq => ?_, fun hq => ?_⟩
      · skip
        exact ⟨g_m, by exact ⟨rfl, by omega⟩⟩
      · skip
        refine CK.mono (ct_243   r_x3) (by decide) ?_
        rintro m16 v16 r_v16 ⟨e_m16, h_m16⟩
        replace e_m16 := e_m16.symm
        subst e_m16
        refine ⟨fun hq => ?_, fun hq => ?_⟩
        · skip
          exact ⟨g_m, by exact ⟨rfl, by omega⟩⟩
        · skip
          refine CK.mono (ct_206   r_x4 (by unfold rg; decide) (by unfold rg; decide)) (by decide) ?_
          rintro m27 v27 r_v27 ⟨e_m27, h_m27⟩
          replace e_m27 := e_m27.symm
          subst e_m27
          refine ⟨fun hq => ?_, fun hq => ?_⟩
          · skip
            refine ⟨fun x5_41 x6_41 m_41 => G m0 m_41 ∧ (((0 ≤ x6_41 ∧ x6_41 ≤ 20) ∧ x6_41 ≤ x4) ∧ (∀ A, okY A.Y → okR A.Y A.r → A.n ≤ 40 → mA m A → mA m_41 A ∧ x5_41 = yrN A x1 x2 x3 (Int.toNat x6_41))), fun x5_41 x6_41 m_41 => Int.toNat (20 - x6_41), ?_, ?_⟩
            · exact ⟨g_m, by exact ⟨by first | omega | (refine ⟨?_, ?_⟩ <;> omega) | trivial, by exact fun A _ _ _ h => ⟨h, rfl⟩⟩⟩
            · intro x5_41 x6_41 m_41 r_x5_41 r_x6_41 hI_41
              obtain ⟨g_m_41, hI_41⟩ := hI_41
              obtain ⟨hI_41, dI_41⟩ := hI_41
              refine ⟨fun hq => ?_, fun hq => ?_⟩
              · skip
                exact ⟨g_m_41, by exact ⟨by first | trivial | omega | (refine ⟨?_, ?_⟩ <;> omega), by first | (have u := dI_41; exact fun A oY oR n40 h => yr_Mr (dI_41 A oY oR n40 h) (te_x h oY (by omega)) (by omega) (by omega) (by omega) (by omega)) | exact fun A _ _ _ h => yr_Mn h hR_33.1 hR_33.2⟩⟩
              · skip
                refine CV.mono (mz_216   g_m_41.1) (by decide) ?_
                rintro m49 ⟨hx_m49, h_m49⟩
                have g_m49 : G m0 m49 := gx_in g_m_41 hx_m49 in_sC_scr
                try have w2 : wr ((rd m49 284 58) + x6_41) = (rd m49 284 58) + x6_41 := wr_id (by omega) (by omega)
                intro m60 e_m60
                have g_m60 : G m0 m60 := by rw [e_m60]; exact GX.wt g_m49 (tw_284_58 g_m49.1 (wr_rg _)) (Eq.refl true)
                refine CV.mono (mz_235   g_m60.1 r_x3 (MW_G p0 g_m60) (laws_G p1 g_m60) (by omega)) (by decide) ?_
                rintro m65 ⟨hx_m65, h_m65⟩
                have g_m65 : G m0 m65 := gx_in g_m60 hx_m65 in_sR_scr
                try have w3 : wr (6 * x1) = 6 * x1 := wr_id (by omega) (by omega)
                try have w4 : wr (25 + (wr (6 * x1))) = 25 + (wr (6 * x1)) := wr_id (by omega) (by omega)
                refine ⟨⟨by omega, by omega⟩, ?_⟩
                have t5 := tr_323 g_m65.1 (Int.toNat (wr (25 + (wr (6 * x1)))))
                refine ⟨fun y5_87 => (rd m65 323 (Int.toNat (25 + 6 * x1)) = x2 ∧ y5_87 = wr (x5_41 + 1)) ∨ (¬ rd m65 323 (Int.toNat (25 + 6 * x1)) = x2 ∧ y5_87 = x5_41), ?_, ?_⟩
                · skip
                  refine ⟨fun hq => ?_, fun hq => ?_⟩
                  · skip
                    (first | exact Or.inl ⟨(congrArg (rd m65 323) (by omega)).trans hq, by assumption⟩ | exact Or.inr ⟨fun w => hq ((congrArg (rd m65 323) (by omega)).trans w), rfl⟩)
                  · skip
                    try have w6 : wr (x5_41 + 1) = x5_41 + 1 := wr_id (by omega) (by omega)
                    intro z5_84 e_z5_84
                    have r_z5_84 : rg z5_84 := by rw [e_z5_84]; exact wr_rg _
                    (first | exact Or.inl ⟨(congrArg (rd m65 323) (by omega)).trans hq, by assumption⟩ | exact Or.inr ⟨fun w => hq ((congrArg (rd m65 323) (by omega)).trans w), rfl⟩)
                · intro y5_87 r_y5_87 hR_87
                  try have w7 : wr (x6_41 + 1) = x6_41 + 1 := wr_id (by omega) (by omega)
                  intro z6_87 e_z6_87
                  have r_z6_87 : rg z6_87 := by rw [e_z6_87]; exact wr_rg _
                  exact ⟨⟨g_m65, by exact ⟨by first | omega | (refine ⟨?_, ?_⟩ <;> omega) | trivial, by exact fun A oY oR n40 h => yr_M (dI_41 A oY oR n40 h) oY oR (ty_284_18 g_m_41.1) h_m49.2 (ty_284_18 g_m49.1) (te_x h oY (by omega)) e_m60 hx_m65 h_m65.2 hR_87 (by omega)⟩⟩, by (try dsimp only); omega⟩
          · skip
            exact ⟨g_m, by exact ⟨rfl, by omega⟩⟩
  · intro m_33  hR_33
    obtain ⟨g_m_33, hR_33⟩ := hR_33
    exact ⟨g_m_33, by exact ⟨by first | trivial | omega | (refine ⟨?_, ?_⟩ <;> omega), by first | (have u := dI_41; exact fun A oY oR n40 h => yr_Mr (dI_41 A oY oR n40 h) (te_x h oY (by omega)) (by omega) (by omega) (by omega) (by omega)) | exact fun A _ _ _ h => yr_Mn h hR_33.1 hR_33.2⟩⟩
