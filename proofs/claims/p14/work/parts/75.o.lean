theorem four_b {x : Int} (h : 1 ≤ x ∧ x ≤ 5) : 4 ≤ slI 1 (wr (2 * x)) ∧ slI 1 (wr (2 * x)) ≤ 1024 := by
  have : x = 1 ∨ x = 2 ∨ x = 3 ∨ x = 4 ∨ x = 5 := by omega
  rcases this with rfl | rfl | rfl | rfl | rfl <;> decide
-- TippedCratesModel.isLong(I)Z
set_option maxRecDepth 20000 in
theorem ct_243 {m : Mm} {x0 : Int}   (r_x0 : rg x0)  : CK 2 243 [iv x0] m (fun m2 v => m2 = m ∧ ((v = 1 ∧ 0 ≤ x0 ∧ x0 ≤ 60) ∨ (v = 0 ∧ (x0 < 0 ∨ 60 < x0)))) := by
  refine br_243 r_x0 ?_
  unfold P_243
  refine CK.mono (ct_206   r_x0 (by unfold rg; decide) (by unfold rg; decide)) (by decide) ?_
  rintro m4 v4 r_v4 ⟨e_m4, h_m4⟩
  replace e_m4 := e_m4.symm
  subst e_m4
  exact ⟨by omega, ⟨rfl, by first | trivial | omega | (refine ⟨?_, ?_⟩ <;> omega)⟩⟩
-- TippedCratesModel.crateOn(I)I
set_option maxRecDepth 20000 in
theorem ct_237 {m : Mm} {x1 : Int}  (T_m : Ty m) (r_x1 : rg x1)  : CK 1 237 [.ref 284, iv x1] m (fun m2 v => m2 = m ∧ (True)) := by
  refine br_237 r_x1 ?_
  unfold P_237
  refine ⟨fun x2_2 => 0 ≤ x2_2 ∧ x2_2 ≤ 3, fun x2_2 => Int.toNat (3 - x2_2), ?_, ?_⟩
  · (first | omega | (refine ⟨?_, ?_⟩ <;> omega) | trivial)
  · intro x2_2 r_x2_2 hI_2
    have t1 := ty_284_18 T_m
    refine ⟨⟨by omega, by omega⟩, ?_⟩
    have t2 := ty_302 T_m (Int.toNat (rd m 284 18))
    refine ⟨fun hq => ?_, fun hq => ?_⟩
    · skip
      exact ⟨rfl, by first | trivial | omega | (refine ⟨?_, ?_⟩ <;> omega)⟩
    · skip
      try have w3 : wr (43 + x2_2) = 43 + x2_2 := wr_id (by omega) (by omega)
      refine ⟨⟨by omega, by omega⟩, ?_⟩
      have t4 := tr_323 T_m (Int.toNat (wr (43 + x2_2)))
      refine ⟨fun hq => ?_, fun hq => ?_⟩
      · skip
        try have w5 : wr (x2_2 + 1) = x2_2 + 1 := wr_id (by omega) (by omega)
        intro z2_30 e_z2_30
        have r_z2_30 : rg z2_30 := by rw [e_z2_30]; exact wr_rg _
        exact ⟨by first | omega | (refine ⟨?_, ?_⟩ <;> omega) | trivial, by (try dsimp only); omega⟩
      · skip
        exact ⟨rfl, by first | trivial | omega | (refine ⟨?_, ?_⟩ <;> omega)⟩
-- TippedCratesModel.flag(II)I
set_option maxRecDepth 20000 in
theorem ct_236 {m0 m : Mm} {x1 : Int} {x2 : Int}  (g_m : G m0 m) (r_x1 : rg x1) (r_x2 : rg x2) (p0 : MW m0) : CK 3 236 [.ref 284, iv x1, iv x2] m (fun m2 v => G m0 m2 ∧ (True)) := by
  refine br_236 r_x1 r_x2 ?_
  unfold P_236
  refine CK.mono (ct_209   g_m.1 r_x1 (MW_G p0 g_m)) (by decide) ?_
  rintro m2 v2 r_v2 ⟨e_m2, h_m2⟩
  replace e_m2 := e_m2.symm
  subst e_m2
  refine ⟨fun hq => ?_, fun hq => ?_⟩
  · skip
    refine CV.mono (ct_216   g_m.1) (by decide) ?_
    rintro m11 ⟨hx_m11, h_m11⟩
    have g_m11 : G m0 m11 := gx_in g_m hx_m11 in_sC_scr
    refine ⟨fun hq => ?_, fun hq => ?_, fun hq => ?_, fun hq => ?_⟩
    · skip
      refine ⟨⟨by omega, by omega⟩, ?_⟩
      have t1 := tr_323 g_m11.1 (Int.toNat x1)
      exact ⟨g_m11, by first | trivial | omega | (refine ⟨?_, ?_⟩ <;> omega)⟩
    · skip
      refine CK.mono (ct_213   r_x1) (by decide) ?_
      rintro m49 v49 r_v49 ⟨e_m49, h_m49⟩
      replace e_m49 := e_m49.symm
      subst e_m49
      refine ⟨fun s0_60 => (s0_60 = 0 ∨ s0_60 = 1), ?_, ?_⟩
      · skip
        refine ⟨fun hq => ?_, fun hq => ?_⟩
        · skip
          (first | trivial | omega | (refine ⟨?_, ?_⟩ <;> omega))
        · skip
          (first | trivial | omega | (refine ⟨?_, ?_⟩ <;> omega))
      · intro s0_60 r_s0_60 hR_60
        exact ⟨g_m11, by first | trivial | omega | (refine ⟨?_, ?_⟩ <;> omega)⟩
    · skip
      refine CK.mono (ct_237   g_m11.1 r_x1) (by decide) ?_
      rintro m63 v63 r_v63 ⟨e_m63, h_m63⟩
      replace e_m63 := e_m63.symm
      subst e_m63
      exact ⟨g_m11, by first | trivial | omega | (refine ⟨?_, ?_⟩ <;> omega)⟩
    · skip
      exact ⟨g_m11, by first | trivial | omega | (refine ⟨?_, ?_⟩ <;> omega)⟩
  · skip
    exact ⟨g_m, by first | trivial | omega | (refine ⟨?_, ?_⟩ <;> omega)⟩
-- TippedCratesModel.crate(II)I
set_option maxRecDepth 20000 in
theorem ct_238 {m : Mm} {x1 : Int} {x2 : Int}  (T_m : Ty m) (r_x1 : rg x1) (r_x2 : rg x2)  : CK 3 238 [.ref 284, iv x1, iv x2] m (fun m2 v => m2 = m ∧ (True)) := by
  refine br_238 r_x1 r_x2 ?_
  unfold P_238
  refine CK.mono (ct_210   T_m r_x1) (by decide) ?_
  rintro m2 v2 r_v2 ⟨e_m2, h_m2⟩
  replace e_m2 := e_m2.symm
  subst e_m2
  refine ⟨fun m_18 => m_18 = m ∧ (True), ?_, ?_⟩
  · skip
    refine ⟨fun hq => ?_, fun hq => ?_⟩
    · skip
      exact ⟨rfl, by first | trivial | omega | (refine ⟨?_, ?_⟩ <;> omega)⟩
    · skip
      refine CK.mono (ct_206   r_x2 (by unfold rg; decide) (by unfold rg; decide)) (by decide) ?_
      rintro m12 v12 r_v12 ⟨e_m12, h_m12⟩
      replace e_m12 := e_m12.symm
      subst e_m12
      refine ⟨fun hq => ?_, fun hq => ?_⟩
      · skip
        refine ⟨fun s0_70 => True, ?_, ?_⟩
        · skip
          refine ⟨fun hq => ?_, fun hq => ?_⟩
          · skip
            refine ⟨fun hq => ?_, fun hq => ?_⟩
            · skip
              try have w1 : wr (46 + x1) = 46 + x1 := wr_id (by omega) (by omega)
              refine ⟨⟨by omega, by omega⟩, ?_⟩
              have t2 := tr_322 T_m (Int.toNat (wr (46 + x1)))
              (first | trivial | omega | (refine ⟨?_, ?_⟩ <;> omega))
            · skip
              try have w3 : wr (43 + x1) = 43 + x1 := wr_id (by omega) (by omega)
              refine ⟨⟨by omega, by omega⟩, ?_⟩
              have t4 := tr_322 T_m (Int.toNat (wr (43 + x1)))
              (first | trivial | omega | (refine ⟨?_, ?_⟩ <;> omega))
          · skip
            try have w5 : wr (6 * x1) = 6 * x1 := wr_id (by omega) (by omega)
            try have w6 : wr (25 + (wr (6 * x1))) = 25 + (wr (6 * x1)) := wr_id (by omega) (by omega)
            try have w7 : wr ((wr (25 + (wr (6 * x1)))) + x2) = (wr (25 + (wr (6 * x1)))) + x2 := wr_id (by omega) (by omega)
            refine ⟨⟨by omega, by omega⟩, ?_⟩
            have t8 := tr_322 T_m (Int.toNat (wr ((wr (25 + (wr (6 * x1)))) + x2)))
            (first | trivial | omega | (refine ⟨?_, ?_⟩ <;> omega))
        · intro s0_70 r_s0_70 hR_70
          exact ⟨rfl, by first | trivial | omega | (refine ⟨?_, ?_⟩ <;> omega)⟩
      · skip
        exact ⟨rfl, by first | trivial | omega | (refine ⟨?_, ?_⟩ <;> omega)⟩
  · intro m_18  hR_18
    obtain ⟨e_m_18, hR_18⟩ := hR_18
    replace e_m_18 := e_m_18.symm
    subst e_m_18
    exact ⟨rfl, by first | trivial | omega | (refine ⟨?_, ?_⟩ <;> omega)⟩
-- TippedCratesModel.tells(III)I
set_option maxRecDepth 20000 in
theorem ct_239 {m0 m : Mm} {x1 : Int} {x2 : Int} {x3 : Int}  (g_m : G m0 m) (r_x1 : rg x1) (r_x2 : rg x2) (r_x3 : rg x3) (p0 : MW m0) (p1 : lawsM m0) : CK 6 239 [.ref 284, iv x1, iv x2, iv x3] m (fun m2 v => G m0 m2 ∧ (True)) := by
  refine br_239 r_x1 r_x2 r_x3 ?_
  unfold P_239
  refine CK.mono (ct_210   g_m.1 r_x1) (by decide) ?_
  rintro m2 v2 r_v2 ⟨e_m2, h_m2⟩
  replace e_m2 := e_m2.symm
  subst e_m2
  refine ⟨fun m_15 => G m0 m_15 ∧ (True), ?_, ?_⟩
  · skip
    refine ⟨fun hq => ?_, fun hq => ?_⟩
    · skip
      exact ⟨g_m, by first | trivial | omega | (refine ⟨?_, ?_⟩ <;> omega)⟩
    · skip
      refine CK.mono (ct_212   r_x2) (by decide) ?_
      rintro m9 v9 r_v9 ⟨e_m9, h_m9⟩
      replace e_m9 := e_m9.symm
      subst e_m9
      refine ⟨fun hq => ?_, fun hq => ?_⟩
      · skip
        refine CV.mono (ct_216   g_m.1) (by decide) ?_
        rintro m18 ⟨hx_m18, h_m18⟩
        have g_m18 : G m0 m18 := gx_in g_m hx_m18 in_sC_scr
        refine ⟨fun hq => ?_, fun hq => ?_, fun hq => ?_, fun hq => ?_, fun hq => ?_, fun hq => ?_⟩
        · skip
          refine CK.mono (ct_224   g_m18.1 r_x1 r_x2 (MW_G p0 g_m18) (by omega) (by omega)) (by decide) ?_
          rintro m59 v59 r_v59 ⟨e_m59, h_m59⟩
          replace e_m59 := e_m59.symm
          subst e_m59
          refine ⟨fun s0_70 => (s0_70 = 0 ∨ s0_70 = 1), ?_, ?_⟩
          · skip
            refine ⟨fun hq => ?_, fun hq => ?_⟩
            · skip
              (first | trivial | omega | (refine ⟨?_, ?_⟩ <;> omega))
            · skip
              (first | trivial | omega | (refine ⟨?_, ?_⟩ <;> omega))
          · intro s0_70 r_s0_70 hR_70
            exact ⟨g_m18, by first | trivial | omega | (refine ⟨?_, ?_⟩ <;> omega)⟩
        · skip
          refine CK.mono (ct_229   g_m18.1 r_x1 r_x2 (MW_G p0 g_m18) (laws_G p1 g_m18) (by omega) (by omega)) (by decide) ?_
          rintro m74 v74 r_v74 ⟨hx_m74, h_m74⟩
          have g_m74 : G m0 m74 := gx_in g_m18 hx_m74 in_sV_scr
          exact ⟨g_m74, by first | trivial | omega | (refine ⟨?_, ?_⟩ <;> omega)⟩
        · skip
          refine CK.mono (ct_230   g_m18.1 r_x1 r_x2 (MW_G p0 g_m18) (laws_G p1 g_m18) (by omega) (by omega)) (by decide) ?_
          rintro m81 v81 r_v81 ⟨hx_m81, h_m81⟩
          have g_m81 : G m0 m81 := gx_in g_m18 hx_m81 in_sV_scr
          refine ⟨fun s0_92 => (s0_92 = 0 ∨ s0_92 = 1), ?_, ?_⟩
          · skip
            refine ⟨fun hq => ?_, fun hq => ?_⟩
            · skip
              (first | trivial | omega | (refine ⟨?_, ?_⟩ <;> omega))
            · skip
              (first | trivial | omega | (refine ⟨?_, ?_⟩ <;> omega))
          · intro s0_92 r_s0_92 hR_92
            exact ⟨g_m81, by first | trivial | omega | (refine ⟨?_, ?_⟩ <;> omega)⟩
        · skip
          refine CK.mono (ct_231   g_m18.1 r_x1 r_x2 (MW_G p0 g_m18) (laws_G p1 g_m18) (by omega) (by omega)) (by decide) ?_
          rintro m96 v96 r_v96 ⟨hx_m96, h_m96⟩
          have g_m96 : G m0 m96 := gx_in g_m18 hx_m96 in_sV_scr
          refine ⟨fun s0_107 => (s0_107 = 0 ∨ s0_107 = 1), ?_, ?_⟩
          · skip
            refine ⟨fun hq => ?_, fun hq => ?_⟩
            · skip
              (first | trivial | omega | (refine ⟨?_, ?_⟩ <;> omega))
            · skip
              (first | trivial | omega | (refine ⟨?_, ?_⟩ <;> omega))
          · intro s0_107 r_s0_107 hR_107
            exact ⟨g_m96, by first | trivial | omega | (refine ⟨?_, ?_⟩ <;> omega)⟩
        · skip
          refine CK.mono (ct_232   g_m18.1 r_x1 r_x2 (MW_G p0 g_m18) (laws_G p1 g_m18) (by omega) (by omega)) (by decide) ?_
          rintro m111 v111 r_v111 ⟨hx_m111, h_m111⟩
          have g_m111 : G m0 m111 := gx_in g_m18 hx_m111 in_sV_scr
          exact ⟨g_m111, by first | trivial | omega | (refine ⟨?_, ?_⟩ <;> omega)⟩
        · skip
          exact ⟨g_m18, by first | trivial | omega | (refine ⟨?_, ?_⟩ <;> omega)⟩
      · skip
        exact ⟨g_m, by first | trivial | omega | (refine ⟨?_, ?_⟩ <;> omega)⟩
  · intro m_15  hR_15
    obtain ⟨g_m_15, hR_15⟩ := hR_15
    exact ⟨g_m_15, by first | trivial | omega | (refine ⟨?_, ?_⟩ <;> omega)⟩
-- TippedCratesModel.then(III)I
set_option maxRecDepth 20000 in
theorem ct_273 {m0 m : Mm} {x1 : Int} {x2 : Int} {x3 : Int}  (g_m : G m0 m) (r_x1 : rg x1) (r_x2 : rg x2) (r_x3 : rg x3) (p0 : MW m0) (p1 : lawsM m0) : CK 9 273 [.ref 284, iv x1, iv x2, iv x3] m (fun m2 v => G m0 m2 ∧ (True)) := by
  refine br_273 r_x1 r_x2 r_x3 ?_
  unfold P_273
  refine CK.mono (ct_210   g_m.1 r_x1) (by decide) ?_
  rintro m2 v2 r_v2 ⟨e_m2, h_m2⟩
  replace e_m2 := e_m2.symm
  subst e_m2
  refine ⟨fun m_24 => G m0 m_24 ∧ (True), ?_, ?_⟩
  · skip
    refine ⟨fun hq => ?_, fun hq => ?_⟩
    · skip
      exact ⟨g_m, by first | trivial | omega | (refine ⟨?_, ?_⟩ <;> omega)⟩
    · skip
      refine CK.mono (ct_243   r_x2) (by decide) ?_
      rintro m9 v9 r_v9 ⟨e_m9, h_m9⟩
      replace e_m9 := e_m9.symm
      subst e_m9
      refine ⟨fun hq => ?_, fun hq => ?_⟩
      · skip
        exact ⟨g_m, by first | trivial | omega | (refine ⟨?_, ?_⟩ <;> omega)⟩
      · skip
        refine CK.mono (ct_206   r_x3 (by unfold rg; decide) (by unfold rg; decide)) (by decide) ?_
        rintro m18 v18 r_v18 ⟨e_m18, h_m18⟩
        replace e_m18 := e_m18.symm
        subst e_m18
        refine ⟨fun hq => ?_, fun hq => ?_⟩
        · skip
          refine CV.mono (ct_216   g_m.1) (by decide) ?_
          rintro m27 ⟨hx_m27, h_m27⟩
          have g_m27 : G m0 m27 := gx_in g_m hx_m27 in_sC_scr
          refine CV.mono (ct_235   g_m27.1 r_x2 (MW_G p0 g_m27) (laws_G p1 g_m27) (by omega)) (by decide) ?_
          rintro m32 ⟨hx_m32, h_m32⟩
          have g_m32 : G m0 m32 := gx_in g_m27 hx_m32 in_sR_scr
          refine ⟨fun s0_63 => True, ?_, ?_⟩
          · skip
            refine ⟨fun hq => ?_, fun hq => ?_⟩
            · skip
              try have w1 : wr (6 * x1) = 6 * x1 := wr_id (by omega) (by omega)
              try have w2 : wr (25 + (wr (6 * x1))) = 25 + (wr (6 * x1)) := wr_id (by omega) (by omega)
              refine ⟨⟨by omega, by omega⟩, ?_⟩
              have t3 := tr_323 g_m32.1 (Int.toNat (wr (25 + (wr (6 * x1)))))
              (first | trivial | omega | (refine ⟨?_, ?_⟩ <;> omega))
            · skip
              try have w4 : wr (43 + x1) = 43 + x1 := wr_id (by omega) (by omega)
              refine ⟨⟨by omega, by omega⟩, ?_⟩
              have t5 := tr_323 g_m32.1 (Int.toNat (wr (43 + x1)))
              (first | trivial | omega | (refine ⟨?_, ?_⟩ <;> omega))
          · intro s0_63 r_s0_63 hR_63
            exact ⟨g_m32, by first | trivial | omega | (refine ⟨?_, ?_⟩ <;> omega)⟩
        · skip
          exact ⟨g_m, by first | trivial | omega | (refine ⟨?_, ?_⟩ <;> omega)⟩
  · intro m_24  hR_24
    obtain ⟨g_m_24, hR_24⟩ := hR_24
    exact ⟨g_m_24, by first | trivial | omega | (refine ⟨?_, ?_⟩ <;> omega)⟩
-- TippedCratesModel.flagIn(II)I
set_option maxRecDepth 20000 in
theorem ct_274 {m0 m : Mm} {x1 : Int} {x2 : Int}  (g_m : G m0 m) (r_x1 : rg x1) (r_x2 : rg x2) (p0 : MW m0) (p1 : lawsM m0) : CK 9 274 [.ref 284, iv x1, iv x2] m (fun m2 v => G m0 m2 ∧ (True)) := by
  refine br_274 r_x1 r_x2 ?_
  unfold P_274
  refine CK.mono (ct_209   g_m.1 r_x1 (MW_G p0 g_m)) (by decide) ?_
  rintro m2 v2 r_v2 ⟨e_m2, h_m2⟩
  replace e_m2 := e_m2.symm
  subst e_m2
  refine ⟨fun m_15 => G m0 m_15 ∧ (True), ?_, ?_⟩
  · skip
    refine ⟨fun hq => ?_, fun hq => ?_⟩
    · skip
      exact ⟨g_m, by first | trivial | omega | (refine ⟨?_, ?_⟩ <;> omega)⟩
    · skip
      refine CK.mono (ct_243   r_x2) (by decide) ?_
      rintro m9 v9 r_v9 ⟨e_m9, h_m9⟩
      replace e_m9 := e_m9.symm
      subst e_m9
      refine ⟨fun hq => ?_, fun hq => ?_⟩
      · skip
        refine CV.mono (ct_216   g_m.1) (by decide) ?_
        rintro m18 ⟨hx_m18, h_m18⟩
        have g_m18 : G m0 m18 := gx_in g_m hx_m18 in_sC_scr
        refine CV.mono (ct_235   g_m18.1 r_x2 (MW_G p0 g_m18) (laws_G p1 g_m18) (by omega)) (by decide) ?_
        rintro m23 ⟨hx_m23, h_m23⟩
        have g_m23 : G m0 m23 := gx_in g_m18 hx_m23 in_sR_scr
        refine ⟨⟨by omega, by omega⟩, ?_⟩
        have t1 := tr_323 g_m23.1 (Int.toNat x1)
        exact ⟨g_m23, by first | trivial | omega | (refine ⟨?_, ?_⟩ <;> omega)⟩
      · skip
        exact ⟨g_m, by first | trivial | omega | (refine ⟨?_, ?_⟩ <;> omega)⟩
  · intro m_15  hR_15
    obtain ⟨g_m_15, hR_15⟩ := hR_15
    exact ⟨g_m_15, by first | trivial | omega | (refine ⟨?_, ?_⟩ <;> omega)⟩
-- TippedCratesModel.paidIn(I)I
set_option maxRecDepth 20000 in
theorem ct_275 {m0 m : Mm} {x1 : Int}  (g_m : G m0 m) (r_x1 : rg x1) (p0 : MW m0) (p1 : lawsM m0) : CK 9 275 [.ref 284, iv x1] m (fun m2 v => G m0 m2 ∧ (True)) := by
  refine br_275 r_x1 ?_
  unfold P_275
  refine CK.mono (ct_243   r_x1) (by decide) ?_
  rintro m1 v1 r_v1 ⟨e_m1, h_m1⟩
  replace e_m1 := e_m1.symm
  subst e_m1
  refine ⟨fun hq => ?_, fun hq => ?_⟩
  · skip
    refine CV.mono (ct_216   g_m.1) (by decide) ?_
    rintro m10 ⟨hx_m10, h_m10⟩
    have g_m10 : G m0 m10 := gx_in g_m hx_m10 in_sC_scr
    refine CV.mono (ct_235   g_m10.1 r_x1 (MW_G p0 g_m10) (laws_G p1 g_m10) (by omega)) (by decide) ?_
    rintro m15 ⟨hx_m15, h_m15⟩
    have g_m15 : G m0 m15 := gx_in g_m10 hx_m15 in_sR_scr
    have t1 := tr_323 g_m15.1 50
    exact ⟨g_m15, by first | trivial | omega | (refine ⟨?_, ?_⟩ <;> omega)⟩
  · skip
    exact ⟨g_m, by first | trivial | omega | (refine ⟨?_, ?_⟩ <;> omega)⟩
-- TippedCratesModel.year(IIII)I
set_option maxRecDepth 20000 in
theorem ct_276 {m0 m : Mm} {x1 : Int} {x2 : Int} {x3 : Int} {x4 : Int}  (g_m : G m0 m) (r_x1 : rg x1) (r_x2 : rg x2) (r_x3 : rg x3) (r_x4 : rg x4) (p0 : MW m0) (p1 : lawsM m0) : CK 9 276 [.ref 284, iv x1, iv x2, iv x3, iv x4] m (fun m2 v => G m0 m2 ∧ (True)) := by
  refine br_276 r_x1 r_x2 r_x3 r_x4 ?_
  unfold P_276
  refine CK.mono (ct_210   g_m.1 r_x1) (by decide) ?_
  rintro m2 v2 r_v2 ⟨e_m2, h_m2⟩
  replace e_m2 := e_m2.symm
  subst e_m2
  refine ⟨fun m_33 => G m0 m_33 ∧ (True), ?_, ?_⟩
  · skip
    refine ⟨fun hq => ?_, fun hq => ?_⟩
    · skip
      exact ⟨g_m, by first | trivial | omega | (refine ⟨?_, ?_⟩ <;> omega)⟩
    · skip
      refine CK.mono (ct_211   r_x2) (by decide) ?_
      rintro m9 v9 r_v9 ⟨e_m9, h_m9⟩
      replace e_m9 := e_m9.symm
      subst e_m9
      refine ⟨fun hq => ?_, fun hq => ?_⟩
      · skip
        exact ⟨g_m, by first | trivial | omega | (refine ⟨?_, ?_⟩ <;> omega)⟩
      · skip
        refine CK.mono (ct_243   r_x3) (by decide) ?_
        rintro m16 v16 r_v16 ⟨e_m16, h_m16⟩
        replace e_m16 := e_m16.symm
        subst e_m16
        refine ⟨fun hq => ?_, fun hq => ?_⟩
        · skip
          exact ⟨g_m, by first | trivial | omega | (refine ⟨?_, ?_⟩ <;> omega)⟩
        · skip
          refine CK.mono (ct_206   r_x4 (by unfold rg; decide) (by unfold rg; decide)) (by decide) ?_
          rintro m27 v27 r_v27 ⟨e_m27, h_m27⟩
          replace e_m27 := e_m27.symm
          subst e_m27
          refine ⟨fun hq => ?_, fun hq => ?_⟩
          · skip
            refine ⟨fun x5_41 x6_41 m_41 => G m0 m_41 ∧ (0 ≤ x6_41 ∧ x6_41 ≤ 20), fun x5_41 x6_41 m_41 => Int.toNat (20 - x6_41), ?_, ?_⟩
            · exact ⟨g_m, by first | omega | (refine ⟨?_, ?_⟩ <;> omega) | trivial⟩
            · intro x5_41 x6_41 m_41 r_x5_41 r_x6_41 hI_41
              obtain ⟨g_m_41, hI_41⟩ := hI_41
              refine ⟨fun hq => ?_, fun hq => ?_⟩
              · skip
                exact ⟨g_m_41, by first | trivial | omega | (refine ⟨?_, ?_⟩ <;> omega)⟩
              · skip
                refine CV.mono (ct_216   g_m_41.1) (by decide) ?_
                rintro m49 ⟨hx_m49, h_m49⟩
                have g_m49 : G m0 m49 := gx_in g_m_41 hx_m49 in_sC_scr
                try have w2 : wr ((rd m49 284 58) + x6_41) = (rd m49 284 58) + x6_41 := wr_id (by omega) (by omega)
                intro m60 e_m60
                have g_m60 : G m0 m60 := by rw [e_m60]; exact GX.wt g_m49 (tw_284_58 g_m49.1 (wr_rg _)) (Eq.refl true)
                refine CV.mono (ct_235   g_m60.1 r_x3 (MW_G p0 g_m60) (laws_G p1 g_m60) (by omega)) (by decide) ?_
                rintro m65 ⟨hx_m65, h_m65⟩
                have g_m65 : G m0 m65 := gx_in g_m60 hx_m65 in_sR_scr
                try have w3 : wr (6 * x1) = 6 * x1 := wr_id (by omega) (by omega)
                try have w4 : wr (25 + (wr (6 * x1))) = 25 + (wr (6 * x1)) := wr_id (by omega) (by omega)
                refine ⟨⟨by omega, by omega⟩, ?_⟩
                have t5 := tr_323 g_m65.1 (Int.toNat (wr (25 + (wr (6 * x1)))))
                refine ⟨fun y5_87 => True, ?_, ?_⟩
                · skip
                  refine ⟨fun hq => ?_, fun hq => ?_⟩
                  · skip
                    (first | trivial | omega | (refine ⟨?_, ?_⟩ <;> omega))
                  · skip
                    try have w6 : wr (x5_41 + 1) = x5_41 + 1 := wr_id (by omega) (by omega)
                    intro z5_84 e_z5_84
                    have r_z5_84 : rg z5_84 := by rw [e_z5_84]; exact wr_rg _
                    (first | trivial | omega | (refine ⟨?_, ?_⟩ <;> omega))
                · intro y5_87 r_y5_87 hR_87
                  try have w7 : wr (x6_41 + 1) = x6_41 + 1 := wr_id (by omega) (by omega)
                  intro z6_87 e_z6_87
                  have r_z6_87 : rg z6_87 := by rw [e_z6_87]; exact wr_rg _
                  exact ⟨⟨g_m65, by first | omega | (refine ⟨?_, ?_⟩ <;> omega) | trivial⟩, by (try dsimp only); omega⟩
          · skip
            exact ⟨g_m, by first | trivial | omega | (refine ⟨?_, ?_⟩ <;> omega)⟩
  · intro m_33  hR_33
    obtain ⟨g_m_33, hR_33⟩ := hR_33
    exact ⟨g_m_33, by first | trivial | omega | (refine ⟨?_, ?_⟩ <;> omega)⟩
-- TippedCratesModel.standings()I
set_option maxRecDepth 20000 in
theorem ct_247 {m : Mm}   (T_m : Ty m)  (p0 : MW m) : CK 2 247 [.ref 284] m (fun m2 v => m2 = m ∧ (96 ≤ v ∧ v ≤ 600)) := by
  refine br_247  ?_
  unfold P_247
  refine CK.mono (ct_208   T_m p0) (by decide) ?_
  rintro m3 v3 r_v3 ⟨e_m3, h_m3⟩
  replace e_m3 := e_m3.symm
  subst e_m3
  try have w1 : wr (24 * v3) = 24 * v3 := wr_id (by omega) (by omega)
  exact ⟨rfl, by first | trivial | omega | (refine ⟨?_, ?_⟩ <;> omega)⟩
-- TippedCratesModel.markOf(III)I
set_option maxRecDepth 20000 in
theorem ct_248 {m : Mm} {x1 : Int} {x2 : Int} {x3 : Int}  (T_m : Ty m) (r_x1 : rg x1) (r_x2 : rg x2) (r_x3 : rg x3) (p0 : 0 ≤ x1 ∧ x1 ≤ 2) (p1 : 0 ≤ x2 ∧ x2 ≤ 599) (p2 : 0 ≤ x3 ∧ x3 ≤ 5) : CK 2 248 [.ref 284, iv x1, iv x2, iv x3] m (fun m2 v => m2 = m ∧ (0 ≤ v ∧ v ≤ 9)) := by
  refine br_248 r_x1 r_x2 r_x3 ?_
  unfold P_248
  try have q1 : rmI x2 24 = x2 % 24 := rm_eq (by omega) (by omega) (by omega) (by omega)
  refine CK.mono (ct_227   T_m r_x1 (io_rg _ _ _) r_x3 (by omega) (by omega) (by omega)) (by decide) ?_
  rintro m7 v7 r_v7 ⟨e_m7, h_m7⟩
  replace e_m7 := e_m7.symm
  subst e_m7
  exact ⟨rfl, by first | trivial | omega | (refine ⟨?_, ?_⟩ <;> omega)⟩
-- TippedCratesModel.fillsLeads(I)V
set_option maxRecDepth 20000 in
theorem ct_246 {m0 m : Mm} {x1 : Int}  (g_m : G m0 m) (r_x1 : rg x1) (p0 : MW m0) (p1 : 0 ≤ x1 ∧ x1 ≤ 2) : CV 4 246 [.ref 284, iv x1] m (fun m2 => G m0 m2 ∧ (True)) := by
  refine br_246 r_x1 ?_
  unfold P_246
  refine CV.mono (ct_216   g_m.1) (by decide) ?_
  rintro m1 ⟨hx_m1, h_m1⟩
  have g_m1 : G m0 m1 := gx_in g_m hx_m1 in_sC_scr
  refine ⟨fun x2_6 m_6 => G m0 m_6 ∧ (0 ≤ x2_6 ∧ x2_6 ≤ 25), fun x2_6 m_6 => Int.toNat (25 - x2_6), ?_, ?_⟩
  · exact ⟨g_m1, by first | omega | (refine ⟨?_, ?_⟩ <;> omega) | trivial⟩
  · intro x2_6 m_6 r_x2_6 hI_6
    obtain ⟨g_m_6, hI_6⟩ := hI_6
    refine CK.mono (ct_208   g_m_6.1 (MW_G p0 g_m_6)) (by decide) ?_
    rintro m8 v8 r_v8 ⟨e_m8, h_m8⟩
    replace e_m8 := e_m8.symm
    subst e_m8
    refine ⟨fun hq => ?_, fun hq => ?_⟩
    · skip
      exact ⟨g_m_6, by first | trivial | omega | (refine ⟨?_, ?_⟩ <;> omega)⟩
    · skip
      refine ⟨fun x3_16 m_16 => G m0 m_16 ∧ (0 ≤ x3_16 ∧ x3_16 ≤ 4), fun x3_16 m_16 => Int.toNat (4 - x3_16), ?_, ?_⟩
      · exact ⟨g_m_6, by first | omega | (refine ⟨?_, ?_⟩ <;> omega) | trivial⟩
      · intro x3_16 m_16 r_x3_16 hI_16
        obtain ⟨g_m_16, hI_16⟩ := hI_16
        refine ⟨fun hq => ?_, fun hq => ?_⟩
        · skip
          try have w1 : wr (x2_6 + 1) = x2_6 + 1 := wr_id (by omega) (by omega)
          intro z2_107 e_z2_107
          have r_z2_107 : rg z2_107 := by rw [e_z2_107]; exact wr_rg _
          exact ⟨⟨g_m_16, by first | omega | (refine ⟨?_, ?_⟩ <;> omega) | trivial⟩, by (try dsimp only); omega⟩
        · skip
          refine CK.mono (ct_223   g_m_16.1 r_x1 r_x2_6 r_x3_16 (MW_G p0 g_m_16) (by omega) (by omega)) (by decide) ?_
          rintro m25 v25 r_v25 ⟨e_m25, h_m25⟩
          replace e_m25 := e_m25.symm
          subst e_m25
          refine ⟨fun s0_41 m_41 => G m0 m_41 ∧ (-1 ≤ s0_41 ∧ s0_41 ≤ 24), ?_, ?_⟩
          · skip
            refine ⟨fun hq => ?_, fun hq => ?_⟩
            · skip
              exact ⟨g_m_16, by first | trivial | omega | (refine ⟨?_, ?_⟩ <;> omega)⟩
            · skip
              refine CK.mono (ct_221   g_m_16.1 r_x2_6 r_x3_16 (MW_G p0 g_m_16) (by omega) (by omega)) (by decide) ?_
              rintro m34 v34 r_v34 ⟨e_m34, h_m34⟩
              replace e_m34 := e_m34.symm
              subst e_m34
              exact ⟨g_m_16, by first | trivial | omega | (refine ⟨?_, ?_⟩ <;> omega)⟩
          · intro s0_41 m_41 r_s0_41 hR_41
            obtain ⟨g_m_41, hR_41⟩ := hR_41
            refine ⟨fun x5_46 m_46 => G m0 m_46 ∧ (0 ≤ x5_46 ∧ x5_46 ≤ 24), fun x5_46 m_46 => Int.toNat (24 - x5_46), ?_, ?_⟩
            · exact ⟨g_m_41, by first | omega | (refine ⟨?_, ?_⟩ <;> omega) | trivial⟩
            · intro x5_46 m_46 r_x5_46 hI_46
              obtain ⟨g_m_46, hI_46⟩ := hI_46
              refine ⟨fun hq => ?_, fun hq => ?_⟩
              · skip
                try have w2 : wr (x3_16 + 1) = x3_16 + 1 := wr_id (by omega) (by omega)
                intro z3_101 e_z3_101
                have r_z3_101 : rg z3_101 := by rw [e_z3_101]; exact wr_rg _
                exact ⟨⟨g_m_46, by first | omega | (refine ⟨?_, ?_⟩ <;> omega) | trivial⟩, by (try dsimp only); omega⟩
              · skip
                refine ⟨fun s2_94 => -1 ≤ s2_94 ∧ s2_94 ≤ 599, ?_, ?_⟩
                · skip
                  refine ⟨fun hq => ?_, fun hq => ?_⟩
                  · skip
                    try have w3 : wr (4 * x5_46) = 4 * x5_46 := wr_id (by omega) (by omega)
                    try have w4 : wr ((wr (4 * x5_46)) + x3_16) = (wr (4 * x5_46)) + x3_16 := wr_id (by omega) (by omega)
                    refine ⟨⟨by omega, by omega⟩, ?_⟩
                    try have w5 : wr (24 * s0_41) = 24 * s0_41 := wr_id (by omega) (by omega)
                    have t6 := ty_320 g_m_46.1 (Int.toNat (wr ((wr (4 * x5_46)) + x3_16)))
                    try have w7 : wr ((wr (24 * s0_41)) + (rd m_46 320 (Int.toNat (wr ((wr (4 * x5_46)) + x3_16))))) = (wr (24 * s0_41)) + (rd m_46 320 (Int.toNat (wr ((wr (4 * x5_46)) + x3_16)))) := wr_id (by omega) (by omega)
                    (first | trivial | omega | (refine ⟨?_, ?_⟩ <;> omega))
                  · skip
                    (first | trivial | omega | (refine ⟨?_, ?_⟩ <;> omega))
                · intro s2_94 r_s2_94 hR_94
                  try have w8 : wr (96 * x2_6) = 96 * x2_6 := wr_id (by omega) (by omega)
                  try have w9 : wr (4 * x5_46) = 4 * x5_46 := wr_id (by omega) (by omega)
                  try have w10 : wr ((wr (96 * x2_6)) + (wr (4 * x5_46))) = (wr (96 * x2_6)) + (wr (4 * x5_46)) := wr_id (by omega) (by omega)
                  try have w11 : wr ((wr ((wr (96 * x2_6)) + (wr (4 * x5_46)))) + x3_16) = (wr ((wr (96 * x2_6)) + (wr (4 * x5_46)))) + x3_16 := wr_id (by omega) (by omega)
                  refine ⟨⟨by omega, by omega⟩, ?_⟩
                  intro m94 e_m94
                  have g_m94 : G m0 m94 := by rw [e_m94]; exact GX.wt g_m_46 (tw_325 g_m_46.1 ⟨by omega, by omega⟩) (Eq.refl true)
                  try have w12 : wr (x5_46 + 1) = x5_46 + 1 := wr_id (by omega) (by omega)
                  intro z5_95 e_z5_95
                  have r_z5_95 : rg z5_95 := by rw [e_z5_95]; exact wr_rg _
                  exact ⟨⟨g_m94, by first | omega | (refine ⟨?_, ?_⟩ <;> omega) | trivial⟩, by (try dsimp only); omega⟩
-- TippedCratesModel.keepsMore()V
set_option maxRecDepth 20000 in
theorem ct_258 {m0 m : Mm}   (g_m : G m0 m)  (p0 : MW m0) : CV 3 258 [.ref 284] m (fun m2 => G m0 m2 ∧ (True)) := by
  refine br_258  ?_
  unfold P_258
  refine ⟨fun x1_2 m_2 => G m0 m_2 ∧ (0 ≤ x1_2 ∧ x1_2 ≤ 600), fun x1_2 m_2 => Int.toNat (600 - x1_2), ?_, ?_⟩
  · exact ⟨g_m, by first | omega | (refine ⟨?_, ?_⟩ <;> omega) | trivial⟩
  · intro x1_2 m_2 r_x1_2 hI_2
    obtain ⟨g_m_2, hI_2⟩ := hI_2
    refine CK.mono (ct_247   g_m_2.1 (MW_G p0 g_m_2)) (by decide) ?_
    rintro m4 v4 r_v4 ⟨e_m4, h_m4⟩
    replace e_m4 := e_m4.symm
    subst e_m4
    refine ⟨fun hq => ?_, fun hq => ?_⟩
    · skip
      exact ⟨g_m_2, by first | trivial | omega | (refine ⟨?_, ?_⟩ <;> omega)⟩
    · skip
      refine ⟨⟨by omega, by omega⟩, ?_⟩
      refine ⟨⟨by omega, by omega⟩, ?_⟩
      intro m21 e_m21
      have g_m21 : G m0 m21 := by rw [e_m21]; exact GX.wt g_m_2 (tw_332 g_m_2.1 (rd_rg _ _ _)) (Eq.refl true)
      try have w2 : wr (x1_2 + 1) = x1_2 + 1 := wr_id (by omega) (by omega)
      intro z1_22 e_z1_22
      have r_z1_22 : rg z1_22 := by rw [e_z1_22]; exact wr_rg _
      exact ⟨⟨g_m21, by first | omega | (refine ⟨?_, ?_⟩ <;> omega) | trivial⟩, by (try dsimp only); omega⟩
-- TippedCratesModel.richWith(III)I
set_option maxRecDepth 20000 in
theorem ct_259 {m : Mm} {x1 : Int} {x2 : Int} {x3 : Int}  (T_m : Ty m) (r_x1 : rg x1) (r_x2 : rg x2) (r_x3 : rg x3) (p0 : 0 ≤ x1 ∧ x1 ≤ 2) (p1 : 0 ≤ x2 ∧ x2 ≤ 599) (p2 : 0 ≤ x3 ∧ x3 ≤ 3) : CK 3 259 [.ref 284, iv x1, iv x2, iv x3] m (fun m2 v => m2 = m ∧ (True)) := by
  refine br_259 r_x1 r_x2 r_x3 ?_
  unfold P_259
  try have w1 : wr (4 * x2) = 4 * x2 := wr_id (by omega) (by omega)
  try have w2 : wr ((wr (4 * x2)) + x3) = (wr (4 * x2)) + x3 := wr_id (by omega) (by omega)
  refine ⟨⟨by omega, by omega⟩, ?_⟩
  have t3 := ty_325 T_m (Int.toNat (wr ((wr (4 * x2)) + x3)))
  intro z4_10 e_z4_10
  have r_z4_10 : rg z4_10 := by rw [e_z4_10]; exact (rd_rg _ _ _)
  refine ⟨fun s0_47 m_47 => m_47 = m ∧ (True), ?_, ?_⟩
  · skip
    refine ⟨True, ?_, ?_⟩
    · skip
      refine ⟨fun hq => ?_, fun hq => ?_⟩
      · skip
        (first | trivial | omega | (refine ⟨?_, ?_⟩ <;> omega))
      · skip
        refine ⟨⟨by omega, by omega⟩, ?_⟩
        refine ⟨fun hq => ?_, fun hq => ?_⟩
        · skip
          refine ⟨⟨by omega, by omega⟩, ?_⟩
          refine CK.mono (ct_248   T_m r_x1 r_z4_10 (by unfold rg; decide) (by omega) (by omega) (by omega)) (by decide) ?_
          rintro m43 v43 r_v43 ⟨e_m43, h_m43⟩
          replace e_m43 := e_m43.symm
          subst e_m43
          try have w5 : wr ((rd m 332 (Int.toNat z4_10)) + v43) = (rd m 332 (Int.toNat z4_10)) + v43 := wr_id (by omega) (by omega)
          exact ⟨rfl, by first | trivial | omega | (refine ⟨?_, ?_⟩ <;> omega)⟩
        · skip
          (first | trivial | omega | (refine ⟨?_, ?_⟩ <;> omega))
    · intro   hR_27
      exact ⟨rfl, by first | trivial | omega | (refine ⟨?_, ?_⟩ <;> omega)⟩
  · intro s0_47 m_47 r_s0_47 hR_47
    obtain ⟨e_m_47, hR_47⟩ := hR_47
    replace e_m_47 := e_m_47.symm
    subst e_m_47
    exact ⟨rfl, by first | trivial | omega | (refine ⟨?_, ?_⟩ <;> omega)⟩
-- TippedCratesModel.richWay(II)I
set_option maxRecDepth 20000 in
theorem ct_260 {m : Mm} {x1 : Int} {x2 : Int}  (T_m : Ty m) (r_x1 : rg x1) (r_x2 : rg x2) (p0 : 0 ≤ x1 ∧ x1 ≤ 2) (p1 : 0 ≤ x2 ∧ x2 ≤ 599) : CK 4 260 [.ref 284, iv x1, iv x2] m (fun m2 v => m2 = m ∧ (v = -2 ∨ (0 ≤ v ∧ v ≤ 3))) := by
  refine br_260 r_x1 r_x2 ?_
  unfold P_260
  refine ⟨fun x3_9 x4_9 x5_9 m_9 => m_9 = m ∧ ((0 ≤ x5_9 ∧ x5_9 ≤ 4) ∧ (x3_9 = -2 ∨ (0 ≤ x3_9 ∧ x3_9 ≤ 3))), fun x3_9 x4_9 x5_9 m_9 => Int.toNat (4 - x5_9), ?_, ?_⟩
  · exact ⟨rfl, by first | omega | (refine ⟨?_, ?_⟩ <;> omega) | trivial⟩
  · intro x3_9 x4_9 x5_9 m_9 r_x3_9 r_x4_9 r_x5_9 hI_9
    obtain ⟨e_m_9, hI_9⟩ := hI_9
    replace e_m_9 := e_m_9.symm
    subst e_m_9
    refine ⟨fun hq => ?_, fun hq => ?_⟩
    · skip
      exact ⟨rfl, by first | trivial | omega | (refine ⟨?_, ?_⟩ <;> omega)⟩
    · skip
      refine CK.mono (ct_259   T_m r_x1 r_x2 r_x5_9 (by omega) (by omega) (by omega)) (by decide) ?_
      rintro m20 v20 r_v20 ⟨e_m20, h_m20⟩
      replace e_m20 := e_m20.symm
      subst e_m20
      refine ⟨fun y3_44 y4_44 m_44 => m_44 = m ∧ ((y3_44 = -2 ∨ (0 ≤ y3_44 ∧ y3_44 ≤ 3))), ?_, ?_⟩
      · skip
        refine ⟨fun hq => ?_, fun hq => ?_⟩
        · skip
          refine CK.mono (ct_259   T_m r_x1 r_x2 r_x5_9 (by omega) (by omega) (by omega)) (by decide) ?_
          rintro m39 v39 r_v39 ⟨e_m39, h_m39⟩
          replace e_m39 := e_m39.symm
          subst e_m39
          exact ⟨rfl, by first | trivial | omega | (refine ⟨?_, ?_⟩ <;> omega)⟩
        · skip
          exact ⟨rfl, by first | trivial | omega | (refine ⟨?_, ?_⟩ <;> omega)⟩
      · intro y3_44 y4_44 m_44 r_y3_44 r_y4_44 hR_44
        obtain ⟨e_m_44, hR_44⟩ := hR_44
        replace e_m_44 := e_m_44.symm
        subst e_m_44
        try have w1 : wr (x5_9 + 1) = x5_9 + 1 := wr_id (by omega) (by omega)
        intro z5_44 e_z5_44
        have r_z5_44 : rg z5_44 := by rw [e_z5_44]; exact wr_rg _
        exact ⟨⟨rfl, by first | omega | (refine ⟨?_, ?_⟩ <;> omega) | trivial⟩, by (try dsimp only); omega⟩
-- TippedCratesModel.areBeside(II)Z
set_option maxRecDepth 20000 in
theorem ct_266 {m : Mm} {x1 : Int} {x2 : Int}  (T_m : Ty m) (r_x1 : rg x1) (r_x2 : rg x2) (p0 : MW m) (p1 : 0 ≤ x1 ∧ x1 ≤ 24) : CK 3 266 [.ref 284, iv x1, iv x2] m (fun m2 v => m2 = m ∧ (v = 0 ∨ v = 1)) := by
  refine br_266 r_x1 r_x2 ?_
  unfold P_266
  refine ⟨fun x3_2 m_2 => m_2 = m ∧ (0 ≤ x3_2 ∧ x3_2 ≤ 4), fun x3_2 m_2 => Int.toNat (4 - x3_2), ?_, ?_⟩
  · exact ⟨rfl, by first | omega | (refine ⟨?_, ?_⟩ <;> omega) | trivial⟩
  · intro x3_2 m_2 r_x3_2 hI_2
    obtain ⟨e_m_2, hI_2⟩ := hI_2
    replace e_m_2 := e_m_2.symm
    subst e_m_2
    refine ⟨fun hq => ?_, fun hq => ?_⟩
    · skip
      exact ⟨rfl, by first | trivial | omega | (refine ⟨?_, ?_⟩ <;> omega)⟩
    · skip
      refine CK.mono (ct_221   T_m r_x1 r_x3_2 p0 (by omega) (by omega)) (by decide) ?_
      rintro m10 v10 r_v10 ⟨e_m10, h_m10⟩
      replace e_m10 := e_m10.symm
      subst e_m10
      refine ⟨fun hq => ?_, fun hq => ?_⟩
      · skip
        try have w1 : wr (x3_2 + 1) = x3_2 + 1 := wr_id (by omega) (by omega)
        intro z3_19 e_z3_19
        have r_z3_19 : rg z3_19 := by rw [e_z3_19]; exact wr_rg _
        exact ⟨⟨rfl, by first | omega | (refine ⟨?_, ?_⟩ <;> omega) | trivial⟩, by (try dsimp only); omega⟩
      · skip
        exact ⟨rfl, by first | trivial | omega | (refine ⟨?_, ?_⟩ <;> omega)⟩
-- TippedCratesModel.isAs(II)Z
set_option maxRecDepth 20000 in
theorem ct_268 {m : Mm} {x1 : Int} {x2 : Int}  (T_m : Ty m) (r_x1 : rg x1) (r_x2 : rg x2) (p0 : 0 ≤ x1 ∧ x1 ≤ 2) (p1 : 0 ≤ x2 ∧ x2 ≤ 23) : CK 2 268 [.ref 284, iv x1, iv x2] m (fun m2 v => m2 = m ∧ (v = 0 ∨ v = 1)) := by
  refine br_268 r_x1 r_x2 ?_
  unfold P_268
  refine ⟨fun x3_2 m_2 => m_2 = m ∧ (0 ≤ x3_2 ∧ x3_2 ≤ 6), fun x3_2 m_2 => Int.toNat (6 - x3_2), ?_, ?_⟩
  · exact ⟨rfl, by first | omega | (refine ⟨?_, ?_⟩ <;> omega) | trivial⟩
  · intro x3_2 m_2 r_x3_2 hI_2
    obtain ⟨e_m_2, hI_2⟩ := hI_2
    replace e_m_2 := e_m_2.symm
    subst e_m_2
    refine ⟨fun hq => ?_, fun hq => ?_⟩
    · skip
      exact ⟨rfl, by first | trivial | omega | (refine ⟨?_, ?_⟩ <;> omega)⟩
    · skip
      refine CK.mono (ct_227   T_m r_x1 r_x2 r_x3_2 (by omega) (by omega) (by omega)) (by decide) ?_
      rintro m12 v12 r_v12 ⟨e_m12, h_m12⟩
      replace e_m12 := e_m12.symm
      subst e_m12
      refine ⟨⟨by omega, by omega⟩, ?_⟩
      have t1 := ty_321 T_m (Int.toNat x3_2)
      refine ⟨fun hq => ?_, fun hq => ?_⟩
      · skip
        try have w2 : wr (x3_2 + 1) = x3_2 + 1 := wr_id (by omega) (by omega)
        intro z3_26 e_z3_26
        have r_z3_26 : rg z3_26 := by rw [e_z3_26]; exact wr_rg _
        exact ⟨⟨rfl, by first | omega | (refine ⟨?_, ?_⟩ <;> omega) | trivial⟩, by (try dsimp only); omega⟩
      · skip
        exact ⟨rfl, by first | trivial | omega | (refine ⟨?_, ?_⟩ <;> omega)⟩
-- TippedCratesModel.isAny(I)Z
set_option maxRecDepth 20000 in
theorem ct_269 {m : Mm} {x1 : Int}  (T_m : Ty m) (r_x1 : rg x1) (p0 : 0 ≤ x1 ∧ x1 ≤ 2) : CK 3 269 [.ref 284, iv x1] m (fun m2 v => m2 = m ∧ (v = 0 ∨ v = 1)) := by
  refine br_269 r_x1 ?_
  unfold P_269
  refine ⟨fun x2_2 m_2 => m_2 = m ∧ (0 ≤ x2_2 ∧ x2_2 ≤ 24), fun x2_2 m_2 => Int.toNat (24 - x2_2), ?_, ?_⟩
  · exact ⟨rfl, by first | omega | (refine ⟨?_, ?_⟩ <;> omega) | trivial⟩
  · intro x2_2 m_2 r_x2_2 hI_2
    obtain ⟨e_m_2, hI_2⟩ := hI_2
    replace e_m_2 := e_m_2.symm
    subst e_m_2
    refine ⟨fun hq => ?_, fun hq => ?_⟩
    · skip
      exact ⟨rfl, by first | trivial | omega | (refine ⟨?_, ?_⟩ <;> omega)⟩
    · skip
      refine CK.mono (ct_268   T_m r_x1 r_x2_2 (by omega) (by omega)) (by decide) ?_
      rintro m11 v11 r_v11 ⟨e_m11, h_m11⟩
      replace e_m11 := e_m11.symm
      subst e_m11
      refine ⟨fun hq => ?_, fun hq => ?_⟩
      · skip
        try have w1 : wr (x2_2 + 1) = x2_2 + 1 := wr_id (by omega) (by omega)
        intro z2_19 e_z2_19
        have r_z2_19 : rg z2_19 := by rw [e_z2_19]; exact wr_rg _
        exact ⟨⟨rfl, by first | omega | (refine ⟨?_, ?_⟩ <;> omega) | trivial⟩, by (try dsimp only); omega⟩
      · skip
        exact ⟨rfl, by first | trivial | omega | (refine ⟨?_, ?_⟩ <;> omega)⟩
-- TippedCratesModel.alike(II)I
set_option maxRecDepth 20000 in
theorem ct_270 {m0 m : Mm} {x1 : Int} {x2 : Int}  (g_m : G m0 m) (r_x1 : rg x1) (r_x2 : rg x2)  : CK 4 270 [.ref 284, iv x1, iv x2] m (fun m2 v => G m0 m2 ∧ (True)) := by
  refine br_270 r_x1 r_x2 ?_
  unfold P_270
  refine CK.mono (ct_210   g_m.1 r_x1) (by decide) ?_
  rintro m2 v2 r_v2 ⟨e_m2, h_m2⟩
  replace e_m2 := e_m2.symm
  subst e_m2
  refine ⟨fun m_16 => G m0 m_16 ∧ (True), ?_, ?_⟩
  · skip
    refine ⟨fun hq => ?_, fun hq => ?_⟩
    · skip
      exact ⟨g_m, by first | trivial | omega | (refine ⟨?_, ?_⟩ <;> omega)⟩
    · skip
      refine CK.mono (ct_210   g_m.1 r_x2) (by decide) ?_
      rintro m10 v10 r_v10 ⟨e_m10, h_m10⟩
      replace e_m10 := e_m10.symm
      subst e_m10
      refine ⟨fun hq => ?_, fun hq => ?_⟩
      · skip
        refine CV.mono (ct_216   g_m.1) (by decide) ?_
        rintro m19 ⟨hx_m19, h_m19⟩
        have g_m19 : G m0 m19 := gx_in g_m hx_m19 in_sC_scr
        refine ⟨fun x3_24 m_24 => G m0 m_24 ∧ (0 ≤ x3_24 ∧ x3_24 ≤ 6), fun x3_24 m_24 => Int.toNat (6 - x3_24), ?_, ?_⟩
        · exact ⟨g_m19, by first | omega | (refine ⟨?_, ?_⟩ <;> omega) | trivial⟩
        · intro x3_24 m_24 r_x3_24 hI_24
          obtain ⟨g_m_24, hI_24⟩ := hI_24
          refine ⟨fun hq => ?_, fun hq => ?_⟩
          · skip
            refine CK.mono (ct_269   g_m_24.1 r_x1 (by omega)) (by decide) ?_
            rintro m51 v51 r_v51 ⟨e_m51, h_m51⟩
            replace e_m51 := e_m51.symm
            subst e_m51
            refine ⟨fun s0_62 => (s0_62 = 0 ∨ s0_62 = 1), ?_, ?_⟩
            · skip
              refine ⟨fun hq => ?_, fun hq => ?_⟩
              · skip
                (first | trivial | omega | (refine ⟨?_, ?_⟩ <;> omega))
              · skip
                (first | trivial | omega | (refine ⟨?_, ?_⟩ <;> omega))
            · intro s0_62 r_s0_62 hR_62
              exact ⟨g_m_24, by first | trivial | omega | (refine ⟨?_, ?_⟩ <;> omega)⟩
          · skip
            refine CK.mono (ct_227   g_m_24.1 r_x2 (by unfold rg; decide) r_x3_24 (by omega) (by omega) (by omega)) (by decide) ?_
            rintro m39 v39 r_v39 ⟨e_m39, h_m39⟩
            replace e_m39 := e_m39.symm
            subst e_m39
            refine ⟨⟨by omega, by omega⟩, ?_⟩
            intro m42 e_m42
            have g_m42 : G m0 m42 := by rw [e_m42]; exact GX.wt g_m_24 (tw_321 g_m_24.1 ⟨by omega, by omega⟩) (Eq.refl true)
            try have w1 : wr (x3_24 + 1) = x3_24 + 1 := wr_id (by omega) (by omega)
            intro z3_43 e_z3_43
            have r_z3_43 : rg z3_43 := by rw [e_z3_43]; exact wr_rg _
            exact ⟨⟨g_m42, by first | omega | (refine ⟨?_, ?_⟩ <;> omega) | trivial⟩, by (try dsimp only); omega⟩
      · skip
        exact ⟨g_m, by first | trivial | omega | (refine ⟨?_, ?_⟩ <;> omega)⟩
  · intro m_16  hR_16
    obtain ⟨g_m_16, hR_16⟩ := hR_16
    exact ⟨g_m_16, by first | trivial | omega | (refine ⟨?_, ?_⟩ <;> omega)⟩
-- TippedCratesModel.looks(I)I
set_option maxRecDepth 20000 in
theorem ct_271 {m0 m : Mm} {x1 : Int}  (g_m : G m0 m) (r_x1 : rg x1)  : CK 3 271 [.ref 284, iv x1] m (fun m2 v => G m0 m2 ∧ (True)) := by
  refine br_271 r_x1 ?_
  unfold P_271
  refine CK.mono (ct_210   g_m.1 r_x1) (by decide) ?_
  rintro m2 v2 r_v2 ⟨e_m2, h_m2⟩
  replace e_m2 := e_m2.symm
  subst e_m2
  refine ⟨fun hq => ?_, fun hq => ?_⟩
  · skip
    refine CV.mono (ct_216   g_m.1) (by decide) ?_
    rintro m11 ⟨hx_m11, h_m11⟩
    have g_m11 : G m0 m11 := gx_in g_m hx_m11 in_sC_scr
    refine ⟨fun x2_18 x3_18 m_18 => G m0 m_18 ∧ (0 ≤ x3_18 ∧ x3_18 ≤ 24), fun x2_18 x3_18 m_18 => Int.toNat (24 - x3_18), ?_, ?_⟩
    · exact ⟨g_m11, by first | omega | (refine ⟨?_, ?_⟩ <;> omega) | trivial⟩
    · intro x2_18 x3_18 m_18 r_x2_18 r_x3_18 hI_18
      obtain ⟨g_m_18, hI_18⟩ := hI_18
      refine ⟨fun hq => ?_, fun hq => ?_⟩
      · skip
        exact ⟨g_m_18, by first | trivial | omega | (refine ⟨?_, ?_⟩ <;> omega)⟩
      · skip
        refine ⟨fun x4_27 m_27 => G m0 m_27 ∧ (0 ≤ x4_27 ∧ x4_27 ≤ 6), fun x4_27 m_27 => Int.toNat (6 - x4_27), ?_, ?_⟩
        · exact ⟨g_m_18, by first | omega | (refine ⟨?_, ?_⟩ <;> omega) | trivial⟩
        · intro x4_27 m_27 r_x4_27 hI_27
          obtain ⟨g_m_27, hI_27⟩ := hI_27
          refine ⟨fun hq => ?_, fun hq => ?_⟩
          · skip
            refine ⟨fun x4_61 x5_61 m_61 => G m0 m_61 ∧ (0 ≤ x5_61 ∧ x5_61 ≤ 24), fun x4_61 x5_61 m_61 => Int.toNat (24 - x5_61), ?_, ?_⟩
            · exact ⟨g_m_27, by first | omega | (refine ⟨?_, ?_⟩ <;> omega) | trivial⟩
            · intro x4_61 x5_61 m_61 r_x4_61 r_x5_61 hI_61
              obtain ⟨g_m_61, hI_61⟩ := hI_61
              refine ⟨fun hq => ?_, fun hq => ?_⟩
              · skip
                refine ⟨fun y2_94 => True, ?_, ?_⟩
                · skip
                  refine ⟨fun hq => ?_, fun hq => ?_⟩
                  · skip
                    (first | trivial | omega | (refine ⟨?_, ?_⟩ <;> omega))
                  · skip
                    try have w1 : wr (x2_18 + 1) = x2_18 + 1 := wr_id (by omega) (by omega)
                    intro z2_91 e_z2_91
                    have r_z2_91 : rg z2_91 := by rw [e_z2_91]; exact wr_rg _
                    (first | trivial | omega | (refine ⟨?_, ?_⟩ <;> omega))
                · intro y2_94 r_y2_94 hR_94
                  try have w2 : wr (x3_18 + 1) = x3_18 + 1 := wr_id (by omega) (by omega)
                  intro z3_94 e_z3_94
                  have r_z3_94 : rg z3_94 := by rw [e_z3_94]; exact wr_rg _
                  exact ⟨⟨g_m_61, by first | omega | (refine ⟨?_, ?_⟩ <;> omega) | trivial⟩, by (try dsimp only); omega⟩
              · skip
                refine CK.mono (ct_268   g_m_61.1 r_x1 r_x5_61 (by omega) (by omega)) (by decide) ?_
                rintro m71 v71 r_v71 ⟨e_m71, h_m71⟩
                replace e_m71 := e_m71.symm
                subst e_m71
                refine ⟨fun y4_80 => True, ?_, ?_⟩
                · skip
                  refine ⟨fun hq => ?_, fun hq => ?_⟩
                  · skip
                    (first | trivial | omega | (refine ⟨?_, ?_⟩ <;> omega))
                  · skip
                    (first | trivial | omega | (refine ⟨?_, ?_⟩ <;> omega))
                · intro y4_80 r_y4_80 hR_80
                  try have w3 : wr (x5_61 + 1) = x5_61 + 1 := wr_id (by omega) (by omega)
                  intro z5_80 e_z5_80
                  have r_z5_80 : rg z5_80 := by rw [e_z5_80]; exact wr_rg _
                  exact ⟨⟨g_m_61, by first | omega | (refine ⟨?_, ?_⟩ <;> omega) | trivial⟩, by (try dsimp only); omega⟩
          · skip
            refine CK.mono (ct_227   g_m_27.1 r_x1 r_x3_18 r_x4_27 (by omega) (by omega) (by omega)) (by decide) ?_
            rintro m45 v45 r_v45 ⟨e_m45, h_m45⟩
            replace e_m45 := e_m45.symm
            subst e_m45
            refine ⟨⟨by omega, by omega⟩, ?_⟩
            intro m48 e_m48
            have g_m48 : G m0 m48 := by rw [e_m48]; exact GX.wt g_m_27 (tw_321 g_m_27.1 ⟨by omega, by omega⟩) (Eq.refl true)
            try have w4 : wr (x4_27 + 1) = x4_27 + 1 := wr_id (by omega) (by omega)
            intro z4_49 e_z4_49
            have r_z4_49 : rg z4_49 := by rw [e_z4_49]; exact wr_rg _
            exact ⟨⟨g_m48, by first | omega | (refine ⟨?_, ?_⟩ <;> omega) | trivial⟩, by (try dsimp only); omega⟩
  · skip
    exact ⟨g_m, by first | trivial | omega | (refine ⟨?_, ?_⟩ <;> omega)⟩
-- TippedCratesModel.mirror(I)I
set_option maxRecDepth 20000 in
theorem ct_272 {m0 m : Mm} {x1 : Int}  (g_m : G m0 m) (r_x1 : rg x1)  : CK 4 272 [.ref 284, iv x1] m (fun m2 v => G m0 m2 ∧ (True)) := by
  refine br_272 r_x1 ?_
  unfold P_272
  refine CK.mono (ct_210   g_m.1 r_x1) (by decide) ?_
  rintro m2 v2 r_v2 ⟨e_m2, h_m2⟩
  replace e_m2 := e_m2.symm
  subst e_m2
  refine ⟨fun hq => ?_, fun hq => ?_⟩
  · skip
    refine CV.mono (ct_216   g_m.1) (by decide) ?_
    rintro m11 ⟨hx_m11, h_m11⟩
    have g_m11 : G m0 m11 := gx_in g_m hx_m11 in_sC_scr
    refine ⟨fun x2_16 m_16 => G m0 m_16 ∧ (0 ≤ x2_16 ∧ x2_16 ≤ 6), fun x2_16 m_16 => Int.toNat (6 - x2_16), ?_, ?_⟩
    · exact ⟨g_m11, by first | omega | (refine ⟨?_, ?_⟩ <;> omega) | trivial⟩
    · intro x2_16 m_16 r_x2_16 hI_16
      obtain ⟨g_m_16, hI_16⟩ := hI_16
      refine ⟨fun hq => ?_, fun hq => ?_⟩
      · skip
        refine CK.mono (ct_269   g_m_16.1 r_x1 (by omega)) (by decide) ?_
        rintro m61 v61 r_v61 ⟨e_m61, h_m61⟩
        replace e_m61 := e_m61.symm
        subst e_m61
        refine ⟨fun s0_72 => (s0_72 = 0 ∨ s0_72 = 1), ?_, ?_⟩
        · skip
          refine ⟨fun hq => ?_, fun hq => ?_⟩
          · skip
            (first | trivial | omega | (refine ⟨?_, ?_⟩ <;> omega))
          · skip
            (first | trivial | omega | (refine ⟨?_, ?_⟩ <;> omega))
        · intro s0_72 r_s0_72 hR_72
          exact ⟨g_m_16, by first | trivial | omega | (refine ⟨?_, ?_⟩ <;> omega)⟩
      · skip
        refine ⟨fun s5_49 => 0 ≤ s5_49 ∧ s5_49 ≤ 5, ?_, ?_⟩
        · skip
          refine ⟨fun hq => ?_, fun hq => ?_⟩
          · skip
            refine ⟨fun hq => ?_, fun hq => ?_⟩
            · skip
              (first | trivial | omega | (refine ⟨?_, ?_⟩ <;> omega))
            · skip
              (first | trivial | omega | (refine ⟨?_, ?_⟩ <;> omega))
          · skip
            (first | trivial | omega | (refine ⟨?_, ?_⟩ <;> omega))
        · intro s5_49 r_s5_49 hR_49
          refine CK.mono (ct_227   g_m_16.1 r_x1 (by unfold rg; decide) r_s5_49 (by omega) (by omega) (by omega)) (by decide) ?_
          rintro m49 v49 r_v49 ⟨e_m49, h_m49⟩
          replace e_m49 := e_m49.symm
          subst e_m49
          refine ⟨⟨by omega, by omega⟩, ?_⟩
          intro m52 e_m52
          have g_m52 : G m0 m52 := by rw [e_m52]; exact GX.wt g_m_16 (tw_321 g_m_16.1 ⟨by omega, by omega⟩) (Eq.refl true)
          try have w1 : wr (x2_16 + 1) = x2_16 + 1 := wr_id (by omega) (by omega)
          intro z2_53 e_z2_53
          have r_z2_53 : rg z2_53 := by rw [e_z2_53]; exact wr_rg _
          exact ⟨⟨g_m52, by first | omega | (refine ⟨?_, ?_⟩ <;> omega) | trivial⟩, by (try dsimp only); omega⟩
  · skip
    exact ⟨g_m, by first | trivial | omega | (refine ⟨?_, ?_⟩ <;> omega)⟩
-- TippedCratesModel.bestWay(IZ)I
set_option maxRecDepth 20000 in
theorem ct_263 {m : Mm} {x1 : Int} {x2 : Int}  (T_m : Ty m) (r_x1 : rg x1) (r_x2 : rg x2) (p0 : 0 ≤ x1 ∧ x1 ≤ 599) : CK 1 263 [.ref 284, iv x1, iv x2] m (fun m2 v => m2 = m ∧ (v = -2 ∨ (0 ≤ v ∧ v ≤ 3 ∧ 0 ≤ rd m 325 (Int.toNat (4 * x1 + v))))) := by
  refine br_263 r_x1 r_x2 ?_
  unfold P_263
  refine ⟨fun x3_9 x4_9 x5_9 => (0 ≤ x5_9 ∧ x5_9 ≤ 4) ∧ (x3_9 = -2 ∨ (0 ≤ x3_9 ∧ x3_9 ≤ 3 ∧ 0 ≤ rd m 325 (Int.toNat (4 * x1 + x3_9)))), fun x3_9 x4_9 x5_9 => Int.toNat (4 - x5_9), ?_, ?_⟩
  · (first | omega | (refine ⟨?_, ?_⟩ <;> omega) | trivial)
  · intro x3_9 x4_9 x5_9 r_x3_9 r_x4_9 r_x5_9 hI_9
    refine ⟨fun hq => ?_, fun hq => ?_⟩
    · skip
      exact ⟨rfl, by first | trivial | omega | (refine ⟨?_, ?_⟩ <;> omega)⟩
    · skip
      try have w1 : wr (4 * x1) = 4 * x1 := wr_id (by omega) (by omega)
      try have w2 : wr ((wr (4 * x1)) + x5_9) = (wr (4 * x1)) + x5_9 := wr_id (by omega) (by omega)
      refine ⟨⟨by omega, by omega⟩, ?_⟩
      have t3 := ty_325 T_m (Int.toNat (wr ((wr (4 * x1)) + x5_9)))
      intro z6_26 e_z6_26
      have r_z6_26 : rg z6_26 := by rw [e_z6_26]; exact (rd_rg _ _ _)
      refine ⟨fun y3_81 y4_81 => (y3_81 = -2 ∨ (0 ≤ y3_81 ∧ y3_81 ≤ 3 ∧ 0 ≤ rd m 325 (Int.toNat (4 * x1 + y3_81)))), ?_, ?_⟩
      · skip
        refine ⟨fun hq => ?_, fun hq => ?_⟩
        · skip
          refine ⟨fun s0_58 => True, ?_, ?_⟩
          · skip
            refine ⟨fun hq => ?_, fun hq => ?_⟩
            · skip
              refine ⟨⟨by omega, by omega⟩, ?_⟩
              (first | trivial | omega | (refine ⟨?_, ?_⟩ <;> omega))
            · skip
              refine ⟨⟨by omega, by omega⟩, ?_⟩
              (first | trivial | omega | (refine ⟨?_, ?_⟩ <;> omega))
          · intro s0_58 r_s0_58 hR_58
            refine ⟨True, ?_, ?_⟩
            · skip
              refine ⟨fun hq => ?_, fun hq => ?_⟩
              · skip
                (first | trivial | omega | (refine ⟨?_, ?_⟩ <;> omega))
              · skip
                refine ⟨fun hq => ?_, fun hq => ?_⟩
                · skip
                  (first | trivial | omega | (refine ⟨?_, ?_⟩ <;> omega))
                · skip
                  have e4 : rd m 325 (Int.toNat (4 * x1 + x5_9)) = rd m 325 (Int.toNat (wr ((wr (4 * x1)) + x5_9))) := congrArg (rd m 325) (by omega)
                  (first | trivial | omega | (refine ⟨?_, ?_⟩ <;> omega))
            · intro   hR_74
              have e4 : rd m 325 (Int.toNat (4 * x1 + x5_9)) = rd m 325 (Int.toNat (wr ((wr (4 * x1)) + x5_9))) := congrArg (rd m 325) (by omega)
              (first | trivial | omega | (refine ⟨?_, ?_⟩ <;> omega))
        · skip
          have e4 : rd m 325 (Int.toNat (4 * x1 + x5_9)) = rd m 325 (Int.toNat (wr ((wr (4 * x1)) + x5_9))) := congrArg (rd m 325) (by omega)
          (first | trivial | omega | (refine ⟨?_, ?_⟩ <;> omega))
      · intro y3_81 y4_81 r_y3_81 r_y4_81 hR_81
        try have w6 : wr (x5_9 + 1) = x5_9 + 1 := wr_id (by omega) (by omega)
        intro z5_81 e_z5_81
        have r_z5_81 : rg z5_81 := by rw [e_z5_81]; exact wr_rg _
        exact ⟨by first | omega | (refine ⟨?_, ?_⟩ <;> omega) | trivial, by (try dsimp only); omega⟩
-- TippedCratesModel.fours(I)I
set_option maxRecDepth 20000 in
theorem ct_279 {m : Mm} {x0 : Int}   (r_x0 : rg x0) (p0 : 1 ≤ x0 ∧ x0 ≤ 5) : CK 1 279 [iv x0] m (fun m2 v => m2 = m ∧ (4 ≤ v ∧ v ≤ 1024)) := by
  refine br_279 r_x0 ?_
  unfold P_279
  try have w1 : wr (2 * x0) = 2 * x0 := wr_id (by omega) (by omega)
  exact ⟨rfl, by exact four_b p0⟩
-- TippedCratesModel.isAsked(III)Z
set_option maxRecDepth 20000 in
theorem ct_281 {m : Mm} {x1 : Int} {x2 : Int} {x3 : Int}  (T_m : Ty m) (r_x1 : rg x1) (r_x2 : rg x2) (r_x3 : rg x3)  : CK 3 281 [.ref 284, iv x1, iv x2, iv x3] m (fun m2 v => m2 = m ∧ ((v = 1 ∧ 0 ≤ x1 ∧ x1 ≤ rd m 284 72 ∧ 0 ≤ x2 ∧ x2 ≤ 2 ∧ 1 ≤ x3 ∧ x3 ≤ 5) ∨ v = 0)) := by
  refine br_281 r_x1 r_x2 r_x3 ?_
  unfold P_281
  have t1 := ty_284_72 T_m
  refine CK.mono (ct_206   r_x1 (by unfold rg; decide) (rd_rg _ _ _)) (by decide) ?_
  rintro m6 v6 r_v6 ⟨e_m6, h_m6⟩
  replace e_m6 := e_m6.symm
  subst e_m6
  refine ⟨fun s0_34 m_34 => m_34 = m ∧ ((s0_34 = 1 ∧ 0 ≤ x1 ∧ x1 ≤ rd m 284 72 ∧ 0 ≤ x2 ∧ x2 ≤ 2 ∧ 1 ≤ x3 ∧ x3 ≤ 5) ∨ s0_34 = 0), ?_, ?_⟩
  · skip
    refine ⟨fun m_33 => m_33 = m ∧ (True), ?_, ?_⟩
    · skip
      refine ⟨fun hq => ?_, fun hq => ?_⟩
      · skip
        exact ⟨rfl, by first | trivial | omega | (refine ⟨?_, ?_⟩ <;> omega)⟩
      · skip
        refine CK.mono (ct_210   T_m r_x2) (by decide) ?_
        rintro m14 v14 r_v14 ⟨e_m14, h_m14⟩
        replace e_m14 := e_m14.symm
        subst e_m14
        refine ⟨fun hq => ?_, fun hq => ?_⟩
        · skip
          exact ⟨rfl, by first | trivial | omega | (refine ⟨?_, ?_⟩ <;> omega)⟩
        · skip
          refine CK.mono (ct_206   r_x3 (by unfold rg; decide) (by unfold rg; decide)) (by decide) ?_
          rintro m23 v23 r_v23 ⟨e_m23, h_m23⟩
          replace e_m23 := e_m23.symm
          subst e_m23
          refine ⟨fun hq => ?_, fun hq => ?_⟩
          · skip
            exact ⟨rfl, by first | trivial | omega | (refine ⟨?_, ?_⟩ <;> omega)⟩
          · skip
            exact ⟨rfl, by first | trivial | omega | (refine ⟨?_, ?_⟩ <;> omega)⟩
    · intro m_33  hR_33
      obtain ⟨e_m_33, hR_33⟩ := hR_33
      replace e_m_33 := e_m_33.symm
      subst e_m_33
      exact ⟨rfl, by first | trivial | omega | (refine ⟨?_, ?_⟩ <;> omega)⟩
  · intro s0_34 m_34 r_s0_34 hR_34
    obtain ⟨e_m_34, hR_34⟩ := hR_34
    replace e_m_34 := e_m_34.symm
    subst e_m_34
    exact ⟨by omega, ⟨rfl, by first | trivial | omega | (refine ⟨?_, ?_⟩ <;> omega)⟩⟩
-- TippedCratesModel.isStuck(I)Z
set_option maxRecDepth 20000 in
theorem ct_286 {m : Mm} {x1 : Int}  (T_m : Ty m) (r_x1 : rg x1) (p0 : MW m) (p1 : 0 ≤ x1 ∧ x1 ≤ 2) : CK 5 286 [.ref 284, iv x1] m (fun m2 v => m2 = m ∧ (v = 0 ∨ v = 1)) := by
  refine br_286 r_x1 ?_
  unfold P_286
  refine CK.mono (ct_224   T_m r_x1 (by unfold rg; decide) p0 (by omega) (by omega)) (by decide) ?_
  rintro m3 v3 r_v3 ⟨e_m3, h_m3⟩
  replace e_m3 := e_m3.symm
  subst e_m3
  refine ⟨fun s0_41 m_41 => m_41 = m ∧ ((s0_41 = 0 ∨ s0_41 = 1)), ?_, ?_⟩
  · skip
    refine ⟨fun m_40 => m_40 = m ∧ (True), ?_, ?_⟩
    · skip
      refine ⟨fun hq => ?_, fun hq => ?_⟩
      · skip
        exact ⟨rfl, by first | trivial | omega | (refine ⟨?_, ?_⟩ <;> omega)⟩
      · skip
        refine CK.mono (ct_224   T_m r_x1 (by unfold rg; decide) p0 (by omega) (by omega)) (by decide) ?_
        rintro m12 v12 r_v12 ⟨e_m12, h_m12⟩
        replace e_m12 := e_m12.symm
        subst e_m12
        refine ⟨fun hq => ?_, fun hq => ?_⟩
        · skip
          exact ⟨rfl, by first | trivial | omega | (refine ⟨?_, ?_⟩ <;> omega)⟩
        · skip
          refine CK.mono (ct_224   T_m r_x1 (by unfold rg; decide) p0 (by omega) (by omega)) (by decide) ?_
          rintro m21 v21 r_v21 ⟨e_m21, h_m21⟩
          replace e_m21 := e_m21.symm
          subst e_m21
          refine ⟨fun hq => ?_, fun hq => ?_⟩
          · skip
            exact ⟨rfl, by first | trivial | omega | (refine ⟨?_, ?_⟩ <;> omega)⟩
          · skip
            refine CK.mono (ct_224   T_m r_x1 (by unfold rg; decide) p0 (by omega) (by omega)) (by decide) ?_
            rintro m30 v30 r_v30 ⟨e_m30, h_m30⟩
            replace e_m30 := e_m30.symm
            subst e_m30
            refine ⟨fun hq => ?_, fun hq => ?_⟩
            · skip
              exact ⟨rfl, by first | trivial | omega | (refine ⟨?_, ?_⟩ <;> omega)⟩
            · skip
              exact ⟨rfl, by first | trivial | omega | (refine ⟨?_, ?_⟩ <;> omega)⟩
    · intro m_40  hR_40
      obtain ⟨e_m_40, hR_40⟩ := hR_40
      replace e_m_40 := e_m_40.symm
      subst e_m_40
      exact ⟨rfl, by first | trivial | omega | (refine ⟨?_, ?_⟩ <;> omega)⟩
  · intro s0_41 m_41 r_s0_41 hR_41
    obtain ⟨e_m_41, hR_41⟩ := hR_41
    replace e_m_41 := e_m_41.symm
    subst e_m_41
    exact ⟨by omega, ⟨rfl, by first | trivial | omega | (refine ⟨?_, ?_⟩ <;> omega)⟩⟩
