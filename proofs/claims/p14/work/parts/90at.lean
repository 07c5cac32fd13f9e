/-- what is told, what is held stays -/
def mk (m m2 : Mm) : Prop := rd m2 284 72 = rd m 284 72 ∧ ∀ j, rd m2 339 j = rd m 339 j
theorem mk_r (m : Mm) : mk m m := ⟨rfl, fun _ => rfl⟩
theorem mk.trans {a b c : Mm} (h : mk a b) (k : mk b c) : mk a c := ⟨k.1.trans h.1, fun j => (k.2 j).trans (h.2 j)⟩
theorem mk.wt {m m1 m2 : Mm} {i j : Nat} {v : Int} (h : mk m m1) (hi : ¬ (i = 284 ∧ j = 72) ∧ ¬ i = 339) (e : m2 = wt m1 i j v) : mk m m2 :=
  ⟨by rw [e, rd_wt, if_neg (fun w => hi.1 ⟨w.1.symm, w.2.symm⟩)]; exact h.1, fun q => by rw [e, rd_wt, if_neg (fun w => hi.2 w.1.symm)]; exact h.2 q⟩
theorem mk_gx {S : Nat → Nat → Bool} {m m2 : Mm} (g : GX S m m2) (h1 : S 284 72 = false) (h2 : ∀ j, S 339 j = false) : mk m m2 := ⟨g.2.1 284 72 h1, fun j => g.2.1 339 j (h2 j)⟩
-- TippedCratesModel.keepsRow()V
set_option maxRecDepth 20000 in
theorem mx_215 {m : Mm}   (T_m : Ty m)   : CV 1 215 [.ref 284] m (fun m2 => GX sMd m m2 ∧ ((True) ∧ (mk m m2))) := by
  refine br_215  ?_
  unfold P_215
  have g_m : GX sMd m m := ⟨T_m, fun _ _ _ => rfl, fun _ _ => rfl⟩
  refine ⟨fun x1_2 m_2 => GX sMd m m_2 ∧ ((0 ≤ x1_2 ∧ x1_2 ≤ 51) ∧ (mk m m_2)), fun x1_2 m_2 => Int.toNat (51 - x1_2), ?_, ?_⟩
  · exact ⟨g_m, by exact ⟨by first | omega | (refine ⟨?_, ?_⟩ <;> omega) | trivial, by exact mk_r _⟩⟩
  · intro x1_2 m_2 r_x1_2 hI_2
    obtain ⟨g_m_2, hI_2⟩ := hI_2
    obtain ⟨hI_2, cI_2⟩ := hI_2
    refine ⟨fun hq => ?_, fun hq => ?_⟩
    · skip
      exact ⟨g_m_2, by exact ⟨by first | trivial | omega | (refine ⟨?_, ?_⟩ <;> omega), by exact cI_2⟩⟩
    · skip
      refine ⟨⟨by omega, by omega⟩, ?_⟩
      refine ⟨⟨by omega, by omega⟩, ?_⟩
      have t1 := tr_323 g_m_2.1 (Int.toNat x1_2)
      intro m19 e_m19
      have g_m19 : GX sMd m m19 := by rw [e_m19]; exact GX.wt g_m_2 (tz_322 g_m_2.1 (rd_rg _ _ _) (by omega) (by omega)) (Eq.refl true)
      try have w2 : wr (x1_2 + 1) = x1_2 + 1 := wr_id (by omega) (by omega)
      intro z1_20 e_z1_20
      have r_z1_20 : rg z1_20 := by rw [e_z1_20]; exact wr_rg _
      exact ⟨⟨g_m19, by exact ⟨by first | omega | (refine ⟨?_, ?_⟩ <;> omega) | trivial, by exact cI_2.wt (by omega) e_m19⟩⟩, by (try dsimp only); omega⟩
-- TippedCratesModel.records()V
set_option maxRecDepth 20000 in
theorem mx_240 {m : Mm}   (T_m : Ty m)   : CV 2 240 [.ref 284] m (fun m2 => GX sMd m m2 ∧ ((True) ∧ (mk m m2))) := by
  refine br_240  ?_
  unfold P_240
  have g_m : GX sMd m m := ⟨T_m, fun _ _ _ => rfl, fun _ _ => rfl⟩
  have tu := ty_284_60 T_m
  have t1 := ty_284_60 T_m
  refine ⟨fun m_49 => GX sMd m m_49 ∧ ((rd m_49 284 60 ≤ 39) ∧ (mk m m_49)), ?_, ?_⟩
  · skip
    refine ⟨fun hq => ?_, fun hq => ?_⟩
    · skip
      exact ⟨g_m, by exact ⟨by first | trivial | omega | (refine ⟨?_, ?_⟩ <;> omega), by first | exact mk_r _ | exact cI_11.wt (by omega) e_m46⟩⟩
    · skip
      refine ⟨fun x1_11 m_11 => GX sMd m m_11 ∧ (((0 ≤ x1_11 ∧ x1_11 ≤ 1989) ∧ rd m_11 284 60 = 40) ∧ (mk m m_11)), fun x1_11 m_11 => Int.toNat (1989 - x1_11), ?_, ?_⟩
      · exact ⟨g_m, by exact ⟨by first | omega | (refine ⟨?_, ?_⟩ <;> omega) | trivial, by exact mk_r _⟩⟩
      · intro x1_11 m_11 r_x1_11 hI_11
        obtain ⟨g_m_11, hI_11⟩ := hI_11
        obtain ⟨hI_11, cI_11⟩ := hI_11
        refine ⟨fun hq => ?_, fun hq => ?_⟩
        · skip
          have t2 := ty_284_60 g_m_11.1
          try have w3 : wr ((rd m_11 284 60) - 1) = (rd m_11 284 60) - 1 := wr_id (by omega) (by omega)
          intro m46 e_m46
          have g_m46 : GX sMd m m46 := by rw [e_m46]; exact GX.wt g_m_11 (tw_284_60 g_m_11.1 ⟨by omega, by omega⟩) (Eq.refl true)
          have u46 : rd m46 284 60 = 39 := by rw [e_m46, rd_wt, if_pos ⟨rfl, rfl⟩, hI_11.2]; rfl
          exact ⟨g_m46, by exact ⟨by first | trivial | omega | (refine ⟨?_, ?_⟩ <;> omega), by first | exact mk_r _ | exact cI_11.wt (by omega) e_m46⟩⟩
        · skip
          try have w4 : wr (x1_11 + 51) = x1_11 + 51 := wr_id (by omega) (by omega)
          refine ⟨⟨by omega, by omega⟩, ?_⟩
          refine ⟨⟨by omega, by omega⟩, ?_⟩
          have t5 := tr_324 g_m_11.1 (Int.toNat (wr (x1_11 + 51)))
          intro m32 e_m32
          have g_m32 : GX sMd m m32 := by rw [e_m32]; exact GX.wt g_m_11 (tz_324 g_m_11.1 (rd_rg _ _ _) (fun h => (tr_324 g_m_11.1 _).1 (by omega)) (fun h1 h2 => (tr_324 g_m_11.1 _).2 (by omega) (by omega))) (Eq.refl true)
          have u32 : rd m32 284 60 = rd m_11 284 60 := by rw [e_m32, rd_wt, if_neg (by omega)]
          try have w6 : wr (x1_11 + 1) = x1_11 + 1 := wr_id (by omega) (by omega)
          intro z1_33 e_z1_33
          have r_z1_33 : rg z1_33 := by rw [e_z1_33]; exact wr_rg _
          exact ⟨⟨g_m32, by exact ⟨by first | omega | (refine ⟨?_, ?_⟩ <;> omega) | trivial, by exact cI_11.wt (by omega) e_m32⟩⟩, by (try dsimp only); omega⟩
  · intro m_49  hR_49
    obtain ⟨g_m_49, hR_49⟩ := hR_49
    obtain ⟨hR_49, cR_49⟩ := hR_49
    refine ⟨fun x1_51 m_51 => GX sMd m m_51 ∧ (((0 ≤ x1_51 ∧ x1_51 ≤ 51) ∧ rd m_51 284 60 ≤ 39) ∧ (mk m m_51)), fun x1_51 m_51 => Int.toNat (51 - x1_51), ?_, ?_⟩
    · exact ⟨g_m_49, by exact ⟨by first | omega | (refine ⟨?_, ?_⟩ <;> omega) | trivial, by exact cR_49⟩⟩
    · intro x1_51 m_51 r_x1_51 hI_51
      obtain ⟨g_m_51, hI_51⟩ := hI_51
      obtain ⟨hI_51, cI_51⟩ := hI_51
      refine ⟨fun hq => ?_, fun hq => ?_⟩
      · skip
        have t7 := ty_284_60 g_m_51.1
        try have w8 : wr ((rd m_51 284 60) + 1) = (rd m_51 284 60) + 1 := wr_id (by omega) (by omega)
        intro m90 e_m90
        have g_m90 : GX sMd m m90 := by rw [e_m90]; exact GX.wt g_m_51 (tw_284_60 g_m_51.1 ⟨by omega, by omega⟩) (Eq.refl true)
        refine CV.mono (mx_215   g_m90.1) (by decide) ?_
        rintro m94 ⟨hx_m94, h_m94⟩
        have g_m94 : GX sMd m m94 := gx_in g_m90 hx_m94 (fun _ _ h => h)
        obtain ⟨h_m94, k_m94⟩ := h_m94
        exact ⟨g_m94, by exact ⟨by first | trivial | omega | (refine ⟨?_, ?_⟩ <;> omega), by exact (cI_51.wt (by omega) e_m90).trans k_m94⟩⟩
      · skip
        refine ⟨⟨by omega, by omega⟩, ?_⟩
        have t9 := ty_284_60 g_m_51.1
        try have w10 : wr (51 * (rd m_51 284 60)) = 51 * (rd m_51 284 60) := wr_id (by omega) (by omega)
        try have w11 : wr ((wr (51 * (rd m_51 284 60))) + x1_51) = (wr (51 * (rd m_51 284 60))) + x1_51 := wr_id (by omega) (by omega)
        refine ⟨⟨by omega, by omega⟩, ?_⟩
        have t12 := tr_322 g_m_51.1 (Int.toNat x1_51)
        intro m76 e_m76
        have g_m76 : GX sMd m m76 := by rw [e_m76]; exact GX.wt g_m_51 (tz_324 g_m_51.1 (rd_rg _ _ _) (fun h => (tr_322 g_m_51.1 _).1 (by omega)) (fun h1 h2 => (tr_322 g_m_51.1 _).2 (by omega) (by omega))) (Eq.refl true)
        have u76 : rd m76 284 60 = rd m_51 284 60 := by rw [e_m76, rd_wt, if_neg (by omega)]
        try have w13 : wr (x1_51 + 1) = x1_51 + 1 := wr_id (by omega) (by omega)
        intro z1_77 e_z1_77
        have r_z1_77 : rg z1_77 := by rw [e_z1_77]; exact wr_rg _
        exact ⟨⟨g_m76, by exact ⟨by first | omega | (refine ⟨?_, ?_⟩ <;> omega) | trivial, by exact cI_51.wt (by omega) e_m76⟩⟩, by (try dsimp only); omega⟩
-- TippedCratesModel.tip(II)I
set_option maxRecDepth 20000 in
theorem mx_241 {m : Mm} {x1 : Int} {x2 : Int}  (T_m : Ty m) (r_x1 : rg x1) (r_x2 : rg x2) (p0 : MW m) (p1 : lawsM m) : CK 7 241 [.ref 284, iv x1, iv x2] m (fun m2 v => GX sMd m m2 ∧ ((True) ∧ (mk m m2))) := by
  refine br_241 r_x1 r_x2 ?_
  unfold P_241
  have g_m : GX sMd m m := ⟨T_m, fun _ _ _ => rfl, fun _ _ => rfl⟩
  refine CV.mono (ct_216   T_m) (by decide) ?_
  rintro m1 ⟨hx_m1, h_m1⟩
  have g_m1 : GX sMd m m1 := gx_in g_m hx_m1 in_sC_sMd
  refine CK.mono (ct_210   g_m1.1 r_x1) (by decide) ?_
  rintro m6 v6 r_v6 ⟨e_m6, h_m6⟩
  replace e_m6 := e_m6.symm
  subst e_m6
  refine ⟨fun m_28 => GX sMd m m_28 ∧ ((True) ∧ mk m m_28), ?_, ?_⟩
  · skip
    refine ⟨fun hq => ?_, fun hq => ?_⟩
    · skip
      exact ⟨g_m1, by exact ⟨by first | trivial | omega, mk_gx hx_m1 rfl (fun _ => rfl)⟩⟩
    · skip
      refine CK.mono (ct_212   r_x2) (by decide) ?_
      rintro m13 v13 r_v13 ⟨e_m13, h_m13⟩
      replace e_m13 := e_m13.symm
      subst e_m13
      refine ⟨fun hq => ?_, fun hq => ?_⟩
      · skip
        exact ⟨g_m1, by exact ⟨by first | trivial | omega, mk_gx hx_m1 rfl (fun _ => rfl)⟩⟩
      · skip
        refine CK.mono (ct_224   g_m1.1 r_x1 r_x2 (MW_D p0 g_m1) (by omega) (by omega)) (by decide) ?_
        rintro m22 v22 r_v22 ⟨e_m22, h_m22⟩
        replace e_m22 := e_m22.symm
        subst e_m22
        refine ⟨fun hq => ?_, fun hq => ?_⟩
        · skip
          refine CV.mono (ct_233   g_m1.1 r_x1 r_x2 (MW_D p0 g_m1) (laws_D p1 g_m1) (by omega) (by omega) (h_m22.2 (by omega))) (by decide) ?_
          rintro m33 ⟨hx_m33, h_m33⟩
          have g_m33 : GX sMd m m33 := gx_in g_m1 hx_m33 in_sR_sMd
          refine CV.mono (mx_240   g_m33.1) (by decide) ?_
          rintro m37 ⟨hx_m37, h_m37⟩
          have g_m37 : GX sMd m m37 := gx_in g_m33 hx_m37 (fun _ _ h => h)
          obtain ⟨h_m37, k_m37⟩ := h_m37
          try have w1 : wr (43 + x1) = 43 + x1 := wr_id (by omega) (by omega)
          refine ⟨⟨by omega, by omega⟩, ?_⟩
          have t2 := tr_322 g_m37.1 (Int.toNat (wr (43 + x1)))
          exact ⟨g_m37, by exact ⟨by first | trivial | omega | (refine ⟨?_, ?_⟩ <;> omega), by first | exact ((mk_gx hx_m1 rfl (fun _ => rfl)).trans (mk_gx hx_m33 rfl (fun _ => rfl))).trans k_m37 | exact cR_28⟩⟩
        · skip
          exact ⟨g_m1, by exact ⟨by first | trivial | omega, mk_gx hx_m1 rfl (fun _ => rfl)⟩⟩
  · intro m_28  hR_28
    obtain ⟨g_m_28, hR_28⟩ := hR_28
    obtain ⟨hR_28, cR_28⟩ := hR_28
    exact ⟨g_m_28, by exact ⟨by first | trivial | omega | (refine ⟨?_, ?_⟩ <;> omega), by first | exact ((mk_gx hx_m1 rfl (fun _ => rfl)).trans (mk_gx hx_m33 rfl (fun _ => rfl))).trans k_m37 | exact cR_28⟩⟩
-- TippedCratesModel.paint(II)Z
set_option maxRecDepth 20000 in
theorem mx_242 {m : Mm} {x1 : Int} {x2 : Int}  (T_m : Ty m) (r_x1 : rg x1) (r_x2 : rg x2) (p0 : MW m) (p1 : lawsM m) : CK 3 242 [.ref 284, iv x1, iv x2] m (fun m2 v => GX sMd m m2 ∧ ((v = 0 ∨ v = 1) ∧ (mk m m2))) := by
  refine br_242 r_x1 r_x2 ?_
  unfold P_242
  have g_m : GX sMd m m := ⟨T_m, fun _ _ _ => rfl, fun _ _ => rfl⟩
  refine CV.mono (ct_216   T_m) (by decide) ?_
  rintro m1 ⟨hx_m1, h_m1⟩
  have g_m1 : GX sMd m m1 := gx_in g_m hx_m1 in_sC_sMd
  refine CK.mono (ct_209   g_m1.1 r_x1 (MW_D p0 g_m1)) (by decide) ?_
  rintro m6 v6 r_v6 ⟨e_m6, h_m6⟩
  replace e_m6 := e_m6.symm
  subst e_m6
  refine ⟨fun m_45 => GX sMd m m_45 ∧ ((True) ∧ mk m m_45), ?_, ?_⟩
  · skip
    refine ⟨fun hq => ?_, fun hq => ?_⟩
    · skip
      exact ⟨g_m1, by exact ⟨by first | trivial | omega, mk_gx hx_m1 rfl (fun _ => rfl)⟩⟩
    · skip
      refine CK.mono (ct_211   r_x2) (by decide) ?_
      rintro m13 v13 r_v13 ⟨e_m13, h_m13⟩
      replace e_m13 := e_m13.symm
      subst e_m13
      refine ⟨fun hq => ?_, fun hq => ?_⟩
      · skip
        exact ⟨g_m1, by exact ⟨by first | trivial | omega, mk_gx hx_m1 rfl (fun _ => rfl)⟩⟩
      · skip
        refine ⟨⟨by omega, by omega⟩, ?_⟩
        have t1 := tr_323 g_m1.1 (Int.toNat x1)
        refine ⟨fun hq => ?_, fun hq => ?_⟩
        · skip
          exact ⟨g_m1, by exact ⟨by first | trivial | omega, mk_gx hx_m1 rfl (fun _ => rfl)⟩⟩
        · skip
          refine CK.mono (ct_213   r_x1) (by decide) ?_
          rintro m31 v31 r_v31 ⟨e_m31, h_m31⟩
          replace e_m31 := e_m31.symm
          subst e_m31
          refine ⟨fun hq => ?_, fun hq => ?_⟩
          · skip
            exact ⟨g_m1, by exact ⟨by first | trivial | omega, mk_gx hx_m1 rfl (fun _ => rfl)⟩⟩
          · skip
            refine CK.mono (ct_237   g_m1.1 r_x1) (by decide) ?_
            rintro m39 v39 r_v39 ⟨e_m39, h_m39⟩
            replace e_m39 := e_m39.symm
            subst e_m39
            refine ⟨fun hq => ?_, fun hq => ?_⟩
            · skip
              refine ⟨⟨by omega, by omega⟩, ?_⟩
              intro m53 e_m53
              have g_m53 : GX sMd m m53 := by rw [e_m53]; exact GX.wt g_m1 (tz_323 g_m1.1 (by first | assumption | omega) (by omega) (by omega)) (Eq.refl true)
              refine CV.mono (mx_240   g_m53.1) (by decide) ?_
              rintro m55 ⟨hx_m55, h_m55⟩
              have g_m55 : GX sMd m m55 := gx_in g_m53 hx_m55 (fun _ _ h => h)
              obtain ⟨h_m55, k_m55⟩ := h_m55
              exact ⟨g_m55, by exact ⟨by first | trivial | omega | (refine ⟨?_, ?_⟩ <;> omega), by first | exact ((mk_gx hx_m1 rfl (fun _ => rfl)).wt (by omega) e_m53).trans k_m55 | exact cR_45⟩⟩
            · skip
              exact ⟨g_m1, by exact ⟨by first | trivial | omega, mk_gx hx_m1 rfl (fun _ => rfl)⟩⟩
  · intro m_45  hR_45
    obtain ⟨g_m_45, hR_45⟩ := hR_45
    obtain ⟨hR_45, cR_45⟩ := hR_45
    exact ⟨g_m_45, by exact ⟨by first | trivial | omega | (refine ⟨?_, ?_⟩ <;> omega), by first | exact ((mk_gx hx_m1 rfl (fun _ => rfl)).wt (by omega) e_m53).trans k_m55 | exact cR_45⟩⟩
-- TippedCratesModel.minutes(I)I
set_option maxRecDepth 20000 in
theorem mx_244 {m : Mm} {x1 : Int}  (T_m : Ty m) (r_x1 : rg x1) (p0 : MW m) (p1 : lawsM m) : CK 9 244 [.ref 284, iv x1] m (fun m2 v => GX sMd m m2 ∧ ((True) ∧ (mk m m2))) := by
  refine br_244 r_x1 ?_
  unfold P_244
  have g_m : GX sMd m m := ⟨T_m, fun _ _ _ => rfl, fun _ _ => rfl⟩
  refine CK.mono (ct_243   r_x1) (by decide) ?_
  rintro m1 v1 r_v1 ⟨e_m1, h_m1⟩
  replace e_m1 := e_m1.symm
  subst e_m1
  refine ⟨fun hq => ?_, fun hq => ?_⟩
  · skip
    refine ⟨fun hq => ?_, fun hq => ?_⟩
    · skip
      refine CV.mono (ct_216   T_m) (by decide) ?_
      rintro m22 ⟨hx_m22, h_m22⟩
      have g_m22 : GX sMd m m22 := gx_in g_m hx_m22 in_sC_sMd
      refine CV.mono (ct_235   g_m22.1 r_x1 (MW_D p0 g_m22) (laws_D p1 g_m22) (by omega)) (by decide) ?_
      rintro m27 ⟨hx_m27, h_m27⟩
      have g_m27 : GX sMd m m27 := gx_in g_m22 hx_m27 in_sR_sMd
      refine CV.mono (mx_240   g_m27.1) (by decide) ?_
      rintro m31 ⟨hx_m31, h_m31⟩
      have g_m31 : GX sMd m m31 := gx_in g_m27 hx_m31 (fun _ _ h => h)
      obtain ⟨h_m31, k_m31⟩ := h_m31
      have t1 := tr_322 g_m31.1 49
      exact ⟨g_m31, by exact ⟨by first | trivial | omega | (refine ⟨?_, ?_⟩ <;> omega), by first | exact ((mk_gx hx_m22 rfl (fun _ => rfl)).trans (mk_gx hx_m27 rfl (fun _ => rfl))).trans k_m31 | exact mk_r _⟩⟩
    · skip
      have t2 := tr_322 T_m 49
      exact ⟨g_m, by exact ⟨by first | trivial | omega | (refine ⟨?_, ?_⟩ <;> omega), by first | exact ((mk_gx hx_m22 rfl (fun _ => rfl)).trans (mk_gx hx_m27 rfl (fun _ => rfl))).trans k_m31 | exact mk_r _⟩⟩
  · skip
    exact ⟨g_m, by exact ⟨by first | trivial | omega | (refine ⟨?_, ?_⟩ <;> omega), by first | exact ((mk_gx hx_m22 rfl (fun _ => rfl)).trans (mk_gx hx_m27 rfl (fun _ => rfl))).trans k_m31 | exact mk_r _⟩⟩
-- TippedCratesModel.undo()Z
set_option maxRecDepth 20000 in
theorem mx_245 {m : Mm}   (T_m : Ty m)   : CK 1 245 [.ref 284] m (fun m2 v => GX sMd m m2 ∧ ((True) ∧ (mk m m2))) := by
  refine br_245  ?_
  unfold P_245
  have g_m : GX sMd m m := ⟨T_m, fun _ _ _ => rfl, fun _ _ => rfl⟩
  have tu := ty_284_60 T_m
  have t1 := ty_284_60 T_m
  refine ⟨fun hq => ?_, fun hq => ?_⟩
  · skip
    try have w2 : wr ((rd m 284 60) - 1) = (rd m 284 60) - 1 := wr_id (by omega) (by omega)
    intro m16 e_m16
    have g_m16 : GX sMd m m16 := by rw [e_m16]; exact GX.wt g_m (tw_284_60 T_m ⟨by omega, by omega⟩) (Eq.refl true)
    have u16 : rd m16 284 60 = rd m 284 60 - 1 := by rw [e_m16, rd_wt, if_pos ⟨rfl, rfl⟩, wr_i (wr_rg _), wr_id (by omega) (by omega)]
    refine ⟨fun x1_21 m_21 => GX sMd m m_21 ∧ (((0 ≤ x1_21 ∧ x1_21 ≤ 51) ∧ rd m_21 284 60 ≤ 39) ∧ (mk m m_21)), fun x1_21 m_21 => Int.toNat (51 - x1_21), ?_, ?_⟩
    · exact ⟨g_m16, by exact ⟨by first | omega | (refine ⟨?_, ?_⟩ <;> omega) | trivial, by exact (mk_r m).wt (by omega) e_m16⟩⟩
    · intro x1_21 m_21 r_x1_21 hI_21
      obtain ⟨g_m_21, hI_21⟩ := hI_21
      obtain ⟨hI_21, cI_21⟩ := hI_21
      refine ⟨fun hq => ?_, fun hq => ?_⟩
      · skip
        exact ⟨g_m_21, by exact ⟨by first | trivial | omega | (refine ⟨?_, ?_⟩ <;> omega), by first | exact cI_21 | exact mk_r _⟩⟩
      · skip
        have t3 := ty_284_60 g_m_21.1
        try have w4 : wr (51 * (rd m_21 284 60)) = 51 * (rd m_21 284 60) := wr_id (by omega) (by omega)
        try have w5 : wr ((wr (51 * (rd m_21 284 60))) + x1_21) = (wr (51 * (rd m_21 284 60))) + x1_21 := wr_id (by omega) (by omega)
        refine ⟨⟨by omega, by omega⟩, ?_⟩
        refine ⟨⟨by omega, by omega⟩, ?_⟩
        have t6 := tr_324 g_m_21.1 (Int.toNat (wr ((wr (51 * (rd m_21 284 60))) + x1_21)))
        intro m46 e_m46
        have g_m46 : GX sMd m m46 := by rw [e_m46]; exact GX.wt g_m_21 (tz_322 g_m_21.1 (rd_rg _ _ _) (fun h => (tr_324 g_m_21.1 _).1 (by omega)) (fun h1 h2 => (tr_324 g_m_21.1 _).2 (by omega) (by omega))) (Eq.refl true)
        have u46 : rd m46 284 60 = rd m_21 284 60 := by rw [e_m46, rd_wt, if_neg (by omega)]
        try have w7 : wr (x1_21 + 1) = x1_21 + 1 := wr_id (by omega) (by omega)
        intro z1_47 e_z1_47
        have r_z1_47 : rg z1_47 := by rw [e_z1_47]; exact wr_rg _
        exact ⟨⟨g_m46, by exact ⟨by first | omega | (refine ⟨?_, ?_⟩ <;> omega) | trivial, by exact cI_21.wt (by omega) e_m46⟩⟩, by (try dsimp only); omega⟩
  · skip
    exact ⟨g_m, by exact ⟨by first | trivial | omega | (refine ⟨?_, ?_⟩ <;> omega), by first | exact cI_21 | exact mk_r _⟩⟩
-- TippedCratesModel.tell(IIZ)I
set_option maxRecDepth 20000 in
theorem mx_277 {m : Mm} {x1 : Int} {x2 : Int} {x3 : Int}  (T_m : Ty m) (r_x1 : rg x1) (r_x2 : rg x2) (r_x3 : rg x3)  : CK 3 277 [.ref 284, iv x1, iv x2, iv x3] m (fun m2 v => GX sMd m m2 ∧ ((True) ∧ ((∀ j, rd m2 339 j = rd m 339 j) ∧ (((1 ≤ x1 ∧ x1 ≤ 5) ∧ (0 ≤ x2 ∧ x2 ≤ 9) ∧ rd m 284 72 < 20 ∧ v = rd m 284 72 ∧ rd m2 284 72 = rd m 284 72 + 1) ∨ (¬ ((1 ≤ x1 ∧ x1 ≤ 5) ∧ (0 ≤ x2 ∧ x2 ≤ 9) ∧ rd m 284 72 < 20) ∧ v = -1 ∧ rd m2 284 72 = rd m 284 72))))) := by
  refine br_277 r_x1 r_x2 r_x3 ?_
  unfold P_277
  have g_m : GX sMd m m := ⟨T_m, fun _ _ _ => rfl, fun _ _ => rfl⟩
  have tt := ty_284_72 T_m
  have t1 := ty_284_72 T_m
  refine ⟨fun m_25 => GX sMd m m_25 ∧ (True ∧ ¬ ((1 ≤ x1 ∧ x1 ≤ 5) ∧ (0 ≤ x2 ∧ x2 ≤ 9) ∧ rd m 284 72 < 20) ∧ m_25 = m), ?_, ?_⟩
  · skip
    refine ⟨fun hq => ?_, fun hq => ?_⟩
    · skip
      exact ⟨g_m, by exact ⟨trivial, by omega, rfl⟩⟩
    · skip
      refine CK.mono (ct_206   r_x1 (by unfold rg; decide) (by unfold rg; decide)) (by decide) ?_
      rintro m12 v12 r_v12 ⟨e_m12, h_m12⟩
      replace e_m12 := e_m12.symm
      subst e_m12
      refine ⟨fun hq => ?_, fun hq => ?_⟩
      · skip
        exact ⟨g_m, by exact ⟨trivial, by omega, rfl⟩⟩
      · skip
        refine CK.mono (ct_211   r_x2) (by decide) ?_
        rintro m19 v19 r_v19 ⟨e_m19, h_m19⟩
        replace e_m19 := e_m19.symm
        subst e_m19
        refine ⟨fun hq => ?_, fun hq => ?_⟩
        · skip
          refine ⟨⟨by omega, by omega⟩, ?_⟩
          intro m36 e_m36
          have g_m36 : GX sMd m m36 := by rw [e_m36]; exact GX.wt g_m (tw_334 T_m ⟨by omega, by omega⟩) (Eq.refl true)
          have u36 : rd m36 284 72 = rd m 284 72 := by rw [e_m36, rd_wt, if_neg (by omega)]
          have t2 := ty_284_72 g_m36.1
          refine ⟨⟨by omega, by omega⟩, ?_⟩
          intro m46 e_m46
          have g_m46 : GX sMd m m46 := by rw [e_m46]; exact GX.wt g_m36 (tw_335 g_m36.1 (by first | assumption | omega)) (Eq.refl true)
          have u46 : rd m46 284 72 = rd m36 284 72 := by rw [e_m46, rd_wt, if_neg (by omega)]
          have t3 := ty_284_72 g_m46.1
          refine ⟨⟨by omega, by omega⟩, ?_⟩
          intro m56 e_m56
          have g_m56 : GX sMd m m56 := by rw [e_m56]; exact GX.wt g_m46 (tw_336 g_m46.1 (nz_rg _)) (Eq.refl true)
          have u56 : rd m56 284 72 = rd m46 284 72 := by rw [e_m56, rd_wt, if_neg (by omega)]
          have t4 := ty_284_72 g_m56.1
          try have w5 : wr ((rd m56 284 72) + 1) = (rd m56 284 72) + 1 := wr_id (by omega) (by omega)
          intro m64 e_m64
          have g_m64 : GX sMd m m64 := by rw [e_m64]; exact GX.wt g_m56 (tw_284_72 g_m56.1 ⟨by omega, by omega⟩) (Eq.refl true)
          have q64 : rd m64 284 72 = rd m 284 72 + 1 := by rw [e_m64, rd_wt, if_pos ⟨rfl, rfl⟩, wr_i (wr_rg _), u56, u46, u36, wr_id (by omega) (by omega)]
          have h64 : ∀ j, rd m64 339 j = rd m 339 j := fun j => by rw [e_m64, rd_wt, if_neg (by omega), e_m56, rd_wt, if_neg (by omega), e_m46, rd_wt, if_neg (by omega), e_m36, rd_wt, if_neg (by omega)]
          have t6 := ty_284_72 g_m64.1
          try have w7 : wr ((rd m64 284 72) - 1) = (rd m64 284 72) - 1 := wr_id (by omega) (by omega)
          exact ⟨g_m64, by exact ⟨by first | trivial | omega | (refine ⟨?_, ?_⟩ <;> omega), by first | exact ⟨h64, Or.inl ⟨by omega, by omega, by omega, by rw [q64, wr_id (by omega) (by omega)]; omega, q64⟩⟩ | exact ⟨fun j => by rw [hR_25.2.2], Or.inr ⟨hR_25.2.1, rfl, by rw [hR_25.2.2]⟩⟩⟩⟩
        · skip
          exact ⟨g_m, by exact ⟨trivial, by omega, rfl⟩⟩
  · intro m_25  hR_25
    obtain ⟨g_m_25, hR_25⟩ := hR_25
    exact ⟨g_m_25, by exact ⟨by first | trivial | omega | (refine ⟨?_, ?_⟩ <;> omega), by first | exact ⟨h64, Or.inl ⟨by omega, by omega, by omega, by rw [q64, wr_id (by omega) (by omega)]; omega, q64⟩⟩ | exact ⟨fun j => by rw [hR_25.2.2], Or.inr ⟨hR_25.2.1, rfl, by rw [hR_25.2.2]⟩⟩⟩⟩
-- TippedCratesModel.forget()I
set_option maxRecDepth 20000 in
theorem mx_278 {m : Mm}   (T_m : Ty m)   : CK 1 278 [.ref 284] m (fun m2 v => GX sMd m m2 ∧ ((True) ∧ ((∀ j, rd m2 339 j = rd m 339 j) ∧ v = rd m 284 72 ∧ rd m2 284 72 = 0))) := by
  refine br_278  ?_
  unfold P_278
  have g_m : GX sMd m m := ⟨T_m, fun _ _ _ => rfl, fun _ _ => rfl⟩
  have t1 := ty_284_72 T_m
  intro z1_4 e_z1_4
  have r_z1_4 : rg z1_4 := by rw [e_z1_4]; exact (rd_rg _ _ _)
  intro m7 e_m7
  have g_m7 : GX sMd m m7 := by rw [e_m7]; exact GX.wt g_m (tw_284_72 T_m ⟨by omega, by omega⟩) (Eq.refl true)
  exact ⟨g_m7, by exact ⟨by first | trivial | omega | (refine ⟨?_, ?_⟩ <;> omega), by exact ⟨fun j => by rw [e_m7, rd_wt, if_neg (by omega)], by first | rfl | omega, by rw [e_m7, rd_wt, if_pos ⟨rfl, rfl⟩]; rfl⟩⟩⟩
-- TippedCratesModel.hold(I)Z
set_option maxRecDepth 20000 in
theorem mx_284 {m : Mm} {x1 : Int}  (T_m : Ty m) (r_x1 : rg x1)  : CK 2 284 [.ref 284, iv x1] m (fun m2 v => GX sMd m m2 ∧ (((v = 1 ∧ 0 ≤ x1 ∧ x1 ≤ 2) ∨ (v = 0 ∧ (x1 < 0 ∨ 2 < x1))) ∧ (((0 ≤ x1 ∧ x1 ≤ 2) ∧ rd m2 284 72 = rd m 284 72 ∧ rd m2 339 (Int.toNat x1) = 1 ∧ ∀ j : Nat, ¬ j = Int.toNat x1 → rd m2 339 j = rd m 339 j) ∨ ((x1 < 0 ∨ 2 < x1) ∧ mk m m2)))) := by
  refine br_284 r_x1 ?_
  unfold P_284
  have g_m : GX sMd m m := ⟨T_m, fun _ _ _ => rfl, fun _ _ => rfl⟩
  refine CK.mono (ct_206   r_x1 (by unfold rg; decide) (by unfold rg; decide)) (by decide) ?_
  rintro m3 v3 r_v3 ⟨e_m3, h_m3⟩
  replace e_m3 := e_m3.symm
  subst e_m3
  refine ⟨fun hq => ?_, fun hq => ?_⟩
  · skip
    refine ⟨⟨by omega, by omega⟩, ?_⟩
    intro m17 e_m17
    have g_m17 : GX sMd m m17 := by rw [e_m17]; exact GX.wt g_m (tw_339 T_m (nz_rg _)) (Eq.refl true)
    refine ⟨fun x2_20 m_20 => GX sMd m m_20 ∧ ((0 ≤ x2_20 ∧ x2_20 ≤ 51) ∧ ((0 ≤ x1 ∧ x1 ≤ 2) ∧ rd m_20 284 72 = rd m 284 72 ∧ rd m_20 339 (Int.toNat x1) = 1 ∧ ∀ j : Nat, ¬ j = Int.toNat x1 → rd m_20 339 j = rd m 339 j)), fun x2_20 m_20 => Int.toNat (51 - x2_20), ?_, ?_⟩
    · exact ⟨g_m17, by exact ⟨by first | omega | (refine ⟨?_, ?_⟩ <;> omega) | trivial, by exact ⟨by omega, by rw [e_m17, rd_wt, if_neg (by omega)], by rw [e_m17, rd_wt, if_pos ⟨rfl, rfl⟩]; exact nz1, fun j hj => by rw [e_m17, rd_wt, if_neg (fun w => hj w.2)]⟩⟩⟩
    · intro x2_20 m_20 r_x2_20 hI_20
      obtain ⟨g_m_20, hI_20⟩ := hI_20
      obtain ⟨hI_20, cI_20⟩ := hI_20
      refine ⟨fun hq => ?_, fun hq => ?_⟩
      · skip
        exact ⟨g_m_20, by exact ⟨by first | trivial | omega | (refine ⟨?_, ?_⟩ <;> omega), by first | exact Or.inl ⟨cI_20.1, cI_20.2⟩ | exact Or.inr ⟨by omega, mk_r _⟩⟩⟩
      · skip
        refine ⟨⟨by omega, by omega⟩, ?_⟩
        try have w1 : wr (51 * x1) = 51 * x1 := wr_id (by omega) (by omega)
        try have w2 : wr ((wr (51 * x1)) + x2_20) = (wr (51 * x1)) + x2_20 := wr_id (by omega) (by omega)
        refine ⟨⟨by omega, by omega⟩, ?_⟩
        have t3 := tr_322 g_m_20.1 (Int.toNat x2_20)
        intro m42 e_m42
        have g_m42 : GX sMd m m42 := by rw [e_m42]; exact GX.wt g_m_20 (tz_340 g_m_20.1 (rd_rg _ _ _) (fun h => (tr_322 g_m_20.1 _).1 (by omega)) (fun h1 h2 => (tr_322 g_m_20.1 _).2 (by omega) (by omega))) (Eq.refl true)
        have f42 : ∀ i j : Nat, ¬ i = 340 → rd m42 i j = rd m_20 i j := fun i j q => by rw [e_m42, rd_wt, if_neg (fun w => q w.1)]
        try have w4 : wr (x2_20 + 1) = x2_20 + 1 := wr_id (by omega) (by omega)
        intro z2_43 e_z2_43
        have r_z2_43 : rg z2_43 := by rw [e_z2_43]; exact wr_rg _
        exact ⟨⟨g_m42, by exact ⟨by first | omega | (refine ⟨?_, ?_⟩ <;> omega) | trivial, by exact ⟨cI_20.1, by rw [f42 284 72 (by omega)]; exact cI_20.2.1, by rw [f42 339 _ (by omega)]; exact cI_20.2.2.1, fun j hj => by rw [f42 339 _ (by omega)]; exact cI_20.2.2.2 j hj⟩⟩⟩, by (try dsimp only); omega⟩
  · skip
    exact ⟨g_m, by exact ⟨by first | trivial | omega | (refine ⟨?_, ?_⟩ <;> omega), by first | exact Or.inl ⟨cI_20.1, cI_20.2⟩ | exact Or.inr ⟨by omega, mk_r _⟩⟩⟩
-- TippedCratesModel.restore(I)Z
set_option maxRecDepth 20000 in
theorem mx_285 {m : Mm} {x1 : Int}  (T_m : Ty m) (r_x1 : rg x1)  : CK 2 285 [.ref 284, iv x1] m (fun m2 v => GX sMd m m2 ∧ ((v = 0 ∨ v = 1) ∧ (mk m m2 ∧ ((v = 1 ∧ (0 ≤ x1 ∧ x1 ≤ 2) ∧ ¬ rd m 339 (Int.toNat x1) = 0) ∨ (v = 0 ∧ ((x1 < 0 ∨ 2 < x1) ∨ rd m 339 (Int.toNat x1) = 0)))))) := by
  refine br_285 r_x1 ?_
  unfold P_285
  have g_m : GX sMd m m := ⟨T_m, fun _ _ _ => rfl, fun _ _ => rfl⟩
  refine CK.mono (ct_206   r_x1 (by unfold rg; decide) (by unfold rg; decide)) (by decide) ?_
  rintro m3 v3 r_v3 ⟨e_m3, h_m3⟩
  replace e_m3 := e_m3.symm
  subst e_m3
  refine ⟨(x1 < 0 ∨ 2 < x1) ∨ rd m 339 (Int.toNat x1) = 0, ?_, ?_⟩
  · skip
    refine ⟨fun hq => ?_, fun hq => ?_⟩
    · skip
      (omega)
    · skip
      refine ⟨⟨by omega, by omega⟩, ?_⟩
      refine ⟨fun hq => ?_, fun hq => ?_⟩
      · skip
        refine ⟨fun x2_22 m_22 => GX sMd m m_22 ∧ ((0 ≤ x2_22 ∧ x2_22 ≤ 51) ∧ (mk m m_22 ∧ ¬ rd m 339 (Int.toNat x1) = 0)), fun x2_22 m_22 => Int.toNat (51 - x2_22), ?_, ?_⟩
        · exact ⟨g_m, by exact ⟨by first | omega | (refine ⟨?_, ?_⟩ <;> omega) | trivial, by exact ⟨mk_r _, by omega⟩⟩⟩
        · intro x2_22 m_22 r_x2_22 hI_22
          obtain ⟨g_m_22, hI_22⟩ := hI_22
          obtain ⟨hI_22, cI_22⟩ := hI_22
          refine ⟨fun hq => ?_, fun hq => ?_⟩
          · skip
            intro m53 e_m53
            have g_m53 : GX sMd m m53 := by rw [e_m53]; exact GX.wt g_m_22 (tw_284_60 g_m_22.1 ⟨by omega, by omega⟩) (Eq.refl true)
            exact ⟨g_m53, by exact ⟨by first | trivial | omega | (refine ⟨?_, ?_⟩ <;> omega), by first | exact ⟨cI_22.1.wt (by omega) e_m53, Or.inl ⟨rfl, by omega, cI_22.2⟩⟩ | exact ⟨mk_r _, Or.inr ⟨rfl, hR_18⟩⟩⟩⟩
          · skip
            try have w2 : wr (51 * x1) = 51 * x1 := wr_id (by omega) (by omega)
            try have w3 : wr ((wr (51 * x1)) + x2_22) = (wr (51 * x1)) + x2_22 := wr_id (by omega) (by omega)
            refine ⟨⟨by omega, by omega⟩, ?_⟩
            refine ⟨⟨by omega, by omega⟩, ?_⟩
            have t4 := tr_340 g_m_22.1 (Int.toNat (wr ((wr (51 * x1)) + x2_22)))
            intro m44 e_m44
            have g_m44 : GX sMd m m44 := by rw [e_m44]; exact GX.wt g_m_22 (tz_322 g_m_22.1 (rd_rg _ _ _) (fun h => (tr_340 g_m_22.1 _).1 (by omega)) (fun h1 h2 => (tr_340 g_m_22.1 _).2 (by omega) (by omega))) (Eq.refl true)
            try have w5 : wr (x2_22 + 1) = x2_22 + 1 := wr_id (by omega) (by omega)
            intro z2_45 e_z2_45
            have r_z2_45 : rg z2_45 := by rw [e_z2_45]; exact wr_rg _
            exact ⟨⟨g_m44, by exact ⟨by first | omega | (refine ⟨?_, ?_⟩ <;> omega) | trivial, by exact ⟨cI_22.1.wt (by omega) e_m44, cI_22.2⟩⟩⟩, by (try dsimp only); omega⟩
      · skip
        (omega)
  · intro   hR_18
    exact ⟨g_m, by exact ⟨by first | trivial | omega | (refine ⟨?_, ?_⟩ <;> omega), by first | exact ⟨cI_22.1.wt (by omega) e_m53, Or.inl ⟨rfl, by omega, cI_22.2⟩⟩ | exact ⟨mk_r _, Or.inr ⟨rfl, hR_18⟩⟩⟩⟩
-- TippedCratesModel.back(I)I
set_option maxRecDepth 20000 in
theorem mx_171 {m : Mm} {x1 : Int}  (T_m : Ty m) (r_x1 : rg x1)  : CK 1 171 [.ref 284, iv x1] m (fun m2 v => GX sTp m m2 ∧ (((0 ≤ x1 ∧ x1 ≤ rd m 284 2 ∧ v = rd m 284 2 - x1 ∧ rd m2 284 2 = rd m 284 2 - x1) ∨ (¬ (0 ≤ x1 ∧ x1 ≤ rd m 284 2) ∧ v = -1 ∧ rd m2 284 2 = rd m 284 2)) ∧ (∀ j, rd m2 285 j = rd m 285 j))) := by
  refine br_171 r_x1 ?_
  unfold P_171
  have g_m : GX sTp m m := ⟨T_m, fun _ _ _ => rfl, fun _ _ => rfl⟩
  have tt := ty_284_2 T_m
  refine ⟨¬ (0 ≤ x1 ∧ x1 ≤ rd m 284 2), ?_, ?_⟩
  · skip
    refine ⟨fun hq => ?_, fun hq => ?_⟩
    · skip
      (first | trivial | omega | (refine ⟨?_, ?_⟩ <;> omega))
    · skip
      have t1 := ty_284_2 T_m
      refine ⟨fun hq => ?_, fun hq => ?_⟩
      · skip
        try have w2 : wr ((rd m 284 2) - x1) = (rd m 284 2) - x1 := wr_id (by omega) (by omega)
        intro m21 e_m21
        have g_m21 : GX sTp m m21 := by rw [e_m21]; exact GX.wt g_m (tw_284_2 T_m ⟨by omega, by omega⟩) (Eq.refl true)
        have nn : rd m21 284 2 = rd m 284 2 - x1 := by rw [e_m21, rd_wt, if_pos ⟨rfl, rfl⟩, wr_i (wr_rg _), wr_id (by omega) (by omega)]
        have t3 := ty_284_2 g_m21.1
        exact ⟨g_m21, by exact ⟨by first | trivial | omega | (refine ⟨?_, ?_⟩ <;> omega), by first | exact fun j => rfl | exact fun j => by rw [e_m21, rd_wt, if_neg (by omega)]⟩⟩
      · skip
        (first | trivial | omega | (refine ⟨?_, ?_⟩ <;> omega))
  · intro   hR_12
    exact ⟨g_m, by exact ⟨by first | trivial | omega | (refine ⟨?_, ?_⟩ <;> omega), by first | exact fun j => rfl | exact fun j => by rw [e_m21, rd_wt, if_neg (by omega)]⟩⟩
-- TippedCrates.place()I
set_option maxRecDepth 20000 in
theorem cx_125 {m : Mm}   (T_m : Ty m)   : CK 1 125 [.ref 0] m (fun m2 v => m2 = m ∧ ((True) ∧ (v = rd m 19 0))) := by
  refine br_125  ?_
  unfold P_125
  exact ⟨rfl, by exact ⟨by first | trivial | omega | (refine ⟨?_, ?_⟩ <;> omega), by rfl⟩⟩
-- TippedCratesModel.place()I
set_option maxRecDepth 20000 in
theorem mx_187 {m : Mm}   (T_m : Ty m)   : CK 1 187 [.ref 284] m (fun m2 v => m2 = m ∧ ((True) ∧ (v = rd m 284 17))) := by
  refine br_187  ?_
  unfold P_187
  exact ⟨rfl, by exact ⟨by first | trivial | omega | (refine ⟨?_, ?_⟩ <;> omega), by rfl⟩⟩
