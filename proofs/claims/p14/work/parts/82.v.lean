-- TippedCratesModel.must(I)V
set_option maxRecDepth 20000 in
theorem ct_184 {m : Mm} {x1 : Int}  (T_m : Ty m) (r_x1 : rg x1) (p0 : 0 ≤ rd m 284 13) : CV 3 184 [.ref 284, iv x1] m (fun m2 => GX sFt m m2 ∧ ((rd m2 284 13 = 0 → rd m 284 13 = 0 ∧ rd m 287 (Int.toNat (rd m 284 11)) = x1 ∧ rd m 284 11 < 400 ∧ rd m2 284 11 = rd m 284 11 + 1) ∧ 0 ≤ rd m2 284 13 ∧ (rd m2 284 15 = rd m 284 15 ∧ rd m2 284 16 = rd m 284 16) ∧ rd m 284 11 ≤ rd m2 284 11)) := by
  refine br_184 r_x1 ?_
  unfold P_184
  have g_m : GX sFt m m := ⟨T_m, fun _ _ _ => rfl, fun _ _ => rfl⟩
  have tt := ty_284_11 T_m
  refine CK.mono (ct_180   T_m r_x1) (by decide) ?_
  rintro m2 v2 r_v2 ⟨e_m2, h_m2⟩
  replace e_m2 := e_m2.symm
  subst e_m2
  refine ⟨fun m_20 => GX sFt m m_20 ∧ ((rd m_20 284 13 = 0 → rd m 284 13 = 0 ∧ rd m 287 (Int.toNat (rd m 284 11)) = x1 ∧ rd m 284 11 < 400 ∧ rd m_20 284 11 = rd m 284 11 + 1) ∧ 0 ≤ rd m_20 284 13 ∧ (rd m_20 284 15 = rd m 284 15 ∧ rd m_20 284 16 = rd m 284 16) ∧ rd m 284 11 ≤ rd m_20 284 11), ?_, ?_⟩
  · skip
    refine ⟨fun hq => ?_, fun hq => ?_⟩
    · skip
      refine CV.mono (ct_181   T_m (by unfold rg; decide) (by omega) (by omega)) (by decide) ?_
      rintro m17 ⟨hx_m17, h_m17⟩
      have g_m17 : GX sFt m m17 := gx_in g_m hx_m17 (fun _ _ h => h)
      exact ⟨g_m17, by (refine ⟨fun h => ?_, ?_, ⟨?_, ?_⟩, ?_⟩ <;> omega)⟩
    · skip
      refine CV.mono (ct_183   T_m (by omega)) (by decide) ?_
      rintro m9 ⟨hx_m9, h_m9⟩
      have g_m9 : GX sFt m m9 := gx_in g_m hx_m9 (fun _ _ h => h)
      exact ⟨g_m9, by (refine ⟨fun h => ?_, ?_, ⟨?_, ?_⟩, ?_⟩ <;> omega)⟩
  · intro m_20  hR_20
    obtain ⟨g_m_20, hR_20⟩ := hR_20
    exact ⟨g_m_20, by exact hR_20⟩
-- TippedCratesModel.wrong(II)V
set_option maxRecDepth 20000 in
theorem ct_182 {m : Mm} {x1 : Int} {x2 : Int}  (T_m : Ty m) (r_x1 : rg x1) (r_x2 : rg x2) (p0 : 1 ≤ x1 ∧ x1 ≤ 6) (p1 : 0 ≤ x2 ∧ x2 ≤ 402) (p2 : 0 ≤ rd m 284 13) : CV 1 182 [.ref 284, iv x1, iv x2] m (fun m2 => GX sFt m m2 ∧ ((rd m2 284 11 = rd m 284 11 ∧ rd m2 284 13 = rd m 284 13 ∧ rd m2 284 14 = rd m 284 14) ∧ (rd m 284 13 = 0 → ¬ rd m2 284 15 = 0) ∧ (rd m2 284 15 = 0 → rd m 284 15 = 0) ∧ (0 ≤ rd m 284 15 → 0 ≤ rd m2 284 15))) := by
  refine br_182 r_x1 r_x2 ?_
  unfold P_182
  have g_m : GX sFt m m := ⟨T_m, fun _ _ _ => rfl, fun _ _ => rfl⟩
  refine ⟨⟨by omega, by omega⟩, ?_⟩
  intro z3_6 e_z3_6
  have r_z3_6 : rg z3_6 := by rw [e_z3_6]; exact (rd_rg _ _ _)
  refine ⟨rd m 284 13 = 0 → ¬ rd m 284 15 = 0, ?_, ?_⟩
  · skip
    refine ⟨fun hq => ?_, fun hq => ?_⟩
    · skip
      (omega)
    · skip
      refine ⟨True, ?_, ?_⟩
      · skip
        refine ⟨fun hq => ?_, fun hq => ?_⟩
        · skip
          (first | trivial | omega | (refine ⟨?_, ?_⟩ <;> omega))
        · skip
          refine ⟨fun hq => ?_, fun hq => ?_⟩
          · skip
            (omega)
          · skip
            refine ⟨fun hq => ?_, fun hq => ?_⟩
            · skip
              (first | trivial | omega | (refine ⟨?_, ?_⟩ <;> omega))
            · skip
              refine ⟨fun hq => ?_, fun hq => ?_⟩
              · skip
                (first | trivial | omega | (refine ⟨?_, ?_⟩ <;> omega))
              · skip
                (omega)
      · intro   hR_46
        intro m48 e_m48
        have g_m48 : GX sFt m m48 := by rw [e_m48]; exact GX.wt g_m (tw_284_15 T_m (by first | assumption | omega)) (Eq.refl true)
        intro m53 e_m53
        have g_m53 : GX sFt m m53 := by rw [e_m53]; exact GX.wt g_m48 (tw_284_16 g_m48.1 (by first | assumption | omega)) (Eq.refl true)
        have q15 : rd m53 284 15 = x1 := by rw [e_m53, rd_wt, if_neg (by omega), e_m48, rd_wt, if_pos ⟨rfl, rfl⟩, wr_i r_x1]
        have q11 : rd m53 284 11 = rd m 284 11 := by rw [e_m53, rd_wt, if_neg (by omega), e_m48, rd_wt, if_neg (by omega)]
        have q13 : rd m53 284 13 = rd m 284 13 := by rw [e_m53, rd_wt, if_neg (by omega), e_m48, rd_wt, if_neg (by omega)]
        have q14 : rd m53 284 14 = rd m 284 14 := by rw [e_m53, rd_wt, if_neg (by omega), e_m48, rd_wt, if_neg (by omega)]
        exact ⟨g_m53, by first | exact ⟨⟨q11, q13, q14⟩, fun _ => by omega, fun h => by omega, fun _ => by omega⟩ | exact ⟨⟨rfl, rfl, rfl⟩, hR_45, fun h => h, fun h => h⟩⟩
  · intro   hR_45
    exact ⟨g_m, by first | exact ⟨⟨q11, q13, q14⟩, fun _ => by omega, fun h => by omega, fun _ => by omega⟩ | exact ⟨⟨rfl, rfl, rfl⟩, hR_45, fun h => h, fun h => h⟩⟩
-- TippedCratesModel.roomFor(II)V
set_option maxRecDepth 20000 in
theorem ct_191 {m : Mm} {x1 : Int} {x2 : Int}  (T_m : Ty m) (r_x1 : rg x1) (r_x2 : rg x2) (p0 : 0 ≤ rd m 284 13) : CV 3 191 [.ref 284, iv x1, iv x2] m (fun m2 => GX sFt m m2 ∧ ((rd m2 284 13 = 0 → rd m 284 13 = 0 ∧ ¬ x1 = x2 ∧ rd m 284 11 < 400 ∧ rd m2 284 11 = rd m 284 11 + 1) ∧ 0 ≤ rd m2 284 13 ∧ (rd m2 284 15 = rd m 284 15 ∧ rd m2 284 16 = rd m 284 16))) := by
  refine br_191 r_x1 r_x2 ?_
  unfold P_191
  have g_m : GX sFt m m := ⟨T_m, fun _ _ _ => rfl, fun _ _ => rfl⟩
  have tt := ty_284_11 T_m
  refine ⟨fun m_10 => GX sFt m m_10 ∧ ((rd m_10 284 13 = 0 → rd m 284 13 = 0 ∧ ¬ x1 = x2) ∧ 0 ≤ rd m_10 284 13 ∧ rd m_10 284 11 = rd m 284 11 ∧ rd m_10 284 15 = rd m 284 15 ∧ rd m_10 284 16 = rd m 284 16), ?_, ?_⟩
  · skip
    refine ⟨fun hq => ?_, fun hq => ?_⟩
    · skip
      exact ⟨g_m, by (refine ⟨fun h => ?_, ?_, ?_, ?_, ?_⟩ <;> omega)⟩
    · skip
      refine CV.mono (ct_181   T_m (by unfold rg; decide) (by omega) (by omega)) (by decide) ?_
      rintro m7 ⟨hx_m7, h_m7⟩
      have g_m7 : GX sFt m m7 := gx_in g_m hx_m7 (fun _ _ h => h)
      exact ⟨g_m7, by (refine ⟨fun h => ?_, ?_, ?_, ?_, ?_⟩ <;> omega)⟩
  · intro m_10  hR_10
    obtain ⟨g_m_10, hR_10⟩ := hR_10
    refine ⟨fun m_21 => GX sFt m m_21 ∧ ((rd m_21 284 13 = 0 → rd m 284 13 = 0 ∧ ¬ x1 = x2 ∧ rd m 284 11 < 400 ∧ rd m_21 284 11 = rd m 284 11 + 1) ∧ 0 ≤ rd m_21 284 13 ∧ (rd m_21 284 15 = rd m 284 15 ∧ rd m_21 284 16 = rd m 284 16)), ?_, ?_⟩
    · skip
      refine ⟨fun hq => ?_, fun hq => ?_⟩
      · skip
        exact ⟨g_m_10, by (refine ⟨fun h => ?_, ?_, ?_, ?_⟩ <;> omega)⟩
      · skip
        refine CV.mono (ct_183   g_m_10.1 (by omega)) (by decide) ?_
        rintro m18 ⟨hx_m18, h_m18⟩
        have g_m18 : GX sFt m m18 := gx_in g_m_10 hx_m18 (fun _ _ h => h)
        exact ⟨g_m18, by (refine ⟨fun h => ?_, ?_, ?_, ?_⟩ <;> omega)⟩
    · intro m_21  hR_21
      obtain ⟨g_m_21, hR_21⟩ := hR_21
      exact ⟨g_m_21, by (refine ⟨fun h => ?_, ?_, ?_, ?_⟩ <;> omega)⟩
-- TippedCratesModel.bounded(II)I
set_option maxRecDepth 20000 in
theorem ct_193 {m : Mm} {x1 : Int} {x2 : Int}  (T_m : Ty m) (r_x1 : rg x1) (r_x2 : rg x2) (p0 : 0 ≤ x1 ∧ x1 ≤ 9999) (p1 : 0 ≤ rd m 284 13) : CK 3 193 [.ref 284, iv x1, iv x2] m (fun m2 v => GX sFt m m2 ∧ ((0 ≤ v ∧ v ≤ 9999) ∧ (rd m2 284 13 = 0 → rd m 284 13 = 0 ∧ rd m2 284 11 = rd m 284 11 + 1) ∧ 0 ≤ rd m2 284 13 ∧ (rd m2 284 15 = 0 → rd m 284 15 = 0) ∧ (rd m2 284 13 = 0 → rd m2 284 15 = 0 → x1 ≤ v ∧ v ≤ x2) ∧ (0 ≤ rd m 284 15 → 0 ≤ rd m2 284 15))) := by
  refine br_193 r_x1 r_x2 ?_
  unfold P_193
  have g_m : GX sFt m m := ⟨T_m, fun _ _ _ => rfl, fun _ _ => rfl⟩
  have tt := ty_284_11 T_m
  refine ⟨fun m_15 => GX sFt m m_15 ∧ (rd m_15 284 11 = rd m 284 11 ∧ rd m_15 284 13 = rd m 284 13 ∧ rd m_15 284 15 = rd m 284 15), ?_, ?_⟩
  · skip
    refine ⟨fun hq => ?_, fun hq => ?_⟩
    · skip
      exact ⟨g_m, by exact ⟨rfl, rfl, rfl⟩⟩
    · skip
      refine CK.mono (ct_180   T_m (by unfold rg; decide)) (by decide) ?_
      rintro m9 v9 r_v9 ⟨e_m9, h_m9⟩
      replace e_m9 := e_m9.symm
      subst e_m9
      refine ⟨fun hq => ?_, fun hq => ?_⟩
      · skip
        have t2 := ty_284_11 T_m
        refine ⟨⟨by omega, by omega⟩, ?_⟩
        have t3 := ty_289 T_m (Int.toNat (rd m 284 11))
        intro z3_31 e_z3_31
        have r_z3_31 : rg z3_31 := by rw [e_z3_31]; exact (rd_rg _ _ _)
        refine ⟨fun m_51 => GX sFt m m_51 ∧ (rd m_51 284 11 = rd m 284 11 ∧ rd m_51 284 13 = rd m 284 13 ∧ rd m 284 13 = 0 ∧ (rd m_51 284 15 = 0 → rd m 284 15 = 0 ∧ x1 ≤ z3_31 ∧ z3_31 ≤ x2) ∧ (0 ≤ rd m 284 15 → 0 ≤ rd m_51 284 15)), ?_, ?_⟩
        · skip
          refine ⟨True, ?_, ?_⟩
          · skip
            refine ⟨fun hq => ?_, fun hq => ?_⟩
            · skip
              (first | trivial | omega | (refine ⟨?_, ?_⟩ <;> omega))
            · skip
              refine ⟨fun hq => ?_, fun hq => ?_⟩
              · skip
                exact ⟨g_m, by (refine ⟨?_, ?_, ?_, fun h => ?_, fun h => ?_⟩ <;> omega)⟩
              · skip
                (first | trivial | omega | (refine ⟨?_, ?_⟩ <;> omega))
          · intro   hR_42
            refine CV.mono (ct_182   T_m (by unfold rg; decide) (rd_rg _ _ _) (by omega) (by omega) (by omega)) (by decide) ?_
            rintro m48 ⟨hx_m48, h_m48⟩
            have g_m48 : GX sFt m m48 := gx_in g_m hx_m48 (fun _ _ h => h)
            exact ⟨g_m48, by (refine ⟨?_, ?_, ?_, fun h => ?_, fun h => ?_⟩ <;> omega)⟩
        · intro m_51  hR_51
          obtain ⟨g_m_51, hR_51⟩ := hR_51
          refine CV.mono (ct_183   g_m_51.1 (by omega)) (by decide) ?_
          rintro m52 ⟨hx_m52, h_m52⟩
          have g_m52 : GX sFt m m52 := gx_in g_m_51 hx_m52 (fun _ _ h => h)
          exact ⟨g_m52, by (refine ⟨?_, ?_, ?_, ?_, ?_, ?_⟩ <;> omega)⟩
      · skip
        exact ⟨g_m, by exact ⟨rfl, rfl, rfl⟩⟩
  · intro m_15  hR_15
    obtain ⟨g_m_15, hR_15⟩ := hR_15
    refine CV.mono (ct_181   g_m_15.1 (by unfold rg; decide) (by omega) (by omega)) (by decide) ?_
    rintro m17 ⟨hx_m17, h_m17⟩
    have g_m17 : GX sFt m m17 := gx_in g_m_15 hx_m17 (fun _ _ h => h)
    exact ⟨g_m17, by (refine ⟨?_, ?_, ?_, ?_, ?_, ?_⟩ <;> omega)⟩
