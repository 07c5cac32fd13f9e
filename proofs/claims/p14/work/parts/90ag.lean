/-- a token that must be there, as the class's take -/
def muP (m m2 : Mm) (k : Int) : Prop := (¬ rd m 284 13 = 0 ∧ rd m2 284 13 = rd m 284 13 ∧ rd m2 284 14 = rd m 284 14 ∧ rd m2 284 11 = rd m 284 11) ∨ (rd m 284 13 = 0 ∧ rd m 287 (Int.toNat (rd m 284 11)) = k ∧ rd m 284 11 < 400 ∧ rd m2 284 13 = 0 ∧ rd m2 284 14 = rd m 284 14 ∧ rd m2 284 11 = rd m 284 11 + 1) ∨ (rd m 284 13 = 0 ∧ ((rd m 287 (Int.toNat (rd m 284 11)) = k ∧ rd m 284 11 = 400 ∧ rd m2 284 13 = 2) ∨ (¬ rd m 287 (Int.toNat (rd m 284 11)) = k ∧ rd m2 284 13 = 1)) ∧ rd m2 284 14 = rd m 288 (Int.toNat (rd m 284 11)) ∧ rd m2 284 11 = rd m 284 11)
theorem mu_1 {m m2 : Mm} {k : Int} (h0 : rd m 284 13 = 0) (hk : rd m 287 (Int.toNat (rd m 284 11)) = k) (go : goP m m2) : muP m m2 k := by
  rcases go.1 with ⟨q1, q2, q3, q4⟩ | ⟨q1, q2, ⟨-, q3, q4⟩ | ⟨q3, -⟩⟩
  · exact Or.inr (Or.inl ⟨h0, hk, q1, q3.trans h0, q4, q2⟩)
  · exact Or.inr (Or.inr ⟨h0, Or.inl ⟨hk, q1, q3⟩, q4, q2.trans q1.symm⟩)
  · exact absurd h0 q3
theorem mu_2 {m m2 : Mm} {k : Int} (hn : ¬ (rd m 284 13 = 0 ∧ rd m 287 (Int.toNat (rd m 284 11)) = k)) (h : ((rd m 284 13 = 0 ∧ rd m2 284 13 = 1 ∧ rd m2 284 14 = rd m 288 (Int.toNat (rd m 284 11))) ∨ (¬ rd m 284 13 = 0 ∧ rd m2 284 13 = rd m 284 13 ∧ rd m2 284 14 = rd m 284 14)) ∧ rd m2 284 11 = rd m 284 11 ∧ rd m2 284 15 = rd m 284 15 ∧ rd m2 284 16 = rd m 284 16) : muP m m2 k := by
  rcases h.1 with ⟨q1, q2, q3⟩ | ⟨q1, q2, q3⟩
  · exact Or.inr (Or.inr ⟨q1, Or.inr ⟨fun w => hn ⟨q1, w⟩, q2⟩, q3, h.2.1⟩)
  · exact Or.inl ⟨q1, q2, q3, h.2.1⟩
/-- a fault of meaning is noted, or an older one stays -/
def wgP (m m2 : Mm) (k p : Int) : Prop := (rd m2 284 15 = k ∧ rd m2 284 16 = p ∧ ¬ 0 < rd m 284 13 ∧ (rd m 284 15 = 0 ∨ p < rd m 284 16 ∨ (p = rd m 284 16 ∧ k < rd m 284 15))) ∨ (rd m2 284 15 = rd m 284 15 ∧ rd m2 284 16 = rd m 284 16 ∧ (0 < rd m 284 13 ∨ (¬ rd m 284 15 = 0 ∧ (rd m 284 16 < p ∨ (p = rd m 284 16 ∧ rd m 284 15 ≤ k)))))
-- TippedCratesModel.must(I)V
set_option maxRecDepth 20000 in
theorem mx_184 {m : Mm} {x1 : Int}  (T_m : Ty m) (r_x1 : rg x1) (p0 : 0 ≤ rd m 284 13) : CV 3 184 [.ref 284, iv x1] m (fun m2 => GX sFt m m2 ∧ (((rd m2 284 13 = 0 → rd m 284 13 = 0 ∧ rd m 287 (Int.toNat (rd m 284 11)) = x1 ∧ rd m 284 11 < 400 ∧ rd m2 284 11 = rd m 284 11 + 1) ∧ 0 ≤ rd m2 284 13 ∧ (rd m2 284 15 = rd m 284 15 ∧ rd m2 284 16 = rd m 284 16) ∧ rd m 284 11 ≤ rd m2 284 11) ∧ (muP m m2 x1))) := by
  refine br_184 r_x1 ?_
  unfold P_184
  have g_m : GX sFt m m := ⟨T_m, fun _ _ _ => rfl, fun _ _ => rfl⟩
  have tt := ty_284_11 T_m
  refine CK.mono (ct_180   T_m r_x1) (by decide) ?_
  rintro m2 v2 r_v2 ⟨e_m2, h_m2⟩
  replace e_m2 := e_m2.symm
  subst e_m2
  refine ⟨fun m_20 => GX sFt m m_20 ∧ (((rd m_20 284 13 = 0 → rd m 284 13 = 0 ∧ rd m 287 (Int.toNat (rd m 284 11)) = x1 ∧ rd m 284 11 < 400 ∧ rd m_20 284 11 = rd m 284 11 + 1) ∧ 0 ≤ rd m_20 284 13 ∧ (rd m_20 284 15 = rd m 284 15 ∧ rd m_20 284 16 = rd m 284 16) ∧ rd m 284 11 ≤ rd m_20 284 11) ∧ (muP m m_20 x1)), ?_, ?_⟩
  · skip
    refine ⟨fun hq => ?_, fun hq => ?_⟩
    · skip
      refine CV.mono (ct_181   T_m (by unfold rg; decide) (by omega) (by omega)) (by decide) ?_
      rintro m17 ⟨hx_m17, h_m17⟩
      have g_m17 : GX sFt m m17 := gx_in g_m hx_m17 (fun _ _ h => h)
      exact ⟨g_m17, by exact ⟨by (refine ⟨fun h => ?_, ?_, ⟨?_, ?_⟩, ?_⟩ <;> omega), by first | exact mu_1 (by omega) (by omega) h_m9 | exact mu_2 (by omega) h_m17⟩⟩
    · skip
      refine CV.mono (ct_183   T_m (by omega)) (by decide) ?_
      rintro m9 ⟨hx_m9, h_m9⟩
      have g_m9 : GX sFt m m9 := gx_in g_m hx_m9 (fun _ _ h => h)
      exact ⟨g_m9, by exact ⟨by (refine ⟨fun h => ?_, ?_, ⟨?_, ?_⟩, ?_⟩ <;> omega), by first | exact mu_1 (by omega) (by omega) h_m9 | exact mu_2 (by omega) h_m17⟩⟩
  · intro m_20  hR_20
    obtain ⟨g_m_20, hR_20⟩ := hR_20
    obtain ⟨hR_20, cR_20⟩ := hR_20
    exact ⟨g_m_20, by exact ⟨by exact hR_20, by exact cR_20⟩⟩
-- TippedCratesModel.wrong(II)V
set_option maxRecDepth 20000 in
theorem mx_182 {m : Mm} {x1 : Int} {x2 : Int}  (T_m : Ty m) (r_x1 : rg x1) (r_x2 : rg x2) (p0 : 1 ≤ x1 ∧ x1 ≤ 6) (p1 : 0 ≤ x2 ∧ x2 ≤ 402) (p2 : 0 ≤ rd m 284 13) : CV 1 182 [.ref 284, iv x1, iv x2] m (fun m2 => GX sFt m m2 ∧ (((rd m2 284 11 = rd m 284 11 ∧ rd m2 284 13 = rd m 284 13 ∧ rd m2 284 14 = rd m 284 14) ∧ (rd m 284 13 = 0 → ¬ rd m2 284 15 = 0) ∧ (rd m2 284 15 = 0 → rd m 284 15 = 0) ∧ (0 ≤ rd m 284 15 → 0 ≤ rd m2 284 15)) ∧ (wgP m m2 x1 (rd m 288 (Int.toNat x2))))) := by
  refine br_182 r_x1 r_x2 ?_
  unfold P_182
  have g_m : GX sFt m m := ⟨T_m, fun _ _ _ => rfl, fun _ _ => rfl⟩
  refine ⟨⟨by omega, by omega⟩, ?_⟩
  intro z3_6 e_z3_6
  have r_z3_6 : rg z3_6 := by rw [e_z3_6]; exact (rd_rg _ _ _)
  refine ⟨(rd m 284 13 = 0 → ¬ rd m 284 15 = 0) ∧ (0 < rd m 284 13 ∨ (¬ rd m 284 15 = 0 ∧ (rd m 284 16 < rd m 288 (Int.toNat x2) ∨ (rd m 288 (Int.toNat x2) = rd m 284 16 ∧ rd m 284 15 ≤ x1)))), ?_, ?_⟩
  · skip
    refine ⟨fun hq => ?_, fun hq => ?_⟩
    · skip
      (exact ⟨by omega, by (rw [← e_z3_6]; omega)⟩)
    · skip
      refine ⟨¬ 0 < rd m 284 13 ∧ (rd m 284 15 = 0 ∨ rd m 288 (Int.toNat x2) < rd m 284 16 ∨ (rd m 288 (Int.toNat x2) = rd m 284 16 ∧ x1 < rd m 284 15)), ?_, ?_⟩
      · skip
        refine ⟨fun hq => ?_, fun hq => ?_⟩
        · skip
          ((rw [← e_z3_6]; omega))
        · skip
          refine ⟨fun hq => ?_, fun hq => ?_⟩
          · skip
            (exact ⟨by omega, by (rw [← e_z3_6]; omega)⟩)
          · skip
            refine ⟨fun hq => ?_, fun hq => ?_⟩
            · skip
              ((rw [← e_z3_6]; omega))
            · skip
              refine ⟨fun hq => ?_, fun hq => ?_⟩
              · skip
                ((rw [← e_z3_6]; omega))
              · skip
                (exact ⟨by omega, by (rw [← e_z3_6]; omega)⟩)
      · intro   hR_46
        intro m48 e_m48
        have g_m48 : GX sFt m m48 := by rw [e_m48]; exact GX.wt g_m (tw_284_15 T_m (by first | assumption | omega)) (Eq.refl true)
        intro m53 e_m53
        have g_m53 : GX sFt m m53 := by rw [e_m53]; exact GX.wt g_m48 (tw_284_16 g_m48.1 (by first | assumption | omega)) (Eq.refl true)
        have q15 : rd m53 284 15 = x1 := by rw [e_m53, rd_wt, if_neg (by omega), e_m48, rd_wt, if_pos ⟨rfl, rfl⟩, wr_i r_x1]
        have q11 : rd m53 284 11 = rd m 284 11 := by rw [e_m53, rd_wt, if_neg (by omega), e_m48, rd_wt, if_neg (by omega)]
        have q13 : rd m53 284 13 = rd m 284 13 := by rw [e_m53, rd_wt, if_neg (by omega), e_m48, rd_wt, if_neg (by omega)]
        have q14 : rd m53 284 14 = rd m 284 14 := by rw [e_m53, rd_wt, if_neg (by omega), e_m48, rd_wt, if_neg (by omega)]
        exact ⟨g_m53, by exact ⟨by first | exact ⟨⟨q11, q13, q14⟩, fun _ => by omega, fun h => by omega, fun _ => by omega⟩ | exact ⟨⟨rfl, rfl, rfl⟩, hR_45, fun h => h, fun h => h⟩, by first | exact Or.inl ⟨by rw [e_m53, rd_wt, if_neg (by omega), e_m48, rd_wt, if_pos ⟨rfl, rfl⟩, wr_i r_x1], by rw [e_m53, rd_wt, if_pos ⟨rfl, rfl⟩, wr_i r_z3_6, e_z3_6], hR_46⟩ | exact Or.inr ⟨rfl, rfl, cR_45⟩⟩⟩
  · intro   hR_45
    obtain ⟨hR_45, cR_45⟩ := hR_45
    exact ⟨g_m, by exact ⟨by first | exact ⟨⟨q11, q13, q14⟩, fun _ => by omega, fun h => by omega, fun _ => by omega⟩ | exact ⟨⟨rfl, rfl, rfl⟩, hR_45, fun h => h, fun h => h⟩, by first | exact Or.inl ⟨by rw [e_m53, rd_wt, if_neg (by omega), e_m48, rd_wt, if_pos ⟨rfl, rfl⟩, wr_i r_x1], by rw [e_m53, rd_wt, if_pos ⟨rfl, rfl⟩, wr_i r_z3_6, e_z3_6], hR_46⟩ | exact Or.inr ⟨rfl, rfl, cR_45⟩⟩⟩
