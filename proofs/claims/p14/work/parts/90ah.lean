/-- a number within bounds -/
def boP (m m2 : Mm) (lo hi v : Int) : Prop := (¬ (rd m 284 13 = 0 ∧ rd m 287 (Int.toNat (rd m 284 11)) = 2) ∧ v = lo ∧ rd m2 284 15 = rd m 284 15 ∧ rd m2 284 16 = rd m 284 16 ∧ rd m2 284 11 = rd m 284 11 ∧ ((rd m 284 13 = 0 ∧ rd m2 284 13 = 1 ∧ rd m2 284 14 = rd m 288 (Int.toNat (rd m 284 11))) ∨ (¬ rd m 284 13 = 0 ∧ rd m2 284 13 = rd m 284 13 ∧ rd m2 284 14 = rd m 284 14))) ∨ (rd m 284 13 = 0 ∧ rd m 287 (Int.toNat (rd m 284 11)) = 2 ∧ v = rd m 289 (Int.toNat (rd m 284 11)) ∧ ((lo ≤ v ∧ v ≤ hi ∧ rd m2 284 15 = rd m 284 15 ∧ rd m2 284 16 = rd m 284 16) ∨ (¬ (lo ≤ v ∧ v ≤ hi) ∧ wgP m m2 5 (rd m 288 (Int.toNat (rd m 284 11))))) ∧ ((rd m 284 11 < 400 ∧ rd m2 284 13 = 0 ∧ rd m2 284 14 = rd m 284 14 ∧ rd m2 284 11 = rd m 284 11 + 1) ∨ (rd m 284 11 = 400 ∧ rd m2 284 13 = 2 ∧ rd m2 284 14 = rd m 288 (Int.toNat (rd m 284 11)) ∧ rd m2 284 11 = 400)))
theorem bo_f {m m1 m2 : Mm} {lo hi v : Int} (c : rd m1 284 14 = rd m 284 14 ∧ rd m1 284 16 = rd m 284 16 ∧ ¬ (rd m 284 13 = 0 ∧ rd m 287 (Int.toNat (rd m 284 11)) = 2) ∧ rd m1 288 (Int.toNat (rd m1 284 11)) = rd m 288 (Int.toNat (rd m 284 11))) (e11 : rd m1 284 11 = rd m 284 11) (e13 : rd m1 284 13 = rd m 284 13) (e15 : rd m1 284 15 = rd m 284 15) (h : ((rd m1 284 13 = 0 ∧ rd m2 284 13 = 1 ∧ rd m2 284 14 = rd m1 288 (Int.toNat (rd m1 284 11))) ∨ (¬ rd m1 284 13 = 0 ∧ rd m2 284 13 = rd m1 284 13 ∧ rd m2 284 14 = rd m1 284 14)) ∧ rd m2 284 11 = rd m1 284 11 ∧ rd m2 284 15 = rd m1 284 15 ∧ rd m2 284 16 = rd m1 284 16) (ev : v = lo) : boP m m2 lo hi v := by
  obtain ⟨c1, c2, c3, c4⟩ := c
  rw [c4, e13, c1] at h
  exact Or.inl ⟨c3, ev, h.2.2.1.trans e15, h.2.2.2.trans c2, h.2.1.trans e11, h.1⟩
theorem bo_g {m m1 m2 : Mm} {lo hi z : Int} (h0 : rd m 284 13 = 0) (e13 : rd m1 284 13 = 0) (c : (rd m1 284 14 = rd m 284 14 ∧ rd m 287 (Int.toNat (rd m 284 11)) = 2 ∧ z = rd m 289 (Int.toNat (rd m 284 11)) ∧ rd m1 288 (Int.toNat (rd m1 284 11)) = rd m 288 (Int.toNat (rd m 284 11))) ∧ ((lo ≤ z ∧ z ≤ hi ∧ rd m1 284 15 = rd m 284 15 ∧ rd m1 284 16 = rd m 284 16) ∨ (¬ (lo ≤ z ∧ z ≤ hi) ∧ wgP m m1 5 (rd m 288 (Int.toNat (rd m 284 11)))))) (e11 : rd m1 284 11 = rd m 284 11) (go : goP m1 m2) : boP m m2 lo hi z := by
  obtain ⟨⟨c1, c2, c3, c4⟩, c5⟩ := c
  have g15 := go.2.1
  have g16 := go.2.2
  have g := go.1
  rw [e11, e13, c1] at g
  rw [e11] at c4
  refine Or.inr ⟨h0, c2, c3, ?_, ?_⟩
  · rcases c5 with ⟨a, b, d, e⟩ | ⟨a, b⟩
    · exact Or.inl ⟨a, b, g15.trans d, g16.trans e⟩
    · refine Or.inr ⟨a, ?_⟩
      unfold wgP at b ⊢
      rw [g15, g16]
      exact b
  · rcases g with ⟨q1, q2, q3, q4⟩ | ⟨q1, q2, ⟨-, q3, q4⟩ | ⟨q3, -⟩⟩
    · exact Or.inl ⟨q1, q3, q4, q2⟩
    · exact Or.inr ⟨q1, q3, q4.trans c4, q2⟩
    · exact absurd rfl q3
-- TippedCratesModel.bounded(II)I
set_option maxRecDepth 20000 in
theorem mx_193 {m : Mm} {x1 : Int} {x2 : Int}  (T_m : Ty m) (r_x1 : rg x1) (r_x2 : rg x2) (p0 : 0 ≤ x1 ∧ x1 ≤ 9999) (p1 : 0 ≤ rd m 284 13) : CK 3 193 [.ref 284, iv x1, iv x2] m (fun m2 v => GX sFt m m2 ∧ (((0 ≤ v ∧ v ≤ 9999) ∧ (rd m2 284 13 = 0 → rd m 284 13 = 0 ∧ rd m2 284 11 = rd m 284 11 + 1) ∧ 0 ≤ rd m2 284 13 ∧ (rd m2 284 15 = 0 → rd m 284 15 = 0) ∧ (rd m2 284 13 = 0 → rd m2 284 15 = 0 → x1 ≤ v ∧ v ≤ x2) ∧ (0 ≤ rd m 284 15 → 0 ≤ rd m2 284 15)) ∧ (boP m m2 x1 x2 v))) := by
  refine br_193 r_x1 r_x2 ?_
  unfold P_193
  have g_m : GX sFt m m := ⟨T_m, fun _ _ _ => rfl, fun _ _ => rfl⟩
  have tt := ty_284_11 T_m
  refine ⟨fun m_15 => GX sFt m m_15 ∧ ((rd m_15 284 11 = rd m 284 11 ∧ rd m_15 284 13 = rd m 284 13 ∧ rd m_15 284 15 = rd m 284 15) ∧ (rd m_15 284 14 = rd m 284 14 ∧ rd m_15 284 16 = rd m 284 16 ∧ ¬ (rd m 284 13 = 0 ∧ rd m 287 (Int.toNat (rd m 284 11)) = 2) ∧ rd m_15 288 (Int.toNat (rd m_15 284 11)) = (rd m 288 (Int.toNat (rd m 284 11))))), ?_, ?_⟩
  · skip
    refine ⟨fun hq => ?_, fun hq => ?_⟩
    · skip
      exact ⟨g_m, by exact ⟨by exact ⟨rfl, rfl, rfl⟩, by exact ⟨rfl, rfl, by omega, rfl⟩⟩⟩
    · skip
      refine CK.mono (ct_180   T_m (by unfold rg; decide)) (by decide) ?_
      rintro m9 v9 r_v9 ⟨e_m9, h_m9⟩
      replace e_m9 := e_m9.symm
      subst e_m9
      refine ⟨fun hq => ?_, fun hq => ?_⟩
      · skip
        have t2 := ty_284_11 T_m
        refine ⟨⟨by omega, by omega⟩, ?_⟩
        have t3 := ty_289 T_m (Int.toNat (rd m 284 11))
        intro z3_31 e_z3_31
        have r_z3_31 : rg z3_31 := by rw [e_z3_31]; exact (rd_rg _ _ _)
        refine ⟨fun m_51 => GX sFt m m_51 ∧ ((rd m_51 284 11 = rd m 284 11 ∧ rd m_51 284 13 = rd m 284 13 ∧ rd m 284 13 = 0 ∧ (rd m_51 284 15 = 0 → rd m 284 15 = 0 ∧ x1 ≤ z3_31 ∧ z3_31 ≤ x2) ∧ (0 ≤ rd m 284 15 → 0 ≤ rd m_51 284 15)) ∧ ((rd m_51 284 14 = rd m 284 14 ∧ rd m 287 (Int.toNat (rd m 284 11)) = 2 ∧ z3_31 = rd m 289 (Int.toNat (rd m 284 11)) ∧ rd m_51 288 (Int.toNat (rd m_51 284 11)) = (rd m 288 (Int.toNat (rd m 284 11)))) ∧ ((x1 ≤ z3_31 ∧ z3_31 ≤ x2 ∧ rd m_51 284 15 = rd m 284 15 ∧ rd m_51 284 16 = rd m 284 16) ∨ (¬ (x1 ≤ z3_31 ∧ z3_31 ≤ x2) ∧ wgP m m_51 5 (rd m 288 (Int.toNat (rd m 284 11))))))), ?_, ?_⟩
        · skip
          refine ⟨¬ (x1 ≤ z3_31 ∧ z3_31 ≤ x2), ?_, ?_⟩
          · skip
            refine ⟨fun hq => ?_, fun hq => ?_⟩
            · skip
              (omega)
            · skip
              refine ⟨fun hq => ?_, fun hq => ?_⟩
              · skip
                exact ⟨g_m, by exact ⟨by (refine ⟨?_, ?_, ?_, fun h => ?_, fun h => ?_⟩ <;> omega), by first | exact ⟨⟨rfl, by omega, e_z3_31, rfl⟩, Or.inl ⟨by omega, by omega, rfl, rfl⟩⟩ | exact ⟨⟨by omega, by omega, e_z3_31, by rw [hx_m48.2.1 288 _ rfl, h_m48.1.1.1]⟩, Or.inr ⟨by omega, h_m48.2⟩⟩⟩⟩
              · skip
                (omega)
          · intro   hR_42
            refine CV.mono (mx_182   T_m (by unfold rg; decide) (rd_rg _ _ _) (by omega) (by omega) (by omega)) (by decide) ?_
            rintro m48 ⟨hx_m48, h_m48⟩
            have g_m48 : GX sFt m m48 := gx_in g_m hx_m48 (fun _ _ h => h)
            exact ⟨g_m48, by exact ⟨by (refine ⟨?_, ?_, ?_, fun h => ?_, fun h => ?_⟩ <;> omega), by first | exact ⟨⟨rfl, by omega, e_z3_31, rfl⟩, Or.inl ⟨by omega, by omega, rfl, rfl⟩⟩ | exact ⟨⟨by omega, by omega, e_z3_31, by rw [hx_m48.2.1 288 _ rfl, h_m48.1.1.1]⟩, Or.inr ⟨by omega, h_m48.2⟩⟩⟩⟩
        · intro m_51  hR_51
          obtain ⟨g_m_51, hR_51⟩ := hR_51
          obtain ⟨hR_51, cR_51⟩ := hR_51
          refine CV.mono (ct_183   g_m_51.1 (by omega)) (by decide) ?_
          rintro m52 ⟨hx_m52, h_m52⟩
          have g_m52 : GX sFt m m52 := gx_in g_m_51 hx_m52 (fun _ _ h => h)
          exact ⟨g_m52, by exact ⟨by (refine ⟨?_, ?_, ?_, ?_, ?_, ?_⟩ <;> omega), by first | exact bo_f cR_15 (by omega) (by omega) (by omega) h_m17 rfl | exact bo_g (by omega) (by omega) cR_51 (by omega) h_m52⟩⟩
      · skip
        exact ⟨g_m, by exact ⟨by exact ⟨rfl, rfl, rfl⟩, by exact ⟨rfl, rfl, by omega, rfl⟩⟩⟩
  · intro m_15  hR_15
    obtain ⟨g_m_15, hR_15⟩ := hR_15
    obtain ⟨hR_15, cR_15⟩ := hR_15
    refine CV.mono (ct_181   g_m_15.1 (by unfold rg; decide) (by omega) (by omega)) (by decide) ?_
    rintro m17 ⟨hx_m17, h_m17⟩
    have g_m17 : GX sFt m m17 := gx_in g_m_15 hx_m17 (fun _ _ h => h)
    exact ⟨g_m17, by exact ⟨by (refine ⟨?_, ?_, ?_, ?_, ?_, ?_⟩ <;> omega), by first | exact bo_f cR_15 (by omega) (by omega) (by omega) h_m17 rfl | exact bo_g (by omega) (by omega) cR_51 (by omega) h_m52⟩⟩
