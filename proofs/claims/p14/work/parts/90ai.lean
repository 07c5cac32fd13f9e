/-- a number taken -/
def tiP (m m2 : Mm) (lo hi v : Int) : Prop := (v = lo ∧ tkP m m2 22 0) ∨ (rd m 19 5 = 0 ∧ rd m 2 (Int.toNat (rd m 19 4)) = 22 ∧ rd m 19 4 < 400 ∧ v = ld m 4 (Int.toNat (rd m 19 4)) ∧ rd m2 19 5 = 0 ∧ rd m2 19 0 = rd m 19 0 ∧ rd m2 19 4 = rd m 19 4 + 1 ∧ ((lo ≤ v ∧ v ≤ hi ∧ rd m2 19 6 = rd m 19 6 ∧ rd m2 19 7 = rd m 19 7) ∨ (¬ (lo ≤ v ∧ v ≤ hi) ∧ ((rd m 19 6 = 0 ∧ rd m2 19 6 = 5 ∧ rd m2 19 7 = rd m 3 (Int.toNat (rd m 19 4))) ∨ (¬ rd m 19 6 = 0 ∧ rd m2 19 6 = rd m 19 6 ∧ rd m2 19 7 = rd m 19 7)))))
theorem ti_no {m m2 : Mm} {lo hi v w : Int} (t : tkP m m2 22 w) (h : w = 0) (e : v = lo) : tiP m m2 lo hi v := by
  subst h
  exact Or.inl ⟨e, t⟩
theorem ti_y {m m1 : Mm} {w : Int} (t : tkP m m1 22 w) (h : ¬ w = 0) : rd m 19 5 = 0 ∧ rd m 2 (Int.toNat (rd m 19 4)) = 22 ∧ rd m 19 4 < 400 ∧ rd m1 19 5 = 0 ∧ rd m1 19 0 = rd m 19 0 ∧ rd m1 19 4 = rd m 19 4 + 1 ∧ rd m1 19 6 = rd m 19 6 ∧ rd m1 19 7 = rd m 19 7 := by
  rcases t.1 with ⟨-, q, -⟩ | ⟨q1, q2, q3, -, q5, q6, q7⟩ | ⟨-, q, -⟩
  · exact absurd q h
  · exact ⟨q1, q2, q3, q5, q6, q7, t.2.1, t.2.2⟩
  · exact absurd q h
theorem ti_in {m m1 : Mm} {lo hi z w : Int} (t : tkP m m1 22 w) (h : ¬ w = 0) (hv : rd m 2 (Int.toNat (rd m 19 4)) = 22 → rg (ld m 4 (Int.toNat (rd m 19 4)))) (ez : z = wr (ld m 4 (Int.toNat (rd m 19 4)))) (h1 : lo ≤ z) (h2 : z ≤ hi) : tiP m m1 lo hi z := by
  obtain ⟨q1, q2, q3, q4, q5, q6, q7, q8⟩ := ti_y t h
  exact Or.inr ⟨q1, q2, q3, by rw [ez, wr_i (hv q2)], q4, q5, q6, Or.inl ⟨h1, h2, q7, q8⟩⟩
theorem ti_out {m m1 m2 : Mm} {lo hi z w : Int} (t : tkP m m1 22 w) (h : ¬ w = 0) (hv : rd m 2 (Int.toNat (rd m 19 4)) = 22 → rg (ld m 4 (Int.toNat (rd m 19 4)))) (ez : z = wr (ld m 4 (Int.toNat (rd m 19 4)))) (h1 : ¬ (lo ≤ z ∧ z ≤ hi)) (f : ((rd m1 19 6 = 0 ∧ rd m2 19 6 = 5 ∧ rd m2 19 7 = rd m 3 (Int.toNat (rd m 19 4))) ∨ (¬ rd m1 19 6 = 0 ∧ rd m2 19 6 = rd m1 19 6 ∧ rd m2 19 7 = rd m1 19 7)) ∧ rd m2 19 0 = rd m1 19 0 ∧ rd m2 19 4 = rd m1 19 4 ∧ rd m2 19 5 = rd m1 19 5) : tiP m m2 lo hi z := by
  obtain ⟨q1, q2, q3, q4, q5, q6, q7, q8⟩ := ti_y t h
  rw [q7, q8, q4, q5, q6] at f
  exact Or.inr ⟨q1, q2, q3, by rw [ez, wr_i (hv q2)], f.2.2.2, f.2.1, f.2.2.1, Or.inr ⟨h1, f.1⟩⟩
-- TippedCrates$Reader.takeInt(II)I
set_option maxRecDepth 20000 in
theorem cx_40 {m : Mm} {x1 : Int} {x2 : Int}  (T_m : Ty m) (r_x1 : rg x1) (r_x2 : rg x2) (p0 : 0 ≤ x1 ∧ x1 ≤ 9999) (p1 : tkOk m) : CK 2 40 [.ref 19, iv x1, iv x2] m (fun m2 v => GX sTk m m2 ∧ ((0 ≤ v ∧ v ≤ 9999 ∧ (rd m2 19 5 = 0 → rd m 19 5 = 0 ∧ rd m2 19 4 = rd m 19 4 + 1) ∧ (rd m2 19 6 = 0 → rd m 19 6 = 0) ∧ (rd m2 19 5 = 0 → rd m2 19 6 = 0 → x1 ≤ v ∧ v ≤ x2)) ∧ (tiP m m2 x1 x2 v))) := by
  refine br_40 r_x1 r_x2 ?_
  unfold P_40
  have g_m : GX sTk m m := ⟨T_m, fun _ _ _ => rfl, fun _ _ => rfl⟩
  have t1 := ty_19_4 T_m
  refine ⟨⟨by omega, by omega⟩, ?_⟩
  try have w2 : wr (ld m 4 (Int.toNat (rd m 19 4))) = ld m 4 (Int.toNat (rd m 19 4)) := wr_id (by omega) (by omega)
  intro z3_13 e_z3_13
  have r_z3_13 : rg z3_13 := by rw [e_z3_13]; exact (wr_rg _)
  have hv := p1 (Int.toNat (rd m 19 4)) (by omega)
  refine ⟨⟨by omega, by omega⟩, ?_⟩
  intro z4_26 e_z4_26
  have r_z4_26 : rg z4_26 := by rw [e_z4_26]; exact (rd_rg _ _ _)
  refine CK.mono (ct_39   T_m (by unfold rg; decide)) (by decide) ?_
  rintro m31 v31 r_v31 ⟨hx_m31, h_m31⟩
  have g_m31 : GX sTk m m31 := gx_in g_m hx_m31 in_sTk_sTk
  have wv : rd m 2 (Int.toNat (rd m 19 4)) = 22 → z3_13 = ld m 4 (Int.toNat (rd m 19 4)) := fun w => by rw [e_z3_13]; exact wr_id (by have := hv w; omega) (by have := hv w; omega)
  have hv2 : rd m 2 (Int.toNat (rd m 19 4)) = 22 → rg (ld m 4 (Int.toNat (rd m 19 4))) := fun w => by have := hv w; exact ⟨by omega, by omega⟩
  refine ⟨fun hq => ?_, fun hq => ?_⟩
  · skip
    refine CK.mono (ct_166   r_z3_13 r_x1 r_x2) (by decide) ?_
    rintro m42 v42 r_v42 ⟨e_m42, h_m42⟩
    replace e_m42 := e_m42.symm
    subst e_m42
    refine ⟨fun m_55 => GX sTk m m_55 ∧ (((0 ≤ z3_13 ∧ z3_13 ≤ 9999) ∧ (rd m_55 19 5 = 0 → rd m 19 5 = 0 ∧ rd m_55 19 4 = rd m 19 4 + 1) ∧ (rd m_55 19 6 = 0 → rd m 19 6 = 0) ∧ (rd m_55 19 5 = 0 → rd m_55 19 6 = 0 → x1 ≤ z3_13 ∧ z3_13 ≤ x2)) ∧ (tiP m m_55 x1 x2 z3_13)), ?_, ?_⟩
    · skip
      refine ⟨fun hq => ?_, fun hq => ?_⟩
      · skip
        exact ⟨g_m31, by exact ⟨by omega, by first | exact ti_in h_m31 (by omega) hv2 e_z3_13 (by omega) (by omega) | exact ti_out h_m31 (by omega) hv2 e_z3_13 (by omega) (by rw [← e_z4_26]; exact h_m52)⟩⟩
      · skip
        refine CV.mono (ct_38   g_m31.1 (by unfold rg; decide) r_z4_26) (by decide) ?_
        rintro m52 ⟨hx_m52, h_m52⟩
        have g_m52 : GX sTk m m52 := gx_in g_m31 hx_m52 in_sTk_sTk
        exact ⟨g_m52, by exact ⟨by omega, by first | exact ti_in h_m31 (by omega) hv2 e_z3_13 (by omega) (by omega) | exact ti_out h_m31 (by omega) hv2 e_z3_13 (by omega) (by rw [← e_z4_26]; exact h_m52)⟩⟩
    · intro m_55  hR_55
      obtain ⟨g_m_55, hR_55⟩ := hR_55
      obtain ⟨hR_55, cR_55⟩ := hR_55
      exact ⟨g_m_55, by exact ⟨by omega, by first | exact cR_55 | exact ti_no h_m31 (by omega) rfl⟩⟩
  · skip
    exact ⟨g_m31, by exact ⟨by omega, by first | exact cR_55 | exact ti_no h_m31 (by omega) rfl⟩⟩
