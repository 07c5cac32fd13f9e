theorem ou_e {p : Prop} {v w : Int} (h : (v = 1 ∧ p) ∨ (v = 0 ∧ ¬ p)) (k : (w = 1 ∧ p) ∨ (w = 0 ∧ ¬ p)) : v = w := by
  rcases h with ⟨a, b⟩ | ⟨a, b⟩ <;> rcases k with ⟨c, d⟩ | ⟨c, d⟩
  · exact a.trans c.symm
  · exact absurd b d
  · exact absurd d b
  · exact a.trans c.symm
theorem telP_u {A : Ab} {x1 x2 x3 v w : Int} (h : telP A x1 x2 x3 v) (k : telP A x1 x2 x3 w) : v = w := by
  rcases h with ⟨a, b⟩ | ⟨a, h⟩ <;> rcases k with ⟨c, d⟩ | ⟨c, k⟩
  · exact b.trans d.symm
  · exact absurd c a
  · exact absurd a c
  · clear a c
    rcases h with ⟨p, h⟩ | ⟨p, h⟩ | ⟨p, h⟩ | ⟨p, h⟩ | ⟨p, h⟩ | ⟨p, h⟩ <;> rcases k with ⟨q, k⟩ | ⟨q, k⟩ | ⟨q, k⟩ | ⟨q, k⟩ | ⟨q, k⟩ | ⟨q, k⟩ <;> first | exact ou_e h k | exact h.trans k.symm | (clear h k; exfalso; omega)
/-- what a crate will be -/
def thnA (A : Ab) (x1 x2 x3 : Int) : Int := if (0 ≤ x1 ∧ x1 < A.Y 3) ∧ (0 ≤ x2 ∧ x2 ≤ 60) ∧ 0 ≤ x3 ∧ x3 ≤ 1 then (if x3 = 0 then fC (goN A.Y A.E (A.Y 4) A.r (Int.toNat x2)) x1 else goN A.Y A.E (A.Y 4) A.r (Int.toNat x2) (Int.toNat (25 + 6 * x1))) else -1
theorem th_C {m m38 m65 : Mm} {A : Ab} {x1 x2 x3 s : Int} (h : cA m A) (hx : 0 ≤ x1 ∧ x1 ≤ rd m 7 3 - 1) (h2 : 0 ≤ x2 ∧ x2 ≤ 60) (h3 : 0 ≤ x3 ∧ x3 ≤ 1) (q : cA m38 A ∧ stC m38 279 A.Y (goN A.Y A.E (rd m 7 2) A.r (Int.toNat x2))) (e : m65 = m38 ∧ ((x3 = 0 ∧ s = rd m38 281 (Int.toNat x1)) ∨ (¬ x3 = 0 ∧ s = rd m38 282 (Int.toNat (x1 * 6))))) : s = thnA A x1 x2 x3 ∧ cA m65 A := by
  have e4 : rd m 7 2 = A.Y 4 := h.1.1.2.2.2.2
  have hx2 := te_Cx h hx
  rw [e4] at q
  obtain ⟨e0, e⟩ := e
  subst e0
  refine ⟨?_, q.1⟩
  unfold thnA
  rw [if_pos ⟨hx2, h2, h3⟩]
  rcases e with ⟨a, b⟩ | ⟨a, b⟩
  · rw [if_pos a, b]
    exact q.2.2.2.1 x1 (by omega) (by omega)
  · rw [if_neg a, b, show Int.toNat (25 + 6 * x1) = Int.toNat (25 + x1 * 6) by omega]
    exact q.2.2.2.2.1 (x1 * 6) (by omega) (by omega)
theorem th_Cn {m m27 : Mm} {A : Ab} {x1 x2 x3 : Int} (h : cA m A) (e : m27 = m) (c : ¬ (0 ≤ x1 ∧ x1 ≤ rd m 7 3 - 1) ∨ ¬ (0 ≤ x2 ∧ x2 ≤ 60) ∨ ¬ (0 ≤ x3 ∧ x3 ≤ 1)) : (-1 : Int) = thnA A x1 x2 x3 ∧ cA m27 A := by
  subst e
  rw [h.1.1.2.2.2.1] at c
  refine ⟨?_, h⟩
  unfold thnA
  rw [if_neg (by omega)]
theorem lsE_G {m0 m : Mm} (h : ∃ E, LSd m0 11 E) (g : G m0 m) : ∃ E, LSd m 11 E := by
  obtain ⟨E, h⟩ := h
  exact ⟨E, ls_fr h (g.2.1 11 4 rfl) (fun j => g.2.1 13 j rfl) (fun j => g.2.1 14 j rfl)⟩
/-- in how many of the first n seeds -/
def yrN (A : Ab) (x1 x2 x3 : Int) : Nat → Int
  | 0 => 0
  | k + 1 => if goN A.Y A.E (wr (A.Y 4 + (k : Int))) A.r (Int.toNat x3) (Int.toNat (25 + 6 * x1)) = x2 then wr (yrN A x1 x2 x3 k + 1) else yrN A x1 x2 x3 k
def yrA (A : Ab) (x1 x2 x3 x4 : Int) : Int := if (0 ≤ x1 ∧ x1 < A.Y 3) ∧ (0 ≤ x2 ∧ x2 ≤ 9) ∧ (0 ≤ x3 ∧ x3 ≤ 60) ∧ 1 ≤ x4 ∧ x4 ≤ 20 then yrN A x1 x2 x3 (Int.toNat x4) else -1
theorem yr_s {A : Ab} {x1 x2 x3 x5 x6 v y z : Int} (d : x5 = yrN A x1 x2 x3 (Int.toNat x6)) (ev : v = goN A.Y A.E (wr (A.Y 4 + x6)) A.r (Int.toNat x3) (Int.toNat (25 + 6 * x1))) (ey : (v = x2 ∧ y = wr (x5 + 1)) ∨ (¬ v = x2 ∧ y = x5)) (e6 : 0 ≤ x6 ∧ z = x6 + 1) : y = yrN A x1 x2 x3 (Int.toNat z) := by
  rw [show Int.toNat z = Int.toNat x6 + 1 by omega]
  show y = if goN A.Y A.E (wr (A.Y 4 + ((Int.toNat x6 : Nat) : Int))) A.r (Int.toNat x3) (Int.toNat (25 + 6 * x1)) = x2 then wr (yrN A x1 x2 x3 (Int.toNat x6) + 1) else yrN A x1 x2 x3 (Int.toNat x6)
  rw [show ((Int.toNat x6 : Nat) : Int) = x6 by omega, ← ev, ← d]
  rcases ey with ⟨a, b⟩ | ⟨a, b⟩
  · rw [if_pos a, b]
  · rw [if_neg a, b]
theorem yr_C {m46 m65 : Mm} {A : Ab} {x1 x2 x3 x5 x6 v y z : Int} (d : cA m46 A ∧ x5 = yrN A x1 x2 x3 (Int.toNat x6)) (hx : 0 ≤ x1 ∧ x1 < A.Y 3) (q : ∀ A, cA m46 A → cA m65 A ∧ stC m65 279 A.Y (goN A.Y A.E (wr (rd m46 7 2 + x6)) A.r (Int.toNat x3))) (ev : v = rd m65 (279 + 3) (Int.toNat (x1 * 6))) (ey : (v = x2 ∧ y = wr (x5 + 1)) ∨ (¬ v = x2 ∧ y = x5)) (e6 : 0 ≤ x6 ∧ z = x6 + 1) : cA m65 A ∧ y = yrN A x1 x2 x3 (Int.toNat z) := by
  have e4 : rd m46 7 2 = A.Y 4 := d.1.1.1.2.2.2.2
  have t := q A d.1
  rw [e4] at t
  have w := t.2.2.2.2.1 (x1 * 6) (by omega) (by omega)
  rw [← ev, show Int.toNat (25 + x1 * 6) = Int.toNat (25 + 6 * x1) by omega] at w
  exact ⟨t.1, yr_s d.2 w ey e6⟩
theorem yr_Cr {m46 : Mm} {A : Ab} {x1 x2 x3 x4 x5 x6 : Int} (d : cA m46 A ∧ x5 = yrN A x1 x2 x3 (Int.toNat x6)) (hx : 0 ≤ x1 ∧ x1 < A.Y 3) (h2 : 0 ≤ x2 ∧ x2 ≤ 9) (h3 : 0 ≤ x3 ∧ x3 ≤ 60) (h4 : 1 ≤ x4 ∧ x4 ≤ 20) (e : x6 = x4) : x5 = yrA A x1 x2 x3 x4 ∧ cA m46 A := by
  subst e
  refine ⟨?_, d.1⟩
  unfold yrA
  rw [if_pos ⟨hx, h2, h3, h4⟩]
  exact d.2
theorem yr_Cm {m m38 : Mm} {A : Ab} {x1 x2 x3 x4 : Int} (e : m38 = m) (c : ¬ (0 ≤ x3 ∧ x3 ≤ 60) ∨ ¬ (1 ≤ x4 ∧ x4 ≤ 20)) (h : cA m A) : (-1 : Int) = yrA A x1 x2 x3 x4 ∧ cA m38 A := by
  subst e
  refine ⟨?_, h⟩
  unfold yrA
  rw [if_neg (by omega)]
theorem yr_Cn {m m15 : Mm} {A : Ab} {x1 x2 x3 x4 : Int} (h : cA m A) (e : m15 = m) (c : ¬ (0 ≤ x1 ∧ x1 ≤ rd m 7 3 - 1) ∨ ¬ (0 ≤ x2 ∧ x2 ≤ 9)) : (-1 : Int) = yrA A x1 x2 x3 x4 ∧ cA m15 A := by
  subst e
  rw [h.1.1.2.2.2.1] at c
  refine ⟨?_, h⟩
  unfold yrA
  rw [if_neg (by omega)]
-- TippedCrates.then(III)I
set_option maxRecDepth 20000 in
theorem ey_147 {m0 m : Mm} {x1 : Int} {x2 : Int} {x3 : Int}  (g_m : G m0 m) (r_x1 : rg x1) (r_x2 : rg x2) (r_x3 : rg x3) (p0 : okS m 274) (p1 : lwOk m0 11) (p2 : ∃ E, LSd m 11 E) : CK 8 147 [.ref 0, iv x1, iv x2, iv x3] m (fun m2 v => G m0 m2 ∧ ((True) ∧ (∀ A, cA m A → v = thnA A x1 x2 x3 ∧ cA m2 A))) := by
  refine br_147 r_x1 r_x2 r_x3 ?_
  unfold P_147
  have ok := p0
  have okn := p0.1
  have t73 := ty_7_3 g_m.1
  refine CK.mono (ct_162   g_m.1 r_x1) (by decide) ?_
  rintro m2 v2 r_v2 ⟨e_m2, h_m2⟩
  replace e_m2 := e_m2.symm
  subst e_m2
  refine ⟨fun m_27 => G m0 m_27 ∧ (m_27 = m ∧ (¬ (0 ≤ x1 ∧ x1 ≤ rd m 7 3 - 1) ∨ ¬ (0 ≤ x2 ∧ x2 ≤ 60) ∨ ¬ (0 ≤ x3 ∧ x3 ≤ 1))), ?_, ?_⟩
  · skip
    refine ⟨fun hq => ?_, fun hq => ?_⟩
    · skip
      exact ⟨g_m, by exact ⟨rfl, by omega⟩⟩
    · skip
      refine CK.mono (ct_166   r_x2 (by unfold rg; decide) (by unfold rg; decide)) (by decide) ?_
      rintro m12 v12 r_v12 ⟨e_m12, h_m12⟩
      replace e_m12 := e_m12.symm
      subst e_m12
      refine ⟨fun hq => ?_, fun hq => ?_⟩
      · skip
        exact ⟨g_m, by exact ⟨rfl, by omega⟩⟩
      · skip
        refine CK.mono (ct_166   r_x3 (by unfold rg; decide) (by unfold rg; decide)) (by decide) ?_
        rintro m21 v21 r_v21 ⟨e_m21, h_m21⟩
        replace e_m21 := e_m21.symm
        subst e_m21
        refine ⟨fun hq => ?_, fun hq => ?_⟩
        · skip
          refine CV.mono (ey_160   g_m r_x2 (rd_rg _ _ _) p0 p1 (by omega) p2) (by decide) ?_
          rintro m38 ⟨g_m38, h_m38⟩
          refine ⟨fun s0_65 m_65 => G m0 m_65 ∧ (m_65 = m38 ∧ ((x3 = 0 ∧ s0_65 = rd m38 281 (Int.toNat x1)) ∨ (¬ x3 = 0 ∧ s0_65 = rd m38 282 (Int.toNat (x1 * 6))))), ?_, ?_⟩
          · skip
            refine ⟨fun hq => ?_, fun hq => ?_⟩
            · skip
              refine CK.mono (ct_78   g_m38.1 st_279 r_x1 (by omega)) (by decide) ?_
              rintro m62 v62 r_v62 ⟨e_m62, h_m62⟩
              replace e_m62 := e_m62.symm
              subst e_m62
              exact ⟨g_m38, by first | exact ⟨rfl, Or.inl ⟨by assumption, rfl⟩⟩ | exact ⟨rfl, Or.inr ⟨by assumption, h_m62.1⟩⟩⟩
            · skip
              refine ⟨⟨by omega, by omega⟩, ?_⟩
              have t2 := ty_sF g_m38.1 st_279 (Int.toNat x1)
              exact ⟨g_m38, by first | exact ⟨rfl, Or.inl ⟨by assumption, rfl⟩⟩ | exact ⟨rfl, Or.inr ⟨by assumption, h_m62.1⟩⟩⟩
          · intro s0_65 m_65 r_s0_65 hR_65
            obtain ⟨g_m_65, hR_65⟩ := hR_65
            exact ⟨g_m_65, by exact ⟨by first | trivial | omega | (refine ⟨?_, ?_⟩ <;> omega), by first | (have u := hR_65; exact fun A h => th_C h (by omega) (by omega) (by omega) (h_m38.2 A h) hR_65) | exact fun A h => th_Cn h hR_27.1 hR_27.2⟩⟩
        · skip
          exact ⟨g_m, by exact ⟨rfl, by omega⟩⟩
  · intro m_27  hR_27
    obtain ⟨g_m_27, hR_27⟩ := hR_27
    exact ⟨g_m_27, by exact ⟨by first | trivial | omega | (refine ⟨?_, ?_⟩ <;> omega), by first | (have u := hR_65; exact fun A h => th_C h (by omega) (by omega) (by omega) (h_m38.2 A h) hR_65) | exact fun A h => th_Cn h hR_27.1 hR_27.2⟩⟩
-- TippedCrates.year(IIII)I
set_option maxRecDepth 20000 in
theorem ey_150 {m0 m : Mm} {x1 : Int} {x2 : Int} {x3 : Int} {x4 : Int}  (g_m : G m0 m) (r_x1 : rg x1) (r_x2 : rg x2) (r_x3 : rg x3) (r_x4 : rg x4) (p0 : okS m 274) (p1 : lwOk m0 11) (p2 : okS m0 274) (p3 : ∃ E, LSd m0 11 E) : CK 8 150 [.ref 0, iv x1, iv x2, iv x3, iv x4] m (fun m2 v => G m0 m2 ∧ ((True) ∧ (∀ A, cA m A → v = yrA A x1 x2 x3 x4 ∧ cA m2 A))) := by
  refine br_150 r_x1 r_x2 r_x3 r_x4 ?_
  unfold P_150
  have ok := p0
  have okn := p0.1
  have t73 := ty_7_3 g_m.1
  refine CK.mono (ct_162   g_m.1 r_x1) (by decide) ?_
  rintro m2 v2 r_v2 ⟨e_m2, h_m2⟩
  replace e_m2 := e_m2.symm
  subst e_m2
  refine ⟨fun m_15 => G m0 m_15 ∧ (m_15 = m ∧ (¬ (0 ≤ x1 ∧ x1 ≤ rd m 7 3 - 1) ∨ ¬ (0 ≤ x2 ∧ x2 ≤ 9))), ?_, ?_⟩
  · skip
    refine ⟨fun hq => ?_, fun hq => ?_⟩
    · skip
      exact ⟨g_m, by exact ⟨rfl, by omega⟩⟩
    · skip
      refine CK.mono (ct_164   r_x2) (by decide) ?_
      rintro m9 v9 r_v9 ⟨e_m9, h_m9⟩
      replace e_m9 := e_m9.symm
      subst e_m9
      refine ⟨fun hq => ?_, fun hq => ?_⟩
      · skip
        refine CK.mono (ct_166   r_x3 (by unfold rg; decide) (by unfold rg; decide)) (by decide) ?_
        rintro m21 v21 r_v21 ⟨e_m21, h_m21⟩
        replace e_m21 := e_m21.symm
        subst e_m21
        refine ⟨fun m_38 => G m0 m_38 ∧ (m_38 = m ∧ (¬ (0 ≤ x3 ∧ x3 ≤ 60) ∨ ¬ (1 ≤ x4 ∧ x4 ≤ 20))), ?_, ?_⟩
        · skip
          refine ⟨fun hq => ?_, fun hq => ?_⟩
          · skip
            exact ⟨g_m, by exact ⟨rfl, by omega⟩⟩
          · skip
            refine CK.mono (ct_166   r_x4 (by unfold rg; decide) (by unfold rg; decide)) (by decide) ?_
            rintro m32 v32 r_v32 ⟨e_m32, h_m32⟩
            replace e_m32 := e_m32.symm
            subst e_m32
            refine ⟨fun hq => ?_, fun hq => ?_⟩
            · skip
              refine ⟨fun x5_46 x6_46 m_46 => G m0 m_46 ∧ (((0 ≤ x6_46 ∧ x6_46 ≤ 20) ∧ x6_46 ≤ x4) ∧ (∀ A, cA m A → cA m_46 A ∧ x5_46 = yrN A x1 x2 x3 (Int.toNat x6_46))), fun x5_46 x6_46 m_46 => Int.toNat (20 - x6_46), ?_, ?_⟩
              · exact ⟨g_m, by exact ⟨by first | omega | (refine ⟨?_, ?_⟩ <;> omega) | trivial, by exact fun A h => ⟨h, rfl⟩⟩⟩
              · intro x5_46 x6_46 m_46 r_x5_46 r_x6_46 hI_46
                obtain ⟨g_m_46, hI_46⟩ := hI_46
                obtain ⟨hI_46, dI_46⟩ := hI_46
                refine ⟨fun hq => ?_, fun hq => ?_⟩
                · skip
                  exact ⟨g_m_46, by exact ⟨by first | trivial | omega | (refine ⟨?_, ?_⟩ <;> omega), by first | (have u := dI_46; exact fun A h => yr_Cr (dI_46 A h) (te_Cx h (by omega)) (by omega) (by omega) (by omega) (by omega)) | (have u := hR_38; exact fun A h => yr_Cm hR_38.1 hR_38.2 h) | exact fun A h => yr_Cn h hR_15.1 hR_15.2⟩⟩
                · skip
                  try have w2 : wr ((rd m_46 7 2) + x6_46) = (rd m_46 7 2) + x6_46 := wr_id (by omega) (by omega)
                  refine CV.mono (ey_160   g_m_46 r_x3 (wr_rg _) (okS_G p2 g_m_46) p1 (by omega) (lsE_G p3 g_m_46)) (by decide) ?_
                  rintro m65 ⟨g_m65, h_m65⟩
                  refine CK.mono (ct_78   g_m65.1 st_279 r_x1 (by omega)) (by decide) ?_
                  rintro m73 v73 r_v73 ⟨e_m73, h_m73⟩
                  replace e_m73 := e_m73.symm
                  subst e_m73
                  refine ⟨fun y5_83 => (v73 = x2 ∧ y5_83 = wr (x5_46 + 1)) ∨ (¬ v73 = x2 ∧ y5_83 = x5_46), ?_, ?_⟩
                  · skip
                    refine ⟨fun hq => ?_, fun hq => ?_⟩
                    · skip
                      (first | exact Or.inl ⟨by assumption, by assumption⟩ | exact Or.inr ⟨by assumption, rfl⟩)
                    · skip
                      try have w3 : wr (x5_46 + 1) = x5_46 + 1 := wr_id (by omega) (by omega)
                      intro z5_80 e_z5_80
                      have r_z5_80 : rg z5_80 := by rw [e_z5_80]; exact wr_rg _
                      (first | exact Or.inl ⟨by assumption, by assumption⟩ | exact Or.inr ⟨by assumption, rfl⟩)
                  · intro y5_83 r_y5_83 hR_83
                    try have w4 : wr (x6_46 + 1) = x6_46 + 1 := wr_id (by omega) (by omega)
                    intro z6_83 e_z6_83
                    have r_z6_83 : rg z6_83 := by rw [e_z6_83]; exact wr_rg _
                    exact ⟨⟨g_m65, by exact ⟨by first | omega | (refine ⟨?_, ?_⟩ <;> omega) | trivial, by exact fun A h => yr_C (dI_46 A h) (te_Cx h (by omega)) h_m65.2 h_m73.1 hR_83 (by omega)⟩⟩, by (try dsimp only); omega⟩
            · skip
              exact ⟨g_m, by exact ⟨rfl, by omega⟩⟩
        · intro m_38  hR_38
          obtain ⟨g_m_38, hR_38⟩ := hR_38
          exact ⟨g_m_38, by exact ⟨by first | trivial | omega | (refine ⟨?_, ?_⟩ <;> omega), by first | (have u := dI_46; exact fun A h => yr_Cr (dI_46 A h) (te_Cx h (by omega)) (by omega) (by omega) (by omega) (by omega)) | (have u := hR_38; exact fun A h => yr_Cm hR_38.1 hR_38.2 h) | exact fun A h => yr_Cn h hR_15.1 hR_15.2⟩⟩
      · skip
        exact ⟨g_m, by exact ⟨rfl, by omega⟩⟩
  · intro m_15  hR_15
    obtain ⟨g_m_15, hR_15⟩ := hR_15
    exact ⟨g_m_15, by exact ⟨by first | trivial | omega | (refine ⟨?_, ?_⟩ <;> omega), by first | (have u := dI_46; exact fun A h => yr_Cr (dI_46 A h) (te_Cx h (by omega)) (by omega) (by omega) (by omega) (by omega)) | (have u := hR_38; exact fun A h => yr_Cm hR_38.1 hR_38.2 h) | exact fun A h => yr_Cn h hR_15.1 hR_15.2⟩⟩
