theorem wmz_0 {m : Mm} {A : Ab} {T F : Nat → Int} {c : Int} (w : wmP m A T F c) : 0 ≤ 24 * (A.Y 0 * A.Y 1) := by
  have b := wh_b w.2.2.1.2.2.1.1 w.2.2.1.2.2.1.2.1
  omega
theorem wm_N {m m2 : Mm} {A : Ab} {T F : Nat → Int} {c v : Int} (w : wmP m A T F c) (e : m2 = m) (ev : v = 24 * (rd m2 293 (Int.toNat (rd m2 284 18)) * rd m2 294 (Int.toNat (rd m2 284 18)))) : v = 24 * (A.Y 0 * A.Y 1) := by
  subst e
  have y := w.2.2.1.1.1
  rw [y.1, y.2.1] at ev
  exact ev
theorem mk_w {m : Mm} {A : Ab} {T F : Nat → Int} {c s v : Int} (hc : 0 ≤ c ∧ c < A.Y 3) (w : wmP m A T F c) (hs : 0 ≤ s) (ev : v = rd m 323 (Int.toNat (25 + 6 * c + rd m 319 (Int.toNat (6 * (s % 24) + 0))))) : v = mkN A.r F c s 0 := by
  obtain ⟨-, -, y, -, f, fb⟩ := w
  have y3 := y.2.2.1.2.2
  have q : Int.toNat (6 * (s % 24) + 0) = Int.toNat (s % 24 * 6 + 0) := by omega
  have fb2 := fb (Int.toNat (s % 24 * 6 + 0)) (by omega)
  rw [q, f _ (by omega), y.2.1 _ (by omega)] at ev
  rw [ev]
  unfold mkN
  exact congrArg A.r (by omega)
theorem np_s {m28 m : Mm} {A : Ab} {T F : Nat → Int} {c x2 x4 x5 x6 y4 y5 z6 v : Int} (d : x6 ≤ 24 * (A.Y 0 * A.Y 1) ∧ nrP x6 (WA A T c) (fun s => mkN A.r F c s 0 = x2) x4 x5) (w : wmP m28 A T F c) (hc : 0 ≤ c ∧ c < A.Y 3) (e : m = m28) (ev : v = 24 * (rd m 293 (Int.toNat (rd m 284 18)) * rd m 294 (Int.toNat (rd m 284 18)))) (h : x6 < v) (hz : (0 ≤ x6 ∧ x6 < 600) ∧ z6 = x6 + 1) (r : (0 ≤ rd m 326 (Int.toNat x6) ∧ rd m 323 (Int.toNat (25 + 6 * c + rd m 319 (Int.toNat (6 * (x6 % 24) + 0)))) = x2 ∧ (x4 < 0 ∨ rd m 326 (Int.toNat x6) < x5) ∧ y4 = x6 / 24 ∧ y5 = rd m 326 (Int.toNat x6)) ∨ ((rd m 326 (Int.toNat x6) < 0 ∨ ¬ rd m 323 (Int.toNat (25 + 6 * c + rd m 319 (Int.toNat (6 * (x6 % 24) + 0)))) = x2 ∨ (¬ x4 < 0 ∧ ¬ rd m 326 (Int.toNat x6) < x5)) ∧ y4 = x4 ∧ y5 = x5)) : z6 ≤ 24 * (A.Y 0 * A.Y 1) ∧ nrP z6 (WA A T c) (fun s => mkN A.r F c s 0 = x2) y4 y5 := by
  have en := wm_N w e ev
  subst e
  have ek := mk_w (s := x6) hc w hz.1.1 rfl
  have e2 := w.2.1.2.2 (Int.toNat x6) (by omega)
  rw [ek, e2] at r
  refine ⟨by omega, ?_⟩
  have last : ∀ t : Int, t < z6 → ¬ t < x6 → t = x6 := fun t h1 h2 => by omega
  rcases r with ⟨r0, r1, r2, r3, r4⟩ | ⟨r1, r3, r4⟩
  · refine Or.inr ⟨x6, by omega, r0, r1, r3, r4, fun t t0 t1 t2 t3 => ?_⟩
    by_cases q : t < x6
    · rcases d.2 with ⟨d1, d2, d3⟩ | ⟨s, s1, s2, s3, s4, s5, s6⟩
      · exact absurd t3 (d3 t t0 q t2)
      · have p := s6 t t0 q t2 t3
        omega
    · rw [last t t1 q]
      omega
  · rcases d.2 with ⟨d1, d2, d3⟩ | ⟨s, s1, s2, s3, s4, s5, s6⟩
    · refine Or.inl ⟨by omega, by omega, fun t t0 t1 t2 t3 => ?_⟩
      by_cases q : t < x6
      · exact d3 t t0 q t2 t3
      · have e := last t t1 q
        subst e
        rcases r1 with r1 | r1 | r1
        · omega
        · exact r1 t3
        · omega
    · refine Or.inr ⟨s, by omega, s2, s3, by omega, by omega, fun t t0 t1 t2 t3 => ?_⟩
      by_cases q : t < x6
      · have p := s6 t t0 q t2 t3
        omega
      · have e := last t t1 q
        subst e
        rcases r1 with r1 | r1 | r1
        · omega
        · exact absurd t3 r1
        · omega
theorem nea_M {m28 m : Mm} {A : Ab} {T F : Nat → Int} {c x2 x3 x4 x5 x6 v s : Int} (w : wmP m28 A T F c) (hc : 0 ≤ c ∧ c < A.Y 3) (h2 : 0 ≤ x2 ∧ x2 ≤ 9) (h3 : 0 ≤ x3 ∧ x3 ≤ 1) (e : m = m28) (d : x6 ≤ 24 * (A.Y 0 * A.Y 1) ∧ nrP x6 (WA A T c) (fun s => mkN A.r F c s 0 = x2) x4 x5) (ev : v = 24 * (rd m 293 (Int.toNat (rd m 284 18)) * rd m 294 (Int.toNat (rd m 284 18)))) (h : v ≤ x6) (r : (x3 = 0 ∧ s = x4) ∨ (¬ x3 = 0 ∧ s = x5)) : neaA A T F c x2 x3 s ∧ mA m A := by
  have en := wm_N w e ev
  have ex : x6 = 24 * (A.Y 0 * A.Y 1) := by omega
  subst e
  subst ex
  exact ⟨Or.inr ⟨⟨hc, h2, h3⟩, x4, x5, d.2, r⟩, w.2.2.2.1⟩
theorem nea_Mn {m m24 : Mm} {A : Ab} {T F : Nat → Int} {x1 x2 x3 : Int} (h : mA m A) (e : m24 = m) (n : ¬ (0 ≤ x1 ∧ x1 < rd m 302 (Int.toNat (rd m 284 18))) ∨ ¬ (0 ≤ x2 ∧ x2 ≤ 9) ∨ ¬ (0 ≤ x3 ∧ x3 ≤ 1)) : neaA A T F x1 x2 x3 (-1) ∧ mA m24 A := by
  subst e
  rw [h.1.1.2.2.2.1] at n
  exact ⟨Or.inl ⟨by omega, rfl⟩, h⟩
-- TippedCratesModel.nearest(III)I
set_option maxRecDepth 20000 in
theorem my_253 {m0 m : Mm} {x1 : Int} {x2 : Int} {x3 : Int}  (g_m : G m0 m) (r_x1 : rg x1) (r_x2 : rg x2) (r_x3 : rg x3) (p0 : MW m0) : CK 6 253 [.ref 284, iv x1, iv x2, iv x3] m (fun m2 v => G m0 m2 ∧ ((True) ∧ (∀ A T F, okY A.Y → okR A.Y A.r → mA m A → tbR m 319 320 F T → neaA A T F x1 x2 x3 v ∧ mA m2 A))) := by
  refine br_253 r_x1 r_x2 r_x3 ?_
  unfold P_253
  refine CK.mono (ct_210   g_m.1 r_x1) (by decide) ?_
  rintro m2 v2 r_v2 ⟨e_m2, h_m2⟩
  replace e_m2 := e_m2.symm
  subst e_m2
  refine ⟨fun m_24 => G m0 m_24 ∧ (m_24 = m ∧ (¬ (0 ≤ x1 ∧ x1 < rd m 302 (Int.toNat (rd m 284 18))) ∨ ¬ (0 ≤ x2 ∧ x2 ≤ 9) ∨ ¬ (0 ≤ x3 ∧ x3 ≤ 1))), ?_, ?_⟩
  · skip
    refine ⟨fun hq => ?_, fun hq => ?_⟩
    · skip
      exact ⟨g_m, by exact ⟨rfl, by omega⟩⟩
    · skip
      refine CK.mono (ct_211   r_x2) (by decide) ?_
      rintro m9 v9 r_v9 ⟨e_m9, h_m9⟩
      replace e_m9 := e_m9.symm
      subst e_m9
      refine ⟨fun hq => ?_, fun hq => ?_⟩
      · skip
        exact ⟨g_m, by exact ⟨rfl, by omega⟩⟩
      · skip
        refine CK.mono (ct_206   r_x3 (by unfold rg; decide) (by unfold rg; decide)) (by decide) ?_
        rintro m18 v18 r_v18 ⟨e_m18, h_m18⟩
        replace e_m18 := e_m18.symm
        subst e_m18
        refine ⟨fun hq => ?_, fun hq => ?_⟩
        · skip
          refine CV.mono (my_249   g_m r_x1 p0 (by omega)) (by decide) ?_
          rintro m28 ⟨g_m28, h_m28⟩
          refine ⟨fun x4_42 x5_42 x6_42 m_42 => G m0 m_42 ∧ ((0 ≤ x6_42 ∧ x6_42 ≤ 600) ∧ (m_42 = m28 ∧ ∀ A T F, wmP m28 A T F x1 → (0 ≤ x1 ∧ x1 < A.Y 3) → x6_42 ≤ 24 * (A.Y 0 * A.Y 1) ∧ nrP x6_42 (WA A T x1) (fun s => mkN A.r F x1 s 0 = x2) x4_42 x5_42)), fun x4_42 x5_42 x6_42 m_42 => Int.toNat (600 - x6_42), ?_, ?_⟩
          · exact ⟨g_m28, by exact ⟨by first | omega | (refine ⟨?_, ?_⟩ <;> omega) | trivial, by exact ⟨rfl, fun A T F w hc => ⟨wmz_0 w, Or.inl ⟨rfl, rfl, fun s h0 h1 => by omega⟩⟩⟩⟩⟩
          · intro x4_42 x5_42 x6_42 m_42 r_x4_42 r_x5_42 r_x6_42 hI_42
            obtain ⟨g_m_42, hI_42⟩ := hI_42
            obtain ⟨hI_42, dI_42⟩ := hI_42
            refine CK.mono (my_247   g_m_42.1 (MW_G p0 g_m_42)) (by decide) ?_
            rintro m45 v45 r_v45 ⟨e_m45, h_m45⟩
            replace e_m45 := e_m45.symm
            subst e_m45
            refine ⟨fun hq => ?_, fun hq => ?_⟩
            · skip
              refine ⟨fun s0_126 => (x3 = 0 ∧ s0_126 = x4_42) ∨ (¬ x3 = 0 ∧ s0_126 = x5_42), ?_, ?_⟩
              · skip
                refine ⟨fun hq => ?_, fun hq => ?_⟩
                · skip
                  (omega)
                · skip
                  (omega)
              · intro s0_126 r_s0_126 hR_126
                exact ⟨g_m_42, by exact ⟨by first | trivial | omega | (refine ⟨?_, ?_⟩ <;> omega), by first | (have u := hR_126; exact fun A T F oY oR h tb => nea_M (wm_A h oY oR (ty_284_18 g_m.1) (by omega) (te_x h oY (by omega)) tb g_m g_m28 h_m28.2) (te_x h oY (by omega)) (by omega) (by omega) dI_42.1 (dI_42.2 A T F (wm_A h oY oR (ty_284_18 g_m.1) (by omega) (te_x h oY (by omega)) tb g_m g_m28 h_m28.2) (te_x h oY (by omega))) h_m45.2 (by omega) hR_126) | exact fun A T F oY oR h tb => nea_Mn h hR_24.1 hR_24.2⟩⟩
            · skip
              refine ⟨⟨by omega, by omega⟩, ?_⟩
              refine ⟨fun y4_109 y5_109 m_109 => G m0 m_109 ∧ (m_109 = m_42 ∧ ((0 ≤ rd m_42 326 (Int.toNat x6_42) ∧ rd m_42 323 (Int.toNat (25 + 6 * x1 + rd m_42 319 (Int.toNat (6 * (x6_42 % 24) + 0)))) = x2 ∧ (x4_42 < 0 ∨ rd m_42 326 (Int.toNat x6_42) < x5_42) ∧ y4_109 = x6_42 / 24 ∧ y5_109 = rd m_42 326 (Int.toNat x6_42)) ∨ ((rd m_42 326 (Int.toNat x6_42) < 0 ∨ ¬ rd m_42 323 (Int.toNat (25 + 6 * x1 + rd m_42 319 (Int.toNat (6 * (x6_42 % 24) + 0)))) = x2 ∨ (¬ x4_42 < 0 ∧ ¬ rd m_42 326 (Int.toNat x6_42) < x5_42)) ∧ y4_109 = x4_42 ∧ y5_109 = x5_42))), ?_, ?_⟩
              · skip
                refine ⟨fun hq => ?_, fun hq => ?_⟩
                · skip
                  exact ⟨g_m_42, by first | (have u := h_m66.2; exact ⟨rfl, by omega⟩) | exact ⟨rfl, by omega⟩⟩
                · skip
                  refine CK.mono (my_248   g_m_42.1 r_x1 r_x6_42 (by unfold rg; decide) (by omega) (by omega) (by omega)) (by decide) ?_
                  rintro m66 v66 r_v66 ⟨e_m66, h_m66⟩
                  replace e_m66 := e_m66.symm
                  subst e_m66
                  refine ⟨fun hq => ?_, fun hq => ?_⟩
                  · skip
                    exact ⟨g_m_42, by first | (have u := h_m66.2; exact ⟨rfl, by omega⟩) | exact ⟨rfl, by omega⟩⟩
                  · skip
                    refine ⟨x4_42 < 0 ∨ rd m_42 326 (Int.toNat x6_42) < x5_42, ?_, ?_⟩
                    · skip
                      refine ⟨fun hq => ?_, fun hq => ?_⟩
                      · skip
                        (omega)
                      · skip
                        refine ⟨⟨by omega, by omega⟩, ?_⟩
                        refine ⟨fun hq => ?_, fun hq => ?_⟩
                        · skip
                          (omega)
                        · skip
                          exact ⟨g_m_42, by first | (have u := h_m66.2; exact ⟨rfl, by omega⟩) | exact ⟨rfl, by omega⟩⟩
                    · intro   hR_93
                      try have q2 : dvI x6_42 24 = x6_42 / 24 := dv_eq (by omega) (by omega) (by omega) (by omega)
                      intro z4_98 e_z4_98
                      have r_z4_98 : rg z4_98 := by rw [e_z4_98]; exact (io_rg _ _ _)
                      refine ⟨⟨by omega, by omega⟩, ?_⟩
                      intro z5_107 e_z5_107
                      have r_z5_107 : rg z5_107 := by rw [e_z5_107]; exact (rd_rg _ _ _)
                      exact ⟨g_m_42, by first | (have u := h_m66.2; exact ⟨rfl, by omega⟩) | exact ⟨rfl, by omega⟩⟩
              · intro y4_109 y5_109 m_109 r_y4_109 r_y5_109 hR_109
                obtain ⟨g_m_109, hR_109⟩ := hR_109
                try have w3 : wr (x6_42 + 1) = x6_42 + 1 := wr_id (by omega) (by omega)
                intro z6_109 e_z6_109
                have r_z6_109 : rg z6_109 := by rw [e_z6_109]; exact wr_rg _
                exact ⟨⟨g_m_109, by exact ⟨by first | omega | (refine ⟨?_, ?_⟩ <;> omega) | trivial, by exact ⟨hR_109.1.trans dI_42.1, fun A T F w hc => np_s (dI_42.2 A T F w hc) w hc dI_42.1 h_m45.2 (by omega) (by omega) hR_109.2⟩⟩⟩, by (try dsimp only); omega⟩
        · skip
          exact ⟨g_m, by exact ⟨rfl, by omega⟩⟩
  · intro m_24  hR_24
    obtain ⟨g_m_24, hR_24⟩ := hR_24
    exact ⟨g_m_24, by exact ⟨by first | trivial | omega | (refine ⟨?_, ?_⟩ <;> omega), by first | (have u := hR_126; exact fun A T F oY oR h tb => nea_M (wm_A h oY oR (ty_284_18 g_m.1) (by omega) (te_x h oY (by omega)) tb g_m g_m28 h_m28.2) (te_x h oY (by omega)) (by omega) (by omega) dI_42.1 (dI_42.2 A T F (wm_A h oY oR (ty_284_18 g_m.1) (by omega) (te_x h oY (by omega)) tb g_m g_m28 h_m28.2) (te_x h oY (by omega))) h_m45.2 (by omega) hR_126) | exact fun A T F oY oR h tb => nea_Mn h hR_24.1 hR_24.2⟩⟩
