abbrev uM (k : Int) : Prop := k = 2 ∨ (32 ≤ k ∧ k ≤ 40)
abbrev oM (k : Int) : Prop := k = 8 ∨ k = 9 ∨ k = 10 ∨ k = 15
theorem km_u {c k : Int} (h : kmR c k) : (uM k ↔ isU c) ∧ (k = 6 ↔ c = 40) ∧ (k = 7 ↔ c = 41) ∧ (oM k ↔ isOp c) ∧ (k = 0 ↔ c = 23) := by
  rcases h with ⟨rfl, rfl⟩ | ⟨rfl, rfl⟩ | ⟨rfl, rfl⟩ | ⟨rfl, rfl⟩ | ⟨h1, h2, rfl⟩ | ⟨rfl, rfl⟩ | ⟨rfl, rfl⟩ | ⟨rfl, rfl⟩ | ⟨rfl, rfl⟩ | ⟨rfl, rfl⟩ | ⟨rfl, rfl⟩ | ⟨rfl, rfl⟩ | ⟨rfl, rfl⟩ | ⟨rfl, rfl⟩
  · decide
  · decide
  · decide
  · decide
  · unfold uM oM isU isOp
    exact ⟨by omega, by omega, by omega, by omega, by omega⟩
  · decide
  · decide
  · decide
  · decide
  · decide
  · decide
  · decide
  · decide
  · decide
/-- a unit, exactly -/
def unA (m m2 : Mm) : Prop := (¬ rd m 284 13 = 0 → rd m2 284 13 = rd m 284 13 ∧ rd m2 284 14 = rd m 284 14) ∧ (rd m 284 13 = 0 → (rd m2 284 13 = 0 ∧ rd m 284 11 < 400 ∧ uM (rd m 287 (Int.toNat (rd m 284 11)))) ∨ (¬ rd m2 284 13 = 0 ∧ ((uM (rd m 287 (Int.toNat (rd m 284 11))) ∧ rd m 284 11 = 400 ∧ rd m2 284 13 = 2) ∨ (¬ uM (rd m 287 (Int.toNat (rd m 284 11))) ∧ rd m2 284 13 = 1)) ∧ rd m2 284 14 = rd m 288 (Int.toNat (rd m 284 11))))
def goP (m m2 : Mm) : Prop := ((rd m 284 11 < 400 ∧ rd m2 284 11 = rd m 284 11 + 1 ∧ rd m2 284 13 = rd m 284 13 ∧ rd m2 284 14 = rd m 284 14) ∨ (rd m 284 11 = 400 ∧ rd m2 284 11 = 400 ∧ ((rd m 284 13 = 0 ∧ rd m2 284 13 = 2 ∧ rd m2 284 14 = rd m 288 (Int.toNat (rd m 284 11))) ∨ (¬ rd m 284 13 = 0 ∧ rd m2 284 13 = rd m 284 13 ∧ rd m2 284 14 = rd m 284 14)))) ∧ rd m2 284 15 = rd m 284 15 ∧ rd m2 284 16 = rd m 284 16
theorem un_a1 {m m1 m2 : Mm} {k v : Int} (h0 : rd m 284 13 = 0) (hu : uM (rd m 287 (Int.toNat (rd m 284 11)))) (em : emRel m m1 k v) (h : goP m1 m2) : unA m m2 := by
  have f := em.2.2.2
  have e11 := f 284 11 (by omega) (by omega)
  have e13 := f 284 13 (by omega) (by omega)
  have e8 := f 288 (Int.toNat (rd m 284 11)) (by omega) (by omega)
  unfold goP at h
  rw [e11, e13, e8] at h
  refine ⟨fun q => absurd h0 q, fun _ => ?_⟩
  rcases h.1 with ⟨q1, -, q3, -⟩ | ⟨q1, -, ⟨-, q3, q4⟩ | ⟨q3, -⟩⟩
  · exact Or.inl ⟨q3.trans h0, q1, hu⟩
  · exact Or.inr ⟨by omega, Or.inl ⟨hu, q1, q3⟩, q4⟩
  · exact absurd h0 q3
theorem un_a2 {m m2 : Mm} (_p : 0 ≤ rd m 284 13) (hn : rd m 284 13 = 0 → ¬ uM (rd m 287 (Int.toNat (rd m 284 11)))) (h : ((rd m 284 13 = 0 ∧ rd m2 284 13 = 1 ∧ rd m2 284 14 = rd m 288 (Int.toNat (rd m 284 11))) ∨ (¬ rd m 284 13 = 0 ∧ rd m2 284 13 = rd m 284 13 ∧ rd m2 284 14 = rd m 284 14)) ∧ rd m2 284 11 = rd m 284 11 ∧ rd m2 284 15 = rd m 284 15 ∧ rd m2 284 16 = rd m 284 16) : unA m m2 := by
  rcases h.1 with ⟨q1, q2, q3⟩ | ⟨q1, q2, q3⟩
  · exact ⟨fun q => absurd q1 q, fun z => Or.inr ⟨by omega, Or.inr ⟨hn z, q2⟩, q3⟩⟩
  · exact ⟨fun _ => ⟨q2, q3⟩, fun z => absurd z q1⟩
/-- tokens of both, N of them ahead of the END -/
def tkN (m : Mm) (N : Int) : Prop := (0 ≤ N ∧ N ≤ 401) ∧ (∀ j : Nat, (j : Int) < N → mat m m j ∧ ¬ rd m 2 j = 23) ∧ (N ≤ 400 → mat m m (Int.toNat N) ∧ rd m 2 (Int.toNat N) = 23) ∧ ∀ j : Nat, (j : Int) < N → j + 1 ≤ 400 → rd m 3 j < rd m 3 (j + 1)
theorem tkN_k {m : Mm} {N t : Int} (h : tkN m N) (h1 : 0 ≤ t) (h2 : t ≤ N) (h4 : t ≤ 400) : kmR (kC m t) (rd m 287 (Int.toNat t)) ∧ (¬ kC m t = 23 → t < N) := by
  by_cases z : t < N
  · exact ⟨(h.2.1 (Int.toNat t) (by omega)).1.2.1, fun _ => z⟩
  · have e : t = N := by omega
    subst e
    have q := h.2.2.1 (by omega)
    exact ⟨q.1.2.1, fun w => absurd q.2 w⟩
def auX (m0 m m' : Mm) : Prop := ∃ tt : Int, AU (kC m0) (rd m 284 11) 0 0 = (rd m' 284 13, tt) ∧ rd m' 284 14 = rd m0 288 (Int.toNat tt)
def auI (m0 m m' : Mm) (N s : Int) : Prop := (rd m' 284 13 = 0 → (0 ≤ rd m' 284 11 ∧ rd m' 284 11 ≤ N ∧ rd m' 284 11 ≤ 400) ∧ AU (kC m0) (rd m 284 11) 0 0 = AU (kC m0) (rd m' 284 11) (rd m' 284 12) s) ∧ (¬ rd m' 284 13 = 0 → auX m0 m m')
theorem ai_un {m0 m m1 m2 : Mm} {N : Int} (tk : tkN m0 N) (h : auI m0 m m1 N 0) (g : PX m0 m1) (h6 : rd m1 284 13 = 0 → ¬ rd m1 287 (Int.toNat (rd m1 284 11)) = 6) (u : unRel m1 m2) (ua : unA m1 m2) : auI m0 m m2 N 1 := by
  have e7 := g.2.1 287 (Int.toNat (rd m1 284 11)) (inP_no (by omega) (by omega))
  have e8 := g.2.1 288 (Int.toNat (rd m1 284 11)) (inP_no (by omega) (by omega))
  by_cases z : rd m1 284 13 = 0
  · obtain ⟨⟨a1, a2, a3⟩, a4⟩ := h.1 z
    have kk := tkN_k tk a1 a2 a3
    have ku := km_u kk.1
    have n6 := h6 z
    rw [e7] at n6
    have q := ua.2 z
    rw [e7, e8] at q
    refine ⟨fun f => ?_, fun f => ?_⟩
    · rcases q with ⟨-, q2, q3⟩ | ⟨q1, -⟩
      · have iu := ku.1.mp q3
        have t2 := (u.1 f).2.1
        have lt := kk.2 (by unfold isU at iu; omega)
        have o2 := u.2.2.2.2 284 12 (by omega) (by omega)
        refine ⟨by omega, ?_⟩
        rw [a4, t2, o2]
        exact AU_u q2 iu
      · exact absurd f q1
    · rcases q with ⟨q1, -⟩ | ⟨-, q2, q3⟩
      · exact absurd q1 f
      · refine ⟨rd m1 284 11, ?_, q3⟩
        rw [a4]
        rcases q2 with ⟨w1, w2, w3⟩ | ⟨w1, w3⟩
        · rw [w3]; exact AU_u4 w2 (ku.1.mp w1)
        · rw [w3]; exact AU_x a3 (fun w => n6 (ku.2.1.mpr w)) (fun w => w1 (ku.1.mpr w))
  · have q := ua.1 z
    have hx := h.2 z
    refine ⟨fun f => absurd (q.1.symm.trans f) z, fun _ => ?_⟩
    obtain ⟨tt, x1, x2⟩ := hx
    exact ⟨tt, by rw [q.1]; exact x1, by rw [q.2]; exact x2⟩
theorem ai_go {m0 m m1 m2 m3 : Mm} {N s s2 d2 : Int} (tk : tkN m0 N) (h : auI m0 m m1 N s) (g : PX m0 m1) (z : rd m1 284 13 = 0) (n23 : ¬ kC m0 (rd m1 284 11) = 23) (e11 : rd m2 284 11 = rd m1 284 11) (e13 : rd m2 284 13 = 0) (e8 : ∀ j, rd m2 288 j = rd m1 288 j) (go : goP m2 m3) (o : rd m3 284 12 = d2) (st : rd m1 284 11 < 400 → AU (kC m0) (rd m1 284 11) (rd m1 284 12) s = AU (kC m0) (rd m1 284 11 + 1) d2 s2) (s4 : rd m1 284 11 = 400 → AU (kC m0) (rd m1 284 11) (rd m1 284 12) s = (2, rd m1 284 11)) : auI m0 m m3 N s2 := by
  obtain ⟨⟨a1, a2, a3⟩, a4⟩ := h.1 z
  have lt := (tkN_k tk a1 a2 a3).2 n23
  have e8' := g.2.1 288 (Int.toNat (rd m1 284 11)) (inP_no (by omega) (by omega))
  unfold goP at go
  rw [e11, e13, e8, e8'] at go
  rcases go.1 with ⟨q1, q2, q3, -⟩ | ⟨q1, q2, ⟨-, q3, q4⟩ | ⟨q3, -⟩⟩
  · refine ⟨fun _ => ⟨by omega, ?_⟩, fun f => absurd q3 f⟩
    rw [a4, q2, o]
    exact st q1
  · refine ⟨fun f => by omega, fun _ => ⟨rd m1 284 11, ?_, q4⟩⟩
    rw [a4, q3]
    exact s4 q1
  · exact absurd rfl q3
-- TippedCratesModel.unit()V
set_option maxRecDepth 20000 in
theorem mx_200 {m0 m : Mm}   (g_m : PX m0 m)  (p0 : 0 ≤ rd m 284 13) (p1 : rd m 284 13 = 0 → 420 * rd m0 284 19 ≤ rd m 284 44 ∧ rd m 284 44 - 420 * rd m0 284 19 ≤ rd m 284 11) : CV 3 200 [.ref 284] m (fun m2 => PX m0 m2 ∧ ((unRel m m2) ∧ (unA m m2))) := by
  refine br_200  ?_
  unfold P_200
  have hs := PX.s g_m
  have tt := ty_284_11 g_m.1
  refine CK.mono (ct_180   g_m.1 (by unfold rg; decide)) (by decide) ?_
  rintro m2 v2 r_v2 ⟨e_m2, h_m2⟩
  replace e_m2 := e_m2.symm
  subst e_m2
  refine ⟨fun m_93 => PX m0 m_93 ∧ ((unRel m m_93) ∧ (unA m m_93)), ?_, ?_⟩
  · skip
    refine ⟨fun hq => ?_, fun hq => ?_⟩
    · skip
      refine ⟨rd m 284 13 = 0 → ¬ uM (rd m 287 (Int.toNat (rd m 284 11))), ?_, ?_⟩
      · skip
        refine ⟨fun hq => ?_, fun hq => ?_⟩
        · skip
          ((unfold uM; omega))
        · skip
          have t2 := ty_284_11 g_m.1
          refine ⟨⟨by omega, by omega⟩, ?_⟩
          have t3 := ty_287 g_m.1 (Int.toNat (rd m 284 11))
          refine ⟨fun hq => ?_, fun hq => ?_⟩
          · skip
            ((unfold uM; omega))
          · skip
            refine ⟨⟨by omega, by omega⟩, ?_⟩
            refine ⟨fun hq => ?_, fun hq => ?_⟩
            · skip
              ((unfold uM; omega))
            · skip
              refine ⟨⟨by omega, by omega⟩, ?_⟩
              try have w4 : wr ((rd m 287 (Int.toNat (rd m 284 11))) - 32) = (rd m 287 (Int.toNat (rd m 284 11))) - 32 := wr_id (by omega) (by omega)
              refine CV.mono (ct_197   g_m (by unfold rg; decide) (wr_rg _) (by omega) (by omega) (by omega)) (by decide) ?_
              rintro m78 ⟨g_m78, h_m78⟩
              have f78 : rd m78 284 13 = rd m 284 13 := h_m78.2.2.2 284 13 (by omega) (by omega)
              refine CV.mono (ct_183   g_m78.1 (by omega)) (by decide) ?_
              rintro m82 ⟨hx_m82, h_m82⟩
              have g_m82 : PX m0 m82 := PX.ft g_m78 hx_m82
              exact ⟨g_m82, by exact ⟨by first | exact un_em (Or.inl rfl) (by omega) h_m19 hx_m23 h_m23 | exact un_em (Or.inr ⟨rfl, by omega⟩) (by omega) h_m78 hx_m82 h_m82 | exact un_fail p0 hx_m90 h_m90, by first | exact un_a1 (by omega) (Or.inl (by omega)) h_m19 h_m23 | exact un_a1 (by omega) (Or.inr (by omega)) h_m78 h_m82 | exact un_a2 p0 hR_88 h_m90⟩⟩
      · intro   hR_88
        refine CV.mono (ct_181   g_m.1 (by unfold rg; decide) (by omega) (by omega)) (by decide) ?_
        rintro m90 ⟨hx_m90, h_m90⟩
        have g_m90 : PX m0 m90 := PX.ft g_m hx_m90
        exact ⟨g_m90, by exact ⟨by first | exact un_em (Or.inl rfl) (by omega) h_m19 hx_m23 h_m23 | exact un_em (Or.inr ⟨rfl, by omega⟩) (by omega) h_m78 hx_m82 h_m82 | exact un_fail p0 hx_m90 h_m90, by first | exact un_a1 (by omega) (Or.inl (by omega)) h_m19 h_m23 | exact un_a1 (by omega) (Or.inr (by omega)) h_m78 h_m82 | exact un_a2 p0 hR_88 h_m90⟩⟩
    · skip
      have t5 := ty_284_11 g_m.1
      refine ⟨⟨by omega, by omega⟩, ?_⟩
      have t6 := ty_289 g_m.1 (Int.toNat (rd m 284 11))
      refine CV.mono (ct_197   g_m (by unfold rg; decide) (rd_rg _ _ _) (by omega) (by omega) (by omega)) (by decide) ?_
      rintro m19 ⟨g_m19, h_m19⟩
      have f19 : rd m19 284 13 = rd m 284 13 := h_m19.2.2.2 284 13 (by omega) (by omega)
      refine CV.mono (ct_183   g_m19.1 (by omega)) (by decide) ?_
      rintro m23 ⟨hx_m23, h_m23⟩
      have g_m23 : PX m0 m23 := PX.ft g_m19 hx_m23
      exact ⟨g_m23, by exact ⟨by first | exact un_em (Or.inl rfl) (by omega) h_m19 hx_m23 h_m23 | exact un_em (Or.inr ⟨rfl, by omega⟩) (by omega) h_m78 hx_m82 h_m82 | exact un_fail p0 hx_m90 h_m90, by first | exact un_a1 (by omega) (Or.inl (by omega)) h_m19 h_m23 | exact un_a1 (by omega) (Or.inr (by omega)) h_m78 h_m82 | exact un_a2 p0 hR_88 h_m90⟩⟩
  · intro m_93  hR_93
    obtain ⟨g_m_93, hR_93⟩ := hR_93
    obtain ⟨hR_93, cR_93⟩ := hR_93
    exact ⟨g_m_93, by exact ⟨by exact hR_93, by exact cR_93⟩⟩
