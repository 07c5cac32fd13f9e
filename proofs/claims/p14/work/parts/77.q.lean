theorem pig : ∀ (N n : Nat) (f : Nat → Nat), (∀ i, i < n → f i < N) → (∀ i j, i < j → j < n → ¬ f i = f j) → n ≤ N := by
  intro N
  induction N with
  | zero =>
    intro n f h _
    by_cases hn : n = 0
    · omega
    · exact absurd (h 0 (by omega)) (by omega)
  | succ N ih =>
    intro n f h hd
    by_cases e : ∃ k, k < n ∧ f k = N
    · obtain ⟨k, hk, ek⟩ := e
      have := ih (n - 1) (fun i => if i < k then f i else f (i + 1)) (fun i hi => by
        show (if i < k then f i else f (i + 1)) < N
        split
        · next q => have := h i (by omega); have := hd i k q hk; omega
        · next q => have := h (i + 1) (by omega); have := hd k (i + 1) (by omega) (by omega); omega) (fun i j hij hj => by
        show ¬ (if i < k then f i else f (i + 1)) = (if j < k then f j else f (j + 1))
        by_cases q1 : i < k
        · rw [if_pos q1]
          by_cases q2 : j < k
          · rw [if_pos q2]; exact hd i j hij (by omega)
          · rw [if_neg q2]; exact hd i (j + 1) (by omega) (by omega)
        · rw [if_neg q1, if_neg (by omega)]; exact hd (i + 1) (j + 1) (by omega) (by omega))
      omega
    · have := ih n f (fun i hi => by
        have := h i hi
        have : ¬ f i = N := fun w => e ⟨i, hi, w⟩
        omega) hd
      omega
/-- the line holds no standing twice -/
def lineOk (m : Mm) : Prop := (1 ≤ rd m 284 67 ∧ rd m 284 67 ≤ 600) ∧ (∀ i : Nat, (i : Int) < rd m 284 67 → 0 ≤ rd m 326 (Int.toNat (rd m 329 i)) ∧ rd m 326 (Int.toNat (rd m 329 i)) ≤ i) ∧ (∀ i j : Nat, i < j → (j : Int) < rd m 284 67 → ¬ rd m 329 i = rd m 329 j) ∧ ∀ s : Nat, s < 600 → 1 ≤ rd m 326 s → rd m 326 (Int.toNat (rd m 327 s)) + 1 = rd m 326 s
theorem ln_one {m : Mm} (h : 0 ≤ rd m 329 0 ∧ rd m 329 0 ≤ 599) (hf : ∀ j : Nat, j < 600 → rd m 326 j = -1) : lineOk (wt (wt m 326 (Int.toNat (rd m 329 0)) 0) 284 67 1) := by
  have e : rd (wt (wt m 326 (Int.toNat (rd m 329 0)) 0) 284 67 1) 284 67 = 1 := by rw [rd_wt, if_pos ⟨rfl, rfl⟩]; rfl
  have e9 : rd (wt (wt m 326 (Int.toNat (rd m 329 0)) 0) 284 67 1) 329 0 = rd m 329 0 := by rw [rd_wt, if_neg (by omega), rd_wt, if_neg (by omega)]
  refine ⟨by omega, fun i hi => ?_, fun i j h1 h2 => by omega, fun s hs h1 => ?_⟩
  · have : i = 0 := by omega
    subst this
    rw [e9, rd_wt, if_neg (by omega), rd_wt, if_pos ⟨rfl, rfl⟩]
    decide
  · rw [rd_wt, if_neg (by omega), rd_wt] at h1
    split at h1
    · exact absurd h1 (by decide)
    · rw [hf s hs] at h1
      omega
theorem ln_lt {m : Mm} {z : Int} (T : Ty m) (h : lineOk m) (hz : 0 ≤ z ∧ z ≤ 599) (hf : rd m 326 (Int.toNat z) < 0) : rd m 284 67 ≤ 599 := by
  have := pig 600 (Int.toNat (rd m 284 67) + 1) (fun i => if i < Int.toNat (rd m 284 67) then Int.toNat (rd m 329 i) else Int.toNat z) (fun i hi => by
    show (if i < Int.toNat (rd m 284 67) then Int.toNat (rd m 329 i) else Int.toNat z) < 600
    have := ty_329 T i
    split <;> omega) (fun i j hij hj => by
    show ¬ (if i < Int.toNat (rd m 284 67) then Int.toNat (rd m 329 i) else Int.toNat z) = (if j < Int.toNat (rd m 284 67) then Int.toNat (rd m 329 j) else Int.toNat z)
    rw [if_pos (by omega)]
    have ti := ty_329 T i
    have tj := ty_329 T j
    split
    · next q => have := h.2.2.1 i j hij (by omega); omega
    · next q =>
      intro w
      have := h.2.1 i (by omega)
      rw [w] at this
      omega)
  omega
theorem ln_push {m m2 : Mm} {z c : Int} (T : Ty m) (h : lineOk m) (hz : 0 ≤ z ∧ z ≤ 599) (hf : rd m 326 (Int.toNat z) < 0) (hlt : rd m 284 67 ≤ 599) (n : rd m2 284 67 = rd m 284 67 + 1) (a9 : ∀ j : Nat, (j : Int) < rd m 284 67 → rd m2 329 j = rd m 329 j) (b9 : rd m2 329 (Int.toNat (rd m 284 67)) = z) (a6 : ∀ j : Nat, ¬ j = Int.toNat z → rd m2 326 j = rd m 326 j) (b6 : rd m2 326 (Int.toNat z) = c) (hc0 : 0 ≤ c) (hc1 : c ≤ rd m 284 67) {fr : Int} (a7 : ∀ j : Nat, ¬ j = Int.toNat z → rd m2 327 j = rd m 327 j) (b7 : rd m2 327 (Int.toNat z) = fr) (bf : rd m 326 (Int.toNat fr) = c - 1 ∧ 0 ≤ c - 1) : lineOk m2 := by
  have hn := h.1
  have nz : ∀ i : Nat, (i : Int) < rd m 284 67 → ¬ Int.toNat (rd m 329 i) = Int.toNat z := fun i hi w => by
    have := h.2.1 i hi
    rw [w] at this
    omega
  refine ⟨by omega, fun i hi => ?_, fun i j h1 h2 => ?_, fun s hs h1 => ?_⟩
  · by_cases e : (i : Int) < rd m 284 67
    · rw [a9 i e, a6 _ (nz i e)]; exact h.2.1 i e
    · have : i = Int.toNat (rd m 284 67) := by omega
      rw [this, b9, b6]
      omega
  · rw [a9 i (by omega)]
    by_cases e : (j : Int) < rd m 284 67
    · rw [a9 j e]; exact h.2.2.1 i j h1 e
    · have : j = Int.toNat (rd m 284 67) := by omega
      rw [this, b9]
      intro w
      exact nz i (by omega) (by rw [w])
  · by_cases e : s = Int.toNat z
    · subst e
      have nf : ¬ Int.toNat fr = Int.toNat z := fun w => by rw [w] at bf; omega
      rw [b7, a6 _ nf, b6]
      omega
    · rw [a6 s e] at h1 ⊢
      have q := h.2.2.2 s hs h1
      have nf : ¬ Int.toNat (rd m 327 s) = Int.toNat z := fun w => by rw [w] at q; omega
      rw [a7 s e, a6 _ nf]
      exact q
-- TippedCratesModel.goesThrough(I)V
set_option maxRecDepth 20000 in
theorem ct_249 {m0 m : Mm} {x1 : Int}  (g_m : G m0 m) (r_x1 : rg x1) (p0 : MW m0) (p1 : 0 ≤ x1 ∧ x1 ≤ 2) : CV 5 249 [.ref 284, iv x1] m (fun m2 => G m0 m2 ∧ (lineOk m2)) := by
  refine br_249 r_x1 ?_
  unfold P_249
  refine CV.mono (ct_246   g_m r_x1 p0 (by omega)) (by decide) ?_
  rintro m2 ⟨g_m2, h_m2⟩
  refine ⟨fun x2_7 m_7 => G m0 m_7 ∧ ((0 ≤ x2_7 ∧ x2_7 ≤ 600) ∧ ∀ j : Nat, (j : Int) < x2_7 → rd m_7 326 j = -1), fun x2_7 m_7 => Int.toNat (600 - x2_7), ?_, ?_⟩
  · exact ⟨g_m2, by exact ⟨by omega, fun j hj => by omega⟩⟩
  · intro x2_7 m_7 r_x2_7 hI_7
    obtain ⟨g_m_7, hI_7⟩ := hI_7
    refine ⟨fun hq => ?_, fun hq => ?_⟩
    · skip
      try have w1 : wr (43 + x1) = 43 + x1 := wr_id (by omega) (by omega)
      refine ⟨⟨by omega, by omega⟩, ?_⟩
      have t2 := tr_323 g_m_7.1 (Int.toNat (wr (43 + x1)))
      try have w3 : wr (24 * (rd m_7 323 (Int.toNat (wr (43 + x1))))) = 24 * (rd m_7 323 (Int.toNat (wr (43 + x1)))) := wr_id (by omega) (by omega)
      intro m44 e_m44
      have g_m44 : G m0 m44 := by rw [e_m44]; exact GX.wt g_m_7 (tw_329 g_m_7.1 ⟨by omega, by omega⟩) (Eq.refl true)
      have n44 : rd m44 329 0 = wr (24 * (rd m_7 323 (Int.toNat (wr (43 + x1))))) := by rw [e_m44, rd_wt, if_pos ⟨rfl, rfl⟩, wr_i (wr_rg _)]
      have t4 := ty_329 g_m44.1 0
      refine ⟨⟨by omega, by omega⟩, ?_⟩
      intro m56 e_m56
      have g_m56 : G m0 m56 := by rw [e_m56]; exact GX.wt g_m44 (tw_326 g_m44.1 (by first | assumption | omega)) (Eq.refl true)
      intro m59 e_m59
      have g_m59 : G m0 m59 := by rw [e_m59]; exact GX.wt g_m56 (tw_284_67 g_m56.1 ⟨by omega, by omega⟩) (Eq.refl true)
      have f44 : ∀ j : Nat, j < 600 → rd m44 326 j = -1 := fun j hj => by rw [e_m44, rd_wt, if_neg (by omega)]; exact hI_7.2 j (by omega)
      have l59 : lineOk m59 := by rw [e_m59, e_m56]; exact ln_one (by omega) f44
      refine ⟨fun x2_64 m_64 => G m0 m_64 ∧ ((0 ≤ x2_64 ∧ x2_64 ≤ 600) ∧ lineOk m_64), fun x2_64 m_64 => Int.toNat (600 - x2_64), ?_, ?_⟩
      · exact ⟨g_m59, by exact ⟨by omega, l59⟩⟩
      · intro x2_64 m_64 r_x2_64 hI_64
        obtain ⟨g_m_64, hI_64⟩ := hI_64
        have hln := hI_64.2.1
        have t5 := ty_284_67 g_m_64.1
        refine ⟨fun hq => ?_, fun hq => ?_⟩
        · skip
          exact ⟨g_m_64, by exact hI_64.2⟩
        · skip
          refine ⟨fun x3_74 m_74 => G m0 m_74 ∧ ((0 ≤ x3_74 ∧ x3_74 ≤ 4) ∧ x2_64 < rd m_74 284 67 ∧ lineOk m_74), fun x3_74 m_74 => Int.toNat (4 - x3_74), ?_, ?_⟩
          · exact ⟨g_m_64, by exact ⟨by omega, by omega, hI_64.2⟩⟩
          · intro x3_74 m_74 r_x3_74 hI_74
            obtain ⟨g_m_74, hI_74⟩ := hI_74
            have hl74 := hI_74.2.2.1
            refine ⟨fun hq => ?_, fun hq => ?_⟩
            · skip
              try have w6 : wr (x2_64 + 1) = x2_64 + 1 := wr_id (by omega) (by omega)
              intro z2_182 e_z2_182
              have r_z2_182 : rg z2_182 := by rw [e_z2_182]; exact wr_rg _
              exact ⟨⟨g_m_74, by exact ⟨by omega, hI_74.2.2⟩⟩, by (try dsimp only); omega⟩
            · skip
              refine ⟨⟨by omega, by omega⟩, ?_⟩
              have t7 := ty_329 g_m_74.1 (Int.toNat x2_64)
              try have w8 : wr (4 * (rd m_74 329 (Int.toNat x2_64))) = 4 * (rd m_74 329 (Int.toNat x2_64)) := wr_id (by omega) (by omega)
              try have w9 : wr ((wr (4 * (rd m_74 329 (Int.toNat x2_64)))) + x3_74) = (wr (4 * (rd m_74 329 (Int.toNat x2_64)))) + x3_74 := wr_id (by omega) (by omega)
              refine ⟨⟨by omega, by omega⟩, ?_⟩
              have t10 := ty_325 g_m_74.1 (Int.toNat (wr ((wr (4 * (rd m_74 329 (Int.toNat x2_64)))) + x3_74)))
              intro z4_94 e_z4_94
              have r_z4_94 : rg z4_94 := by rw [e_z4_94]; exact (rd_rg _ _ _)
              refine ⟨fun m_176 => G m0 m_176 ∧ (x2_64 < rd m_176 284 67 ∧ lineOk m_176), ?_, ?_⟩
              · skip
                refine ⟨fun hq => ?_, fun hq => ?_⟩
                · skip
                  exact ⟨g_m_74, by first | exact hI_74.2 | exact ⟨by omega, l173⟩⟩
                · skip
                  refine ⟨⟨by omega, by omega⟩, ?_⟩
                  refine ⟨fun hq => ?_, fun hq => ?_⟩
                  · skip
                    refine ⟨⟨by omega, by omega⟩, ?_⟩
                    refine ⟨⟨by omega, by omega⟩, ?_⟩
                    refine ⟨⟨by omega, by omega⟩, ?_⟩
                    try have w13 : wr ((rd m_74 326 (Int.toNat (rd m_74 329 (Int.toNat x2_64)))) + 1) = (rd m_74 326 (Int.toNat (rd m_74 329 (Int.toNat x2_64)))) + 1 := wr_id (by omega) (by omega)
                    intro m133 e_m133
                    have g_m133 : G m0 m133 := by rw [e_m133]; exact GX.wt g_m_74 (tw_326 g_m_74.1 (wr_rg _)) (Eq.refl true)
                    have hl := hI_74.2.2
                    have hk := hl.2.1 (Int.toNat x2_64) (by omega)
                    have hlt := ln_lt (z := z4_94) g_m_74.1 hl (by omega) hq
                    refine ⟨⟨by omega, by omega⟩, ?_⟩
                    refine ⟨⟨by omega, by omega⟩, ?_⟩
                    have t14 := ty_329 g_m133.1 (Int.toNat x2_64)
                    intro m146 e_m146
                    have g_m146 : G m0 m146 := by rw [e_m146]; exact GX.wt g_m133 (tw_327 g_m133.1 ⟨by omega, by omega⟩) (Eq.refl true)
                    refine ⟨⟨by omega, by omega⟩, ?_⟩
                    intro m154 e_m154
                    have g_m154 : G m0 m154 := by rw [e_m154]; exact GX.wt g_m146 (tw_328 g_m146.1 (by first | assumption | omega)) (Eq.refl true)
                    have n154 : rd m154 284 67 = rd m_74 284 67 := by rw [e_m154, rd_wt, if_neg (by omega), e_m146, rd_wt, if_neg (by omega), e_m133, rd_wt, if_neg (by omega)]
                    have t15 := ty_284_67 g_m154.1
                    refine ⟨⟨by omega, by omega⟩, ?_⟩
                    intro m165 e_m165
                    have g_m165 : G m0 m165 := by rw [e_m165]; exact GX.wt g_m154 (tw_329 g_m154.1 ⟨by omega, by omega⟩) (Eq.refl true)
                    have n165 : rd m165 284 67 = rd m_74 284 67 := by rw [e_m165, rd_wt, if_neg (by omega)]; exact n154
                    have t16 := ty_284_67 g_m165.1
                    try have w17 : wr ((rd m165 284 67) + 1) = (rd m165 284 67) + 1 := wr_id (by omega) (by omega)
                    intro m173 e_m173
                    have g_m173 : G m0 m173 := by rw [e_m173]; exact GX.wt g_m165 (tw_284_67 g_m165.1 ⟨by omega, by omega⟩) (Eq.refl true)
                    have n173 : rd m173 284 67 = rd m_74 284 67 + 1 := by rw [e_m173, rd_wt, if_pos ⟨rfl, rfl⟩, wr_i (wr_rg _), n165, wr_id (by omega) (by omega)]
                    have w133 : wr (rd m_74 326 (Int.toNat (rd m_74 329 (Int.toNat x2_64))) + 1) = rd m_74 326 (Int.toNat (rd m_74 329 (Int.toNat x2_64))) + 1 := wr_id (by omega) (by omega)
                    have a9 : ∀ j : Nat, (j : Int) < rd m_74 284 67 → rd m173 329 j = rd m_74 329 j := fun j hj => by
                      rw [e_m173, rd_wt, if_neg (by omega), e_m165, rd_wt, if_neg (by omega), e_m154, rd_wt, if_neg (by omega), e_m146, rd_wt, if_neg (by omega), e_m133, rd_wt, if_neg (by omega)]
                    have b9 : rd m173 329 (Int.toNat (rd m_74 284 67)) = z4_94 := by
                      rw [e_m173, rd_wt, if_neg (by omega), e_m165, rd_wt, if_pos ⟨rfl, by omega⟩, wr_i r_z4_94]
                    have a6 : ∀ j : Nat, ¬ j = Int.toNat z4_94 → rd m173 326 j = rd m_74 326 j := fun j hj => by
                      rw [e_m173, rd_wt, if_neg (by omega), e_m165, rd_wt, if_neg (by omega), e_m154, rd_wt, if_neg (by omega), e_m146, rd_wt, if_neg (by omega), e_m133, rd_wt, if_neg (by omega)]
                    have b6 : rd m173 326 (Int.toNat z4_94) = rd m_74 326 (Int.toNat (rd m_74 329 (Int.toNat x2_64))) + 1 := by
                      rw [e_m173, rd_wt, if_neg (by omega), e_m165, rd_wt, if_neg (by omega), e_m154, rd_wt, if_neg (by omega), e_m146, rd_wt, if_neg (by omega), e_m133, rd_wt, if_pos ⟨rfl, rfl⟩, w133, w133]
                    have a7 : ∀ j : Nat, ¬ j = Int.toNat z4_94 → rd m173 327 j = rd m_74 327 j := fun j hj => by
                      rw [e_m173, rd_wt, if_neg (by omega), e_m165, rd_wt, if_neg (by omega), e_m154, rd_wt, if_neg (by omega), e_m146, rd_wt, if_neg (by omega), e_m133, rd_wt, if_neg (by omega)]
                    have n133 : rd m133 329 (Int.toNat x2_64) = rd m_74 329 (Int.toNat x2_64) := by rw [e_m133, rd_wt, if_neg (by omega)]
                    have b7 : rd m173 327 (Int.toNat z4_94) = rd m_74 329 (Int.toNat x2_64) := by
                      rw [e_m173, rd_wt, if_neg (by omega), e_m165, rd_wt, if_neg (by omega), e_m154, rd_wt, if_neg (by omega), e_m146, rd_wt, if_pos ⟨rfl, rfl⟩, wr_i (rd_rg _ _ _), n133]
                    have l173 : lineOk m173 := ln_push (z := z4_94) g_m_74.1 hl (by omega) hq hlt n173 a9 b9 a6 b6 (by omega) (by omega) (fr := rd m_74 329 (Int.toNat x2_64)) a7 b7 (by omega)
                    exact ⟨g_m173, by first | exact hI_74.2 | exact ⟨by omega, l173⟩⟩
                  · skip
                    exact ⟨g_m_74, by first | exact hI_74.2 | exact ⟨by omega, l173⟩⟩
              · intro m_176  hR_176
                obtain ⟨g_m_176, hR_176⟩ := hR_176
                try have w18 : wr (x3_74 + 1) = x3_74 + 1 := wr_id (by omega) (by omega)
                intro z3_176 e_z3_176
                have r_z3_176 : rg z3_176 := by rw [e_z3_176]; exact wr_rg _
                exact ⟨⟨g_m_176, by exact ⟨by omega, hR_176⟩⟩, by (try dsimp only); omega⟩
    · skip
      refine ⟨⟨by omega, by omega⟩, ?_⟩
      intro m20 e_m20
      have g_m20 : G m0 m20 := by rw [e_m20]; exact GX.wt g_m_7 (tw_326 g_m_7.1 (by first | assumption | omega)) (Eq.refl true)
      have f19 : ∀ j : Nat, (j : Int) < x2_7 + 1 → rd m20 326 j = -1 := fun j hj => by
        rw [e_m20, rd_wt]
        split
        · rfl
        · next q => exact hI_7.2 j (by omega)
      try have w19 : wr (x2_7 + 1) = x2_7 + 1 := wr_id (by omega) (by omega)
      intro z2_21 e_z2_21
      have r_z2_21 : rg z2_21 := by rw [e_z2_21]; exact wr_rg _
      exact ⟨⟨g_m20, by exact ⟨by omega, fun j hj => f19 j (by omega)⟩⟩, by (try dsimp only); omega⟩
