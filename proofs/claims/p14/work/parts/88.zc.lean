theorem exF_rf {m : Mm} (h : 0 ≤ rd m 284 13) : exF m m := ⟨fun _ _ _ _ _ => rfl, h, Int.le_refl _, Int.le_refl _, fun q => q⟩
/-- behind a term: branch b has its last two places -/
def teP (m m2 : Mm) (s : Int) : Prop := rd m2 284 38 = rd m 284 38 + 1 ∧ rd m2 312 (Int.toNat (rd m 284 38)) = rd m 284 44 ∧ rd m2 313 (Int.toNat (rd m 284 38)) = rd m2 284 44 ∧ 0 ≤ rd m2 284 13 ∧ rd m 284 11 ≤ rd m2 284 11 ∧ rd m 284 44 ≤ rd m2 284 44 ∧ (rd m2 284 13 = 0 → rd m 284 13 = 0 ∧ segOk m2 (rd m 284 44) (rd m2 284 44) ∧ rd m2 284 12 = 0 ∧ rd m 284 11 + 1 ≤ rd m2 284 11 ∧ rd m2 284 44 - 420 * s ≤ rd m2 284 11) ∧ ∀ i j : Nat, ¬ (i = 284 ∧ (j = 11 ∨ j = 12 ∨ j = 13 ∨ j = 14 ∨ j = 38 ∨ j = 44 ∨ j = 48)) → ¬ i = 316 → ¬ ((i = 314 ∨ i = 315) ∧ rd m 284 44 ≤ (j : Int)) → ¬ ((i = 312 ∨ i = 313) ∧ (j : Int) = rd m 284 38) → rd m2 i j = rd m i j
theorem te_of {m m12 m24 m36 m44 : Mm} {s : Int} (hb : 0 ≤ rd m 284 38 ∧ rd m 284 38 < 260) (hc : 0 ≤ rd m 284 44) (e12 : m12 = wt m 312 (Int.toNat (rd m 284 38)) (rd m 284 44)) (h : exP m12 m24 s) (e36 : m36 = wt m24 313 (Int.toNat (rd m24 284 38)) (rd m24 284 44)) (e44 : m44 = wt m36 284 38 (wr (rd m36 284 38 + 1))) : teP m m44 s := by
  have f12 : ∀ i j : Nat, ¬ (i = 312 ∧ (j : Int) = rd m 284 38) → rd m12 i j = rd m i j := fun i j q => by rw [e12, rd_wt, if_neg (by omega)]
  have b24 : rd m24 284 38 = rd m 284 38 := (h.1.1 284 38 (by omega) (by omega) (by omega)).trans (f12 284 38 (by omega))
  have b36 : rd m36 284 38 = rd m 284 38 := by rw [e36, rd_wt, if_neg (by omega)]; exact b24
  have f44 : ∀ i j : Nat, ¬ (i = 284 ∧ j = 38) → ¬ (i = 313 ∧ (j : Int) = rd m 284 38) → rd m44 i j = rd m24 i j := fun i j q r => by rw [e44, rd_wt, if_neg q, e36, b24, rd_wt, if_neg (by omega)]
  have w : wr (rd m 284 38 + 1) = rd m 284 38 + 1 := wr_id (by omega) (by omega)
  have c12 := f12 284 44 (by omega)
  have c44 := f44 284 44 (by omega) (by omega)
  have t44 := f44 284 11 (by omega) (by omega)
  have t12 := f12 284 11 (by omega)
  have z44 := f44 284 13 (by omega) (by omega)
  have z12 := f12 284 13 (by omega)
  have o44 := f44 284 12 (by omega) (by omega)
  obtain ⟨⟨x1, x2, x3, x4, x5⟩, x6⟩ := h
  refine ⟨?_, ?_, ?_, by omega, by omega, by omega, fun z => ?_, fun i j p q r u => ?_⟩
  · rw [e44, rd_wt, if_pos ⟨rfl, rfl⟩, b36, w, w]
  · rw [f44 312 _ (by omega) (by omega), x1 312 _ (by omega) (by omega) (by omega), e12, rd_wt, if_pos ⟨rfl, rfl⟩, wr_i (rd_rg _ _ _)]
  · rw [c44, e44, rd_wt, if_neg (by omega), e36, b24, rd_wt, if_pos ⟨rfl, rfl⟩, wr_i (rd_rg _ _ _)]
  · have y := x6 (by omega)
    rw [c12] at y
    refine ⟨by have := x5 (by omega); omega, ?_, by omega, by omega, by omega⟩
    rw [c44]
    exact segOk_fr y.1 (fun c _ _ => f44 314 c (by omega) (by omega)) (fun c _ _ => f44 315 c (by omega) (by omega))
  · rw [f44 i j (by omega) (by omega), x1 i j (by omega) q (by omega), f12 i j (by omega)]
/-- a piece of codes of a half -/
def sgB (m : Mm) (s C x y : Int) : Prop := segOk m x y ∧ 420 * s ≤ x ∧ y ≤ C
theorem sgB_fr {m m2 : Mm} {s C C2 x y x2 y2 : Int} (h : sgB m s C x y) (e1 : x2 = x) (e2 : y2 = y) (hC : y ≤ C2) (f4 : ∀ j : Nat, 420 * s ≤ j → (j : Int) < y → rd m2 314 j = rd m 314 j) (f5 : ∀ j : Nat, 420 * s ≤ j → (j : Int) < y → rd m2 315 j = rd m 315 j) : sgB m2 s C2 x2 y2 := by
  subst e1 e2
  have h2 := h.2.1
  exact ⟨segOk_fr h.1 (fun c p q => f4 c (by omega) q) (fun c p q => f5 c (by omega) q), h.2.1, hC⟩
def brOk (m : Mm) (s C : Int) (b : Nat) : Prop := (¬ rd m 309 b = 0 → sgB m s C (rd m 310 b) (rd m 311 b) ∧ sgB m s C (rd m 311 b) (rd m 312 b)) ∧ sgB m s C (rd m 312 b) (rd m 313 b)
theorem brOk_fr {m m2 : Mm} {s C C2 : Int} {b : Nat} (h : brOk m s C b) (hC : C ≤ C2) (e : ∀ i, (309 ≤ i ∧ i ≤ 313) → rd m2 i b = rd m i b) (f4 : ∀ j : Nat, 420 * s ≤ j → (j : Int) < C → rd m2 314 j = rd m 314 j) (f5 : ∀ j : Nat, 420 * s ≤ j → (j : Int) < C → rd m2 315 j = rd m 315 j) : brOk m2 s C2 b := by
  have g : ∀ x y, sgB m s C x y → sgB m2 s C2 x y := fun x y q => by
    have := q.2.2
    exact sgB_fr q rfl rfl (by omega) (fun j p r => f4 j p (by omega)) (fun j p r => f5 j p (by omega))
  unfold brOk
  rw [e 309 (by omega), e 310 (by omega), e 311 (by omega), e 312 (by omega), e 313 (by omega)]
  exact ⟨fun w => ⟨g _ _ (h.1 w).1, g _ _ (h.1 w).2⟩, g _ _ h.2⟩
/-- the laws of a half: branches below B, codes below C -/
def lawsH (m : Mm) (s B C : Int) : Prop := ∀ k : Int, (0 ≤ k ∧ k ≤ 3) → ∀ b : Nat, rd m 307 (Int.toNat (4 * s + k)) ≤ b → (b : Int) < rd m 308 (Int.toNat (4 * s + k)) → (130 * s ≤ b ∧ (b : Int) < B) ∧ brOk m s C b
theorem lawsH_fr {m m2 : Mm} {s B B2 C C2 : Int} (h : lawsH m s B C) (hB : B ≤ B2) (hC : C ≤ C2) (e7 : ∀ k : Int, (0 ≤ k ∧ k ≤ 3) → rd m2 307 (Int.toNat (4 * s + k)) = rd m 307 (Int.toNat (4 * s + k)) ∧ rd m2 308 (Int.toNat (4 * s + k)) = rd m 308 (Int.toNat (4 * s + k))) (e : ∀ i (b : Nat), (309 ≤ i ∧ i ≤ 313) → 130 * s ≤ b → (b : Int) < B → rd m2 i b = rd m i b) (f4 : ∀ j : Nat, 420 * s ≤ j → (j : Int) < C → rd m2 314 j = rd m 314 j) (f5 : ∀ j : Nat, 420 * s ≤ j → (j : Int) < C → rd m2 315 j = rd m 315 j) : lawsH m2 s B2 C2 := by
  intro k hk b h1 h2
  rw [(e7 k hk).1] at h1
  rw [(e7 k hk).2] at h2
  have q := h k hk b h1 h2
  exact ⟨by omega, brOk_fr q.2 hC (fun i hi => e i b hi (by omega) (by omega)) f4 f5⟩
theorem lawsH_M {m : Mm} {B C : Int} (h : lawsH m (rd m 284 18) B C) : lawsM m := fun k hk b h1 h2 =>
  have q := (h k hk b h1 h2).2
  ⟨fun w => ⟨(q.1 w).1.1, (q.1 w).2.1⟩, q.2.1⟩
/-- within a law -/
def tlFr (m m2 : Mm) : Prop := ∀ i j : Nat, ¬ (i = 284 ∧ (j = 11 ∨ j = 12 ∨ j = 13 ∨ j = 14 ∨ j = 38 ∨ j = 44 ∨ j = 48)) → ¬ i = 316 → ¬ ((i = 314 ∨ i = 315) ∧ rd m 284 44 ≤ (j : Int)) → ¬ ((309 ≤ i ∧ i ≤ 313) ∧ rd m 284 38 ≤ (j : Int)) → rd m2 i j = rd m i j
def tlI (m m2 : Mm) (s : Int) : Prop := tlFr m m2 ∧ 0 ≤ rd m2 284 13 ∧ rd m 284 11 ≤ rd m2 284 11 ∧ rd m 284 44 ≤ rd m2 284 44 ∧ rd m 284 38 ≤ rd m2 284 38 ∧ (rd m2 284 13 = 0 → rd m 284 13 = 0 ∧ rd m2 284 12 = 0 ∧ 420 * s ≤ rd m2 284 44 ∧ rd m2 284 44 - 420 * s ≤ rd m2 284 11 ∧ ∀ q : Nat, rd m 284 38 ≤ q → (q : Int) < rd m2 284 38 → brOk m2 s (rd m2 284 44) q)
theorem tlI_ft {m m1 m2 : Mm} {s : Int} (h : tlI m m1 s) (f : ftRel m1 m2) (h13 : 0 ≤ rd m2 284 13) (h11 : rd m1 284 11 ≤ rd m2 284 11) (hz : rd m2 284 13 = 0 → rd m1 284 13 = 0) : tlI m m2 s := by
  obtain ⟨a1, a2, a3, a4, a5, a6⟩ := h
  have e44 := f 284 44 (by omega)
  have e38 := f 284 38 (by omega)
  have e12 := f 284 12 (by omega)
  refine ⟨fun i j p q r u => (f i j (by omega)).trans (a1 i j p q r u), h13, by omega, by omega, by omega, fun z => ?_⟩
  obtain ⟨b1, b2, b3, b4, b5⟩ := a6 (hz z)
  refine ⟨b1, by omega, by omega, by omega, fun q p r => ?_⟩
  rw [e44]
  exact brOk_fr (b5 q p (by omega)) (Int.le_refl _) (fun i _ => f i q (by omega)) (fun j _ _ => f 314 j (by omega)) (fun j _ _ => f 315 j (by omega))
theorem tl_0 {m m2 : Mm} {s : Int} (f : ftRel m m2) (h13 : 0 ≤ rd m2 284 13) (h11 : rd m 284 11 ≤ rd m2 284 11) (hz : rd m2 284 13 = 0 → rd m 284 13 = 0) (hp : rd m 284 13 = 0 → rd m2 284 12 = 0 ∧ 420 * s ≤ rd m2 284 44 ∧ rd m2 284 44 - 420 * s ≤ rd m2 284 11) : tlI m m2 s := by
  have e44 := f 284 44 (by omega)
  have e38 := f 284 38 (by omega)
  exact ⟨fun i j p q r u => f i j (by omega), h13, h11, by omega, by omega, fun z => ⟨hz z, (hp (hz z)).1, (hp (hz z)).2.1, (hp (hz z)).2.2, fun q p r => by omega⟩⟩
theorem tl_branch {m m1 m50 m62 m75 m77 m83 m98 m110 m113 m117 m123 : Mm} {s k : Int} (h : tlI m m1 s) (hb : 0 ≤ rd m1 284 38 ∧ rd m1 284 38 < 260) (f50 : ftRel m1 m50) (p50 : rd m1 284 11 ≤ rd m50 284 11) (z50 : rd m50 284 13 = 0 → rd m1 284 13 = 0 ∧ rd m50 284 11 = rd m1 284 11 + 1)
  (e62 : m62 = wt m50 309 (Int.toNat (rd m50 284 38)) (nz 1)) (e75 : m75 = wt m62 310 (Int.toNat (rd m62 284 38)) (rd m62 284 44)) (x77 : exP m75 m77 s) (f83 : ftRel m77 m83) (p83 : 0 ≤ rd m83 284 13) (t83 : rd m77 284 11 ≤ rd m83 284 11) (z83 : rd m83 284 13 = 0 → rd m77 284 13 = 0)
  (e98 : m98 = wt m83 311 (Int.toNat (rd m83 284 38)) (rd m83 284 44)) (x110 : exP m98 m110 s) (f113 : ftRel m110 m113) (p113 : 0 ≤ rd m113 284 13) (t113 : rd m110 284 11 ≤ rd m113 284 11) (z113 : rd m113 284 13 = 0 → rd m110 284 13 = 0) (x117 : teP m113 m117 s) (f123 : ftRel m117 m123) (p123 : 0 ≤ rd m123 284 13) (t123 : rd m117 284 11 ≤ rd m123 284 11) (z123 : rd m123 284 13 = 0 → rd m117 284 13 = 0) :
  tlI m m123 s ∧ rd m123 284 38 = rd m1 284 38 + 1 ∧ (rd m123 284 13 = 0 → rd m1 284 13 = 0 ∧ rd m1 284 11 + 4 ≤ rd m123 284 11) := by
  obtain ⟨a1, a2, a3, a4, a5, a6⟩ := h
  have b50 := f50 284 38 (by omega)
  have b62 : rd m62 284 38 = rd m1 284 38 := by rw [e62, rd_wt, if_neg (by omega)]; exact b50
  have c62 : rd m62 284 44 = rd m1 284 44 := by rw [e62, rd_wt, if_neg (by omega)]; exact f50 284 44 (by omega)
  have f75 : ∀ i j : Nat, ¬ ((i = 309 ∨ i = 310) ∧ (j : Int) = rd m1 284 38) → rd m75 i j = rd m50 i j := fun i j q => by rw [e75, b62, rd_wt, if_neg (by omega), e62, b50, rd_wt, if_neg (by omega)]
  have c75 : rd m75 284 44 = rd m1 284 44 := (f75 284 44 (by omega)).trans (f50 284 44 (by omega))
  have b75 : rd m75 284 38 = rd m1 284 38 := (f75 284 38 (by omega)).trans b50
  have t75 := f75 284 11 (by omega)
  have z75 := f75 284 13 (by omega)
  have d75 : rd m75 310 (Int.toNat (rd m1 284 38)) = rd m1 284 44 := by rw [e75, b62, rd_wt, if_pos ⟨rfl, rfl⟩, wr_i (rd_rg _ _ _), c62]
  obtain ⟨⟨x1, x2, x3, x4, x5⟩, x6⟩ := x77
  have b77 : rd m77 284 38 = rd m1 284 38 := (x1 284 38 (by omega) (by omega) (by omega)).trans b75
  have b83 := (f83 284 38 (by omega)).trans b77
  have c83 := f83 284 44 (by omega)
  have f98 : ∀ i j : Nat, ¬ (i = 311 ∧ (j : Int) = rd m1 284 38) → rd m98 i j = rd m83 i j := fun i j q => by rw [e98, b83, rd_wt, if_neg (by omega)]
  have d98 : rd m98 311 (Int.toNat (rd m1 284 38)) = rd m77 284 44 := by rw [e98, b83, rd_wt, if_pos ⟨rfl, rfl⟩, wr_i (rd_rg _ _ _), c83]
  have c98 := (f98 284 44 (by omega)).trans c83
  have b98 := (f98 284 38 (by omega)).trans b83
  have t98 := f98 284 11 (by omega)
  have z98 := f98 284 13 (by omega)
  obtain ⟨⟨y1, y2, y3, y4, y5⟩, y6⟩ := x110
  have b110 : rd m110 284 38 = rd m1 284 38 := (y1 284 38 (by omega) (by omega) (by omega)).trans b98
  have b113 := (f113 284 38 (by omega)).trans b110
  have c113 := f113 284 44 (by omega)
  obtain ⟨w1, w2, w3, w4, w5, w6, w7, w8⟩ := x117
  rw [b113] at w1 w2 w3 w8
  have c123 := f123 284 44 (by omega)
  have b123 := f123 284 38 (by omega)
  have FR : ∀ i j : Nat, ¬ (i = 284 ∧ (j = 11 ∨ j = 12 ∨ j = 13 ∨ j = 14 ∨ j = 38 ∨ j = 44 ∨ j = 48)) → ¬ i = 316 → ¬ ((i = 314 ∨ i = 315) ∧ rd m1 284 44 ≤ (j : Int)) → ¬ ((309 ≤ i ∧ i ≤ 313) ∧ (j : Int) = rd m1 284 38) → rd m123 i j = rd m1 i j := fun i j p q r u => by
    rw [f123 i j (by omega), w8 i j (by omega) q (by omega) (by omega), f113 i j (by omega), y1 i j (by omega) q (by omega), f98 i j (by omega), f83 i j (by omega), x1 i j (by omega) q (by omega), f75 i j (by omega), f50 i j (by omega)]
  refine ⟨⟨fun i j p q r u => (FR i j p q (by omega) (by omega)).trans (a1 i j p q r u), p123, by omega, by omega, by omega, fun z => ?_⟩, by omega, fun z => ?_⟩
  · have v117 := w7 (z123 z)
    have v110 := y6 (z113 v117.1)
    have z83' := y5 (z113 v117.1)
    have v77 := x6 (z83 (by omega))
    have z75' := x5 (z83 (by omega))
    have v50 := z50 (by omega)
    obtain ⟨g1, g2, g3, g4, g5⟩ := a6 v50.1
    have o123 := f123 284 12 (by omega)
    have k4 : ∀ j : Nat, (j : Int) < rd m77 284 44 → ∀ i, (i = 314 ∨ i = 315) → rd m123 i j = rd m77 i j := fun j hj i hi => by
      rw [f123 i j (by omega), w8 i j (by omega) (by omega) (by omega) (by omega), f113 i j (by omega), y1 i j (by omega) (by omega) (by omega), f98 i j (by omega), f83 i j (by omega)]
    have k5 : ∀ j : Nat, (j : Int) < rd m110 284 44 → ∀ i, (i = 314 ∨ i = 315) → rd m123 i j = rd m110 i j := fun j hj i hi => by
      rw [f123 i j (by omega), w8 i j (by omega) (by omega) (by omega) (by omega), f113 i j (by omega)]
    refine ⟨g1, by omega, by omega, by omega, fun q p r => ?_⟩
    by_cases e : (q : Int) < rd m1 284 38
    · exact brOk_fr (g5 q p e) (by omega) (fun i hi => FR i q (by omega) (by omega) (by omega) (by omega)) (fun j p1 p2 => FR 314 j (by omega) (by omega) (by omega) (by omega)) (fun j p1 p2 => FR 315 j (by omega) (by omega) (by omega) (by omega))
    · have eq : q = Int.toNat (rd m1 284 38) := by omega
      subst eq
      have d0 : rd m123 310 (Int.toNat (rd m1 284 38)) = rd m1 284 44 := by
        rw [f123 310 _ (by omega), w8 310 _ (by omega) (by omega) (by omega) (by omega), f113 310 _ (by omega), y1 310 _ (by omega) (by omega) (by omega), f98 310 _ (by omega), f83 310 _ (by omega), x1 310 _ (by omega) (by omega) (by omega), d75]
      have d1 : rd m123 311 (Int.toNat (rd m1 284 38)) = rd m77 284 44 := by
        rw [f123 311 _ (by omega), w8 311 _ (by omega) (by omega) (by omega) (by omega), f113 311 _ (by omega), y1 311 _ (by omega) (by omega) (by omega), d98]
      have d2 : rd m123 312 (Int.toNat (rd m1 284 38)) = rd m110 284 44 := by rw [f123 312 _ (by omega), w2, c113]
      have d3 : rd m123 313 (Int.toNat (rd m1 284 38)) = rd m117 284 44 := by rw [f123 313 _ (by omega), w3]
      unfold brOk
      rw [d0, d1, d2, d3]
      refine ⟨fun _ => ⟨⟨?_, by omega, by omega⟩, ⟨?_, by omega, by omega⟩⟩, ⟨?_, by omega, by omega⟩⟩
      · have := v77.1
        rw [c75] at this
        exact segOk_fr this (fun c _ r => k4 c r 314 (by omega)) (fun c _ r => k4 c r 315 (by omega))
      · have := v110.1
        rw [c98] at this
        exact segOk_fr this (fun c _ r => k5 c r 314 (by omega)) (fun c _ r => k5 c r 315 (by omega))
      · have := v117.2.1
        rw [c113] at this
        exact segOk_fr this (fun c _ _ => f123 314 c (by omega)) (fun c _ _ => f123 315 c (by omega))
  · have v117 := w7 (z123 z)
    have v110 := y6 (z113 v117.1)
    have z83' := y5 (z113 v117.1)
    have v77 := x6 (z83 (by omega))
    have z75' := x5 (z83 (by omega))
    have v50 := z50 (by omega)
    omega
theorem tl_last {m m1 m138 m140 m145 : Mm} {s : Int} (h : tlI m m1 s) (e : m138 = wt m1 309 (Int.toNat (rd m1 284 38)) (nz 0)) (hb : 0 ≤ rd m1 284 38 ∧ rd m1 284 38 < 260) (x : teP m138 m140 s) (f : ftRel m140 m145) (p : 0 ≤ rd m145 284 13) (t : rd m140 284 11 ≤ rd m145 284 11) (z : rd m145 284 13 = 0 → rd m140 284 13 = 0) : tlI m m145 s ∧ rd m145 284 38 = rd m1 284 38 + 1 ∧ (rd m145 284 13 = 0 → rd m1 284 13 = 0 ∧ rd m1 284 11 + 1 ≤ rd m140 284 11) := by
  obtain ⟨a1, a2, a3, a4, a5, a6⟩ := h
  have fa : ∀ i j : Nat, ¬ (i = 309 ∧ (j : Int) = rd m1 284 38) → rd m138 i j = rd m1 i j := fun i j q => by rw [e, rd_wt, if_neg (by omega)]
  have d9 : rd m138 309 (Int.toNat (rd m1 284 38)) = 0 := by rw [e, rd_wt, if_pos ⟨rfl, rfl⟩]; decide
  have b1 := fa 284 38 (by omega)
  have c1 := fa 284 44 (by omega)
  have t1 := fa 284 11 (by omega)
  have z1 := fa 284 13 (by omega)
  obtain ⟨w1, w2, w3, w4, w5, w6, w7, w8⟩ := x
  rw [b1] at w1 w2 w3 w8
  have c145 := f 284 44 (by omega)
  have b145 := f 284 38 (by omega)
  have FR : ∀ i j : Nat, ¬ (i = 284 ∧ (j = 11 ∨ j = 12 ∨ j = 13 ∨ j = 14 ∨ j = 38 ∨ j = 44 ∨ j = 48)) → ¬ i = 316 → ¬ ((i = 314 ∨ i = 315) ∧ rd m1 284 44 ≤ (j : Int)) → ¬ ((309 ≤ i ∧ i ≤ 313) ∧ (j : Int) = rd m1 284 38) → rd m145 i j = rd m1 i j := fun i j p q r u => by
    rw [f i j (by omega), w8 i j (by omega) q (by omega) (by omega), fa i j (by omega)]
  refine ⟨⟨fun i j p q r u => (FR i j p q (by omega) (by omega)).trans (a1 i j p q r u), p, by omega, by omega, by omega, fun zz => ?_⟩, by omega, fun zz => ?_⟩
  · have v := w7 (z zz)
    obtain ⟨g1, g2, g3, g4, g5⟩ := a6 (by omega)
    have o145 := f 284 12 (by omega)
    refine ⟨g1, by omega, by omega, by omega, fun q p r => ?_⟩
    by_cases e : (q : Int) < rd m1 284 38
    · exact brOk_fr (g5 q p e) (by omega) (fun i hi => FR i q (by omega) (by omega) (by omega) (by omega)) (fun j p1 p2 => FR 314 j (by omega) (by omega) (by omega) (by omega)) (fun j p1 p2 => FR 315 j (by omega) (by omega) (by omega) (by omega))
    · have eq : q = Int.toNat (rd m1 284 38) := by omega
      subst eq
      have d2 : rd m145 312 (Int.toNat (rd m1 284 38)) = rd m1 284 44 := by rw [f 312 _ (by omega), w2, c1]
      have d3 : rd m145 313 (Int.toNat (rd m1 284 38)) = rd m140 284 44 := by rw [f 313 _ (by omega), w3]
      have d0 : rd m145 309 (Int.toNat (rd m1 284 38)) = 0 := by rw [f 309 _ (by omega), w8 309 _ (by omega) (by omega) (by omega) (by omega), d9]
      unfold brOk
      rw [d0, d2, d3]
      refine ⟨fun w => absurd rfl w, ⟨?_, by omega, by omega⟩⟩
      have := v.2.1
      rw [c1] at this
      exact segOk_fr this (fun c _ _ => f 314 c (by omega)) (fun c _ _ => f 315 c (by omega))
  · have v := w7 (z zz)
    exact ⟨by omega, by omega⟩
/-- behind a law -/
def tlP (m m2 : Mm) (s k : Int) : Prop := (∀ i j : Nat, ¬ (i = 284 ∧ (j = 11 ∨ j = 12 ∨ j = 13 ∨ j = 14 ∨ j = 38 ∨ j = 44 ∨ j = 48)) → ¬ (307 ≤ i ∧ i ≤ 316) → rd m2 i j = rd m i j) ∧ 0 ≤ rd m2 284 13 ∧ rd m 284 11 ≤ rd m2 284 11 ∧ (rd m2 284 13 = 0 → rd m 284 13 = 0 ∧ rd m 284 11 + 1 ≤ rd m2 284 11 ∧ rd m2 284 12 = 0 ∧ 420 * s ≤ rd m2 284 44 ∧ rd m2 284 44 - 420 * s ≤ rd m2 284 11 ∧ 130 * s ≤ rd m2 284 38 ∧ 4 * (rd m2 284 38 - 130 * s) ≤ rd m2 284 11 ∧ (lawsH m s (rd m 284 38) (rd m 284 44) → lawsH m2 s (rd m2 284 38) (rd m2 284 44)))
theorem tlP_f {m m2 : Mm} {s k : Int} (h : tlI m m2 s) (z : ¬ rd m2 284 13 = 0) (b : 0 ≤ rd m 284 38) : tlP m m2 s k := ⟨fun i j p q => h.1 i j p (by omega) (by omega) (by omega), h.2.1, h.2.2.1, fun q => absurd q z⟩
theorem tlP_l {m m1 m2 : Mm} {s k : Int} {Z : Prop} (h : tlI m m2 s ∧ rd m2 284 38 = rd m1 284 38 + 1 ∧ Z) (z : ¬ rd m2 284 13 = 0) (b : 0 ≤ rd m 284 38) : tlP m m2 s k := tlP_f h.1 z b
theorem tlP_e {m m1 mh m140 m145 m169 m186 : Mm} {s k z2 : Int} (h : tlI m m145 s ∧ rd m145 284 38 = rd m1 284 38 + 1 ∧ (rd m145 284 13 = 0 → rd m1 284 13 = 0 ∧ rd m1 284 11 + 1 ≤ rd m140 284 11)) (z : rd m145 284 13 = 0) (hs : 0 ≤ s ∧ s ≤ 1) (hk : 0 ≤ k ∧ k ≤ 3) (ez : z2 = rd mh 284 38) (eh : rd mh 284 38 = rd m 284 38) (s145 : rd m145 284 19 = s) (e169 : m169 = wt m145 307 (Int.toNat (wr ((wr (4 * (rd m145 284 19))) + k))) z2) (e186 : m186 = wt m169 308 (Int.toNat (wr ((wr (4 * (rd m169 284 19))) + k))) (rd m169 284 38)) (b : (130 * s ≤ rd m 284 38 ∧ rd m 284 11 + 1 ≤ rd m145 284 11) ∧ 4 * (rd m145 284 38 - 130 * s) ≤ rd m145 284 11) : tlP m m186 s k := by
  have wi : Int.toNat (wr ((wr (4 * s)) + k)) = Int.toNat (4 * s + k) := by rw [wr_id (x := 4 * s) (by omega) (by omega), wr_id (by omega) (by omega)]
  have s169 : rd m169 284 19 = s := by rw [e169, rd_wt, if_neg (by omega)]; exact s145
  rw [s145, wi] at e169
  rw [s169, wi] at e186
  have b169 : rd m169 284 38 = rd m145 284 38 := by rw [e169, rd_wt, if_neg (by omega)]
  have F : ∀ i j : Nat, ¬ ((i = 307 ∨ i = 308) ∧ (j : Int) = 4 * s + k) → rd m186 i j = rd m145 i j := fun i j q => by rw [e186, rd_wt, if_neg (by omega), e169, rd_wt, if_neg (by omega)]
  have d7 : rd m186 307 (Int.toNat (4 * s + k)) = rd m 284 38 := by rw [e186, rd_wt, if_neg (by omega), e169, rd_wt, if_pos ⟨rfl, rfl⟩, ez, wr_i (rd_rg _ _ _), eh]
  have d8 : rd m186 308 (Int.toNat (4 * s + k)) = rd m145 284 38 := by rw [e186, rd_wt, if_pos ⟨rfl, rfl⟩, wr_i (rd_rg _ _ _), b169]
  have q11 := F 284 11 (by omega)
  have q13 := F 284 13 (by omega)
  have q12 := F 284 12 (by omega)
  have q38 := F 284 38 (by omega)
  have q44 := F 284 44 (by omega)
  obtain ⟨⟨a1, a2, a3, a4, a5, a6⟩, -, -⟩ := h
  obtain ⟨g1, g2, g3, g4, g5⟩ := a6 z
  refine ⟨fun i j p q => (F i j (by omega)).trans (a1 i j p (by omega) (by omega) (by omega)), by omega, by omega, fun _ => ⟨g1, by omega, by omega, by omega, by omega, by omega, by omega, fun L => ?_⟩⟩
  rw [q38, q44]
  intro k2 hk2 q r1 r2
  by_cases e : k2 = k
  · subst e
    rw [d7] at r1
    rw [d8] at r2
    exact ⟨by omega, brOk_fr (g5 q r1 r2) (Int.le_refl _) (fun i hi => F i q (by omega)) (fun j _ _ => F 314 j (by omega)) (fun j _ _ => F 315 j (by omega))⟩
  · rw [F 307 _ (by omega), a1 307 _ (by omega) (by omega) (by omega) (by omega)] at r1
    rw [F 308 _ (by omega), a1 308 _ (by omega) (by omega) (by omega) (by omega)] at r2
    have o := L k2 hk2 q r1 r2
    exact ⟨by omega, brOk_fr o.2 (by omega) (fun i hi => (F i q (by omega)).trans (a1 i q (by omega) (by omega) (by omega) (by omega))) (fun j p1 p2 => (F 314 j (by omega)).trans (a1 314 j (by omega) (by omega) (by omega) (by omega))) (fun j p1 p2 => (F 315 j (by omega)).trans (a1 315 j (by omega) (by omega) (by omega) (by omega)))⟩
-- TippedCratesModel.term()V
set_option maxRecDepth 20000 in
theorem ct_196 {m0 m : Mm}   (g_m : PX m0 m)  (p0 : 0 ≤ rd m 284 13) (p1 : rd m 284 13 = 0 → rd m 284 12 = 0 ∧ 420 * rd m0 284 19 ≤ rd m 284 44 ∧ rd m 284 44 - 420 * rd m0 284 19 ≤ rd m 284 11) (p2 : 130 * rd m0 284 19 ≤ rd m 284 38 ∧ rd m 284 38 < 130 * rd m0 284 19 + 130) : CV 5 196 [.ref 284] m (fun m2 => PX m0 m2 ∧ (teP m m2 (rd m0 284 19))) := by
  refine br_196  ?_
  unfold P_196
  have hs := PX.s g_m
  have tc := ty_284_44 g_m.1
  have t1 := ty_284_38 g_m.1
  refine ⟨⟨by omega, by omega⟩, ?_⟩
  have t2 := ty_284_44 g_m.1
  intro m12 e_m12
  have g_m12 : PX m0 m12 := by rw [e_m12]; exact PX.wt g_m (tw_312 g_m.1 ⟨by omega, by omega⟩) (inP_130 (by omega) (by omega))
  have n11 : rd m12 284 11 = rd m 284 11 := by rw [e_m12, rd_wt, if_neg (by omega)]
  have n12 : rd m12 284 12 = rd m 284 12 := by rw [e_m12, rd_wt, if_neg (by omega)]
  have n13 : rd m12 284 13 = rd m 284 13 := by rw [e_m12, rd_wt, if_neg (by omega)]
  have n38 : rd m12 284 38 = rd m 284 38 := by rw [e_m12, rd_wt, if_neg (by omega)]
  have n44 : rd m12 284 44 = rd m 284 44 := by rw [e_m12, rd_wt, if_neg (by omega)]
  refine ⟨fun m_24 => PX m0 m_24 ∧ (exP m12 m_24 (rd m0 284 19)), ?_, ?_⟩
  · skip
    refine ⟨fun hq => ?_, fun hq => ?_⟩
    · skip
      exact ⟨g_m12, by first | exact exP_f (exF_rf (by omega)) (by omega) | exact h_m21⟩
    · skip
      refine CV.mono (ct_199   g_m12 (by omega) (fun h => by have := p1 (by omega); omega)) (by decide) ?_
      rintro m21 ⟨g_m21, h_m21⟩
      exact ⟨g_m21, by first | exact exP_f (exF_rf (by omega)) (by omega) | exact h_m21⟩
  · intro m_24  hR_24
    obtain ⟨g_m_24, hR_24⟩ := hR_24
    have b24 : rd m_24 284 38 = rd m 284 38 := (hR_24.1.1 284 38 (by omega) (by omega) (by omega)).trans n38
    have tc24 := ty_284_44 g_m_24.1
    have t4 := ty_284_38 g_m_24.1
    refine ⟨⟨by omega, by omega⟩, ?_⟩
    have t5 := ty_284_44 g_m_24.1
    intro m36 e_m36
    have g_m36 : PX m0 m36 := by rw [e_m36]; exact PX.wt g_m_24 (tw_313 g_m_24.1 ⟨by omega, by omega⟩) (inP_130 (by omega) (by omega))
    have b36 : rd m36 284 38 = rd m 284 38 := by rw [e_m36, rd_wt, if_neg (by omega)]; exact b24
    have t6 := ty_284_38 g_m36.1
    try have w7 : wr ((rd m36 284 38) + 1) = (rd m36 284 38) + 1 := wr_id (by omega) (by omega)
    intro m44 e_m44
    have g_m44 : PX m0 m44 := by rw [e_m44]; exact PX.wt g_m36 (tw_284_38 g_m36.1 ⟨by omega, by omega⟩) (inP_284 (by omega))
    exact ⟨g_m44, by exact te_of (by omega) (by omega) e_m12 hR_24 e_m36 e_m44⟩
-- TippedCratesModel.tellLaw(I)V
set_option maxRecDepth 20000 in
theorem ct_195 {m0 m : Mm} {x1 : Int}  (g_m : PX m0 m) (r_x1 : rg x1) (p0 : 0 ≤ x1 ∧ x1 ≤ 3) (p1 : 0 ≤ rd m 284 13) (p2 : rd m 284 13 = 0 → rd m 284 12 = 0 ∧ 420 * rd m0 284 19 ≤ rd m 284 44 ∧ rd m 284 44 - 420 * rd m0 284 19 ≤ rd m 284 11) (p3 : (130 * rd m0 284 19 ≤ rd m 284 38 ∧ rd m 284 38 ≤ 130 * rd m0 284 19 + 100) ∧ (rd m 284 13 = 0 → 4 * (rd m 284 38 - 130 * rd m0 284 19) + 1 ≤ rd m 284 11)) : CV 6 195 [.ref 284, iv x1] m (fun m2 => PX m0 m2 ∧ (tlP m m2 (rd m0 284 19) x1)) := by
  refine br_195 r_x1 ?_
  unfold P_195
  have hs := PX.s g_m
  have tt := ty_284_11 g_m.1
  refine CV.mono (ct_184   g_m.1 (by unfold rg; decide) (by omega)) (by decide) ?_
  rintro m2 ⟨hx_m2, h_m2⟩
  have g_m2 : PX m0 m2 := PX.ft g_m hx_m2
  have ft2 := ft_go hx_m2 h_m2.2.2.1.1 h_m2.2.2.1.2
  have b2 : rd m2 284 38 = rd m 284 38 := ft2 284 38 (by omega)
  have t1 := ty_284_38 g_m2.1
  intro z2_9 e_z2_9
  have r_z2_9 : rg z2_9 := by rw [e_z2_9]; exact (rd_rg _ _ _)
  refine ⟨fun x3_12 m_12 => PX m0 m_12 ∧ (tlI m m_12 (rd m0 284 19) ∧ rd m_12 284 38 ≤ 130 * rd m0 284 19 + 100 ∧ (rd m_12 284 13 = 0 → 4 * (rd m_12 284 38 - 130 * rd m0 284 19) + 2 ≤ rd m_12 284 11)), fun x3_12 m_12 => Int.toNat (10000 - rd m_12 284 11 - 1000 * rd m_12 284 13), ?_, ?_⟩
  · exact ⟨g_m2, by exact ⟨tl_0 ft2 (by omega) (by omega) (fun h => (h_m2.1 h).1) (fun h => by have := p2 h; have := ft2 284 12 (by omega); have := ft2 284 44 (by omega); omega), by omega, fun h => by have := h_m2.1 h; have := p3.2 this.1; omega⟩⟩
  · intro x3_12 m_12 r_x3_12 hI_12
    obtain ⟨g_m_12, hI_12⟩ := hI_12
    have f12 := hI_12.1.2.1
    have t12 := ty_284_11 g_m_12.1
    refine ⟨fun m_129 => PX m0 m_129 ∧ (tlI m m_129 (rd m0 284 19) ∧ rd m_129 284 38 ≤ 130 * rd m0 284 19 + 100 ∧ (rd m_129 284 13 = 0 → 4 * (rd m_129 284 38 - 130 * rd m0 284 19) + 2 ≤ rd m_129 284 11)), ?_, ?_⟩
    · skip
      refine ⟨fun hq => ?_, fun hq => ?_⟩
      · skip
        exact ⟨g_m_12, by exact hI_12⟩
      · skip
        refine CK.mono (ct_180   g_m_12.1 (by unfold rg; decide)) (by decide) ?_
        rintro m22 v22 r_v22 ⟨e_m22, h_m22⟩
        replace e_m22 := e_m22.symm
        subst e_m22
        refine ⟨fun hq => ?_, fun hq => ?_⟩
        · skip
          exact ⟨g_m_12, by exact hI_12⟩
        · skip
          refine ⟨fun m_38 => PX m0 m_38 ∧ (ftRel m_12 m_38 ∧ 0 ≤ rd m_38 284 13 ∧ rd m_38 284 11 = rd m_12 284 11 ∧ (rd m_38 284 13 = 0 → rd m_12 284 13 = 0)), ?_, ?_⟩
          · skip
            refine ⟨fun hq => ?_, fun hq => ?_⟩
            · skip
              exact ⟨g_m_12, by first | exact ⟨fun _ _ _ => rfl, by omega, rfl, fun h => h⟩ | exact ⟨ft_go hx_m35 h_m35.2.2.1 h_m35.2.2.2, by omega, by omega, fun h => by omega⟩⟩
            · skip
              refine CV.mono (ct_181   g_m_12.1 (by unfold rg; decide) (by omega) (by omega)) (by decide) ?_
              rintro m35 ⟨hx_m35, h_m35⟩
              have g_m35 : PX m0 m35 := PX.ft g_m_12 hx_m35
              exact ⟨g_m35, by first | exact ⟨fun _ _ _ => rfl, by omega, rfl, fun h => h⟩ | exact ⟨ft_go hx_m35 h_m35.2.2.1 h_m35.2.2.2, by omega, by omega, fun h => by omega⟩⟩
          · intro m_38  hR_38
            obtain ⟨g_m_38, hR_38⟩ := hR_38
            have tl38 := tlI_ft hI_12.1 hR_38.1 (by omega) (by omega) (fun h => by omega)
            have hTL := tl38
            have b38 : rd m_38 284 38 = rd m_12 284 38 := hR_38.1 284 38 (by omega)
            have c38b := hTL.2.2.2.1
            have bl38 := hTL.2.2.2.2.1
            have z38 := hTL.2.2.2.2.2
            refine ⟨fun hq => ?_, fun hq => ?_⟩
            · skip
              try have w4 : wr (x3_12 + 1) = x3_12 + 1 := wr_id (by omega) (by omega)
              intro z3_46 e_z3_46
              have r_z3_46 : rg z3_46 := by rw [e_z3_46]; exact wr_rg _
              refine CV.mono (ct_183   g_m_38.1 (by omega)) (by decide) ?_
              rintro m50 ⟨hx_m50, h_m50⟩
              have g_m50 : PX m0 m50 := PX.ft g_m_38 hx_m50
              have ft50 := ft_go hx_m50 h_m50.2.1 h_m50.2.2
              have b50 : rd m50 284 38 = rd m_38 284 38 := ft50 284 38 (by omega)
              have tc50 := ty_284_44 g_m50.1
              have t5 := ty_284_38 g_m50.1
              refine ⟨⟨by omega, by omega⟩, ?_⟩
              intro m62 e_m62
              have g_m62 : PX m0 m62 := by rw [e_m62]; exact PX.wt g_m50 (tw_309 g_m50.1 (nz_rg _)) (inP_130 (by omega) (by omega))
              have b62 : rd m62 284 38 = rd m_38 284 38 := by rw [e_m62, rd_wt, if_neg (by omega)]; exact b50
              have c62 : rd m62 284 44 = rd m50 284 44 := by rw [e_m62, rd_wt, if_neg (by omega)]
              have t6 := ty_284_38 g_m62.1
              refine ⟨⟨by omega, by omega⟩, ?_⟩
              have t7 := ty_284_44 g_m62.1
              intro m75 e_m75
              have g_m75 : PX m0 m75 := by rw [e_m75]; exact PX.wt g_m62 (tw_310 g_m62.1 ⟨by omega, by omega⟩) (inP_130 (by omega) (by omega))
              have q75_11 : rd m75 284 11 = rd m50 284 11 := by rw [e_m75, rd_wt, if_neg (by omega), e_m62, rd_wt, if_neg (by omega)]
              have q75_12 : rd m75 284 12 = rd m50 284 12 := by rw [e_m75, rd_wt, if_neg (by omega), e_m62, rd_wt, if_neg (by omega)]
              have q75_13 : rd m75 284 13 = rd m50 284 13 := by rw [e_m75, rd_wt, if_neg (by omega), e_m62, rd_wt, if_neg (by omega)]
              have q75_38 : rd m75 284 38 = rd m50 284 38 := by rw [e_m75, rd_wt, if_neg (by omega), e_m62, rd_wt, if_neg (by omega)]
              have q75_44 : rd m75 284 44 = rd m50 284 44 := by rw [e_m75, rd_wt, if_neg (by omega), e_m62, rd_wt, if_neg (by omega)]
              have c38 : rd m50 284 44 = rd m_38 284 44 := ft50 284 44 (by omega)
              have o38 : rd m50 284 12 = rd m_38 284 12 := ft50 284 12 (by omega)
              refine CV.mono (ct_199   g_m75 (by omega) (fun h => by have := z38 (by omega); omega)) (by decide) ?_
              rintro m77 ⟨g_m77, h_m77⟩
              have b77 : rd m77 284 38 = rd m_38 284 38 := (h_m77.1.1 284 38 (by omega) (by omega) (by omega)).trans (q75_38.trans b50)
              have f77 := h_m77.1.2.1
              have t77 := h_m77.1.2.2.1
              have z77 := h_m77.1.2.2.2.2
              refine CV.mono (ct_184   g_m77.1 (by unfold rg; decide) (by omega)) (by decide) ?_
              rintro m83 ⟨hx_m83, h_m83⟩
              have g_m83 : PX m0 m83 := PX.ft g_m77 hx_m83
              have ft83 := ft_go hx_m83 h_m83.2.2.1.1 h_m83.2.2.1.2
              have b83 : rd m83 284 38 = rd m_38 284 38 := (ft83 284 38 (by omega)).trans b77
              have tc83 := ty_284_44 g_m83.1
              have c83 : rd m83 284 44 = rd m77 284 44 := ft83 284 44 (by omega)
              have o83 : rd m83 284 12 = rd m77 284 12 := ft83 284 12 (by omega)
              have t8 := ty_284_38 g_m83.1
              refine ⟨⟨by omega, by omega⟩, ?_⟩
              have t9 := ty_284_44 g_m83.1
              intro m98 e_m98
              have g_m98 : PX m0 m98 := by rw [e_m98]; exact PX.wt g_m83 (tw_311 g_m83.1 ⟨by omega, by omega⟩) (inP_130 (by omega) (by omega))
              have q98_11 : rd m98 284 11 = rd m83 284 11 := by rw [e_m98, rd_wt, if_neg (by omega)]
              have q98_12 : rd m98 284 12 = rd m83 284 12 := by rw [e_m98, rd_wt, if_neg (by omega)]
              have q98_13 : rd m98 284 13 = rd m83 284 13 := by rw [e_m98, rd_wt, if_neg (by omega)]
              have q98_38 : rd m98 284 38 = rd m83 284 38 := by rw [e_m98, rd_wt, if_neg (by omega)]
              have q98_44 : rd m98 284 44 = rd m83 284 44 := by rw [e_m98, rd_wt, if_neg (by omega)]
              refine ⟨fun m_110 => PX m0 m_110 ∧ (exP m98 m_110 (rd m0 284 19)), ?_, ?_⟩
              · skip
                refine ⟨fun hq => ?_, fun hq => ?_⟩
                · skip
                  exact ⟨g_m98, by first | exact exP_f (exF_rf (by omega)) (by omega) | exact h_m107⟩
                · skip
                  refine CV.mono (ct_199   g_m98 (by omega) (fun h => by have := h_m77.2 (by have := h_m83.1 (by omega); omega); have := h_m83.1 (by omega); have := z38 (by have := z77 (by omega); omega); have := h_m77.1.2.2.2.1; omega)) (by decide) ?_
                  rintro m107 ⟨g_m107, h_m107⟩
                  exact ⟨g_m107, by first | exact exP_f (exF_rf (by omega)) (by omega) | exact h_m107⟩
              · intro m_110  hR_110
                obtain ⟨g_m_110, hR_110⟩ := hR_110
                have b110 : rd m_110 284 38 = rd m_38 284 38 := (hR_110.1.1 284 38 (by omega) (by omega) (by omega)).trans (q98_38.trans b83)
                have f110 := hR_110.1.2.1
                have t110 := hR_110.1.2.2.1
                have z110 := hR_110.1.2.2.2.2
                refine CV.mono (ct_184   g_m_110.1 (by unfold rg; decide) (by omega)) (by decide) ?_
                rintro m113 ⟨hx_m113, h_m113⟩
                have g_m113 : PX m0 m113 := PX.ft g_m_110 hx_m113
                have ft113 := ft_go hx_m113 h_m113.2.2.1.1 h_m113.2.2.1.2
                have b113 : rd m113 284 38 = rd m_38 284 38 := (ft113 284 38 (by omega)).trans b110
                have c113 : rd m113 284 44 = rd m_110 284 44 := ft113 284 44 (by omega)
                have o113 : rd m113 284 12 = rd m_110 284 12 := ft113 284 12 (by omega)
                refine CV.mono (ct_196   g_m113 (by omega) (fun h => by have q1 := h_m113.1 h; have q2 := hR_110.2 q1.1; have q3 := h_m83.1 (by have := z110 q1.1; omega); have q4 := z38 (by have := z77 q3.1; omega); have q5 := h_m77.1.2.2.2.1; have q6 := hR_110.1.2.2.2.1; omega) (by omega)) (by decide) ?_
                rintro m117 ⟨g_m117, h_m117⟩
                have t117 := h_m117.2.2.2.2.1
                have f117 := h_m117.2.2.2.1
                refine CV.mono (ct_184   g_m117.1 (by unfold rg; decide) (by omega)) (by decide) ?_
                rintro m123 ⟨hx_m123, h_m123⟩
                have g_m123 : PX m0 m123 := PX.ft g_m117 hx_m123
                have ft123 := ft_go hx_m123 h_m123.2.2.1.1 h_m123.2.2.1.2
                have br := tl_branch (k := x1) hTL (by omega) ft50 (by omega) (by omega) e_m62 e_m75 h_m77 ft83 (by omega) (by omega) (fun h => (h_m83.1 h).1) e_m98 hR_110 ft113 (by omega) (by omega) (fun h => (h_m113.1 h).1) h_m117 ft123 (by omega) (by omega) (fun h => (h_m123.1 h).1)
                have br2 := br.2.2
                have br3 := h_m123.1
                exact ⟨⟨g_m123, by exact ⟨br.1, by have := br.2.1; omega, fun h => by have := br.2.1; have := br.2.2 h; omega⟩⟩, by (try dsimp only); omega⟩
            · skip
              exact ⟨g_m_38, by first | exact tlP_f hTL (by omega) (by omega) | exact tlP_l la (by omega) (by omega) | exact tlP_e la (by omega) (by omega) p0 e_z2_9 b2 s145 e_m169 e_m186 (by omega)⟩
    · intro m_129  hR_129
      obtain ⟨g_m_129, hR_129⟩ := hR_129
      have t129b := hR_129.1.2.2.1
      have f129 := hR_129.1.2.1
      have b129 := hR_129.1.2.2.2.2.1
      have z129 := hR_129.1.2.2.2.2.2
      have t129 := ty_284_11 g_m_129.1
      have t11 := ty_284_38 g_m_129.1
      refine ⟨⟨by omega, by omega⟩, ?_⟩
      intro m138 e_m138
      have g_m138 : PX m0 m138 := by rw [e_m138]; exact PX.wt g_m_129 (tw_309 g_m_129.1 (nz_rg _)) (inP_130 (by omega) (by omega))
      have b138 : rd m138 284 38 = rd m_129 284 38 := by rw [e_m138, rd_wt, if_neg (by omega)]
      have q138_11 : rd m138 284 11 = rd m_129 284 11 := by rw [e_m138, rd_wt, if_neg (by omega)]
      have q138_12 : rd m138 284 12 = rd m_129 284 12 := by rw [e_m138, rd_wt, if_neg (by omega)]
      have q138_13 : rd m138 284 13 = rd m_129 284 13 := by rw [e_m138, rd_wt, if_neg (by omega)]
      have q138_44 : rd m138 284 44 = rd m_129 284 44 := by rw [e_m138, rd_wt, if_neg (by omega)]
      refine CV.mono (ct_196   g_m138 (by omega) (fun h => by have := z129 (by omega); omega) (by omega)) (by decide) ?_
      rintro m140 ⟨g_m140, h_m140⟩
      have f140 := h_m140.2.2.2.1
      have t140 := h_m140.2.2.2.2.1
      refine CV.mono (ct_184   g_m140.1 (by unfold rg; decide) (by omega)) (by decide) ?_
      rintro m145 ⟨hx_m145, h_m145⟩
      have g_m145 : PX m0 m145 := PX.ft g_m140 hx_m145
      have ft145 := ft_go hx_m145 h_m145.2.2.1.1 h_m145.2.2.1.2
      have s145 := (PX.s g_m145).1
      have tb := ty_284_38 g_m145.1
      have la := tl_last hR_129.1 e_m138 (by omega) h_m140 ft145 (by omega) (by omega) (fun h => (h_m145.1 h).1)
      have bl := la.2.1
      have b138b := h_m140.1
      refine ⟨fun hq => ?_, fun hq => ?_⟩
      · skip
        have t13 := ty_284_19 g_m145.1
        try have w14 : wr (4 * (rd m145 284 19)) = 4 * (rd m145 284 19) := wr_id (by omega) (by omega)
        try have w15 : wr ((wr (4 * (rd m145 284 19))) + x1) = (wr (4 * (rd m145 284 19))) + x1 := wr_id (by omega) (by omega)
        refine ⟨⟨by omega, by omega⟩, ?_⟩
        intro m169 e_m169
        have g_m169 : PX m0 m169 := by rw [e_m169]; exact PX.wt g_m145 (tw_307 g_m145.1 ⟨by omega, by omega⟩) (inP_4 (by omega) (by omega))
        have s169 : rd m169 284 19 = rd m145 284 19 := by rw [e_m169, rd_wt, if_neg (by omega)]
        have tb9 := ty_284_38 g_m169.1
        have t16 := ty_284_19 g_m169.1
        try have w17 : wr (4 * (rd m169 284 19)) = 4 * (rd m169 284 19) := wr_id (by omega) (by omega)
        try have w18 : wr ((wr (4 * (rd m169 284 19))) + x1) = (wr (4 * (rd m169 284 19))) + x1 := wr_id (by omega) (by omega)
        refine ⟨⟨by omega, by omega⟩, ?_⟩
        have t19 := ty_284_38 g_m169.1
        intro m186 e_m186
        have g_m186 : PX m0 m186 := by rw [e_m186]; exact PX.wt g_m169 (tw_308 g_m169.1 ⟨by omega, by omega⟩) (inP_4 (by omega) (by omega))
        exact ⟨g_m186, by first | exact tlP_f hTL (by omega) (by omega) | exact tlP_l la (by omega) (by omega) | exact tlP_e la (by omega) (by omega) p0 e_z2_9 b2 s145 e_m169 e_m186 (by omega)⟩
      · skip
        exact ⟨g_m145, by first | exact tlP_f hTL (by omega) (by omega) | exact tlP_l la (by omega) (by omega) | exact tlP_e la (by omega) (by omega) p0 e_z2_9 b2 s145 e_m169 e_m186 (by omega)⟩
