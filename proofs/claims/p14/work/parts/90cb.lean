/-- a term: its codes stand from where they stood on, and how far it goes -/
def tmM (K V : Int → Int) (m m2 : Mm) : Prop := rd m2 284 13 = 0 → rd m2 284 44 = rd m 284 44 + ((EM K V (rd m 284 11) 0 0 []).length : Int) ∧ sgM m2 (rd m 284 44) (EM K V (rd m 284 11) 0 0 []) ∧ rd m2 284 11 = (AU K (rd m 284 11) 0 0).2
theorem tmm_of {m0 m m2 : Mm} {N s : Int} (q : exM (kC m0) (vC m0) m m2) (x : exA m0 m m2 N) (h : exP m m2 s) : tmM (kC m0) (vC m0) m m2 := fun z => by
  have z0 := h.1.2.2.2.2 z
  obtain ⟨a, b⟩ := q z
  exact ⟨a, b, by rw [((x.2 z0).1 z).1]⟩
theorem tm_te {K V : Int → Int} {m m12 m24 m36 m44 : Mm} (h : tmM K V m12 m24) (n11 : rd m12 284 11 = rd m 284 11) (n44 : rd m12 284 44 = rd m 284 44) (e36 : m36 = wt m24 313 (Int.toNat (rd m24 284 38)) (rd m24 284 44)) (e44 : m44 = wt m36 284 38 (wr (rd m36 284 38 + 1))) (u : 0 ≤ rd m 284 44 ∧ rd m 284 44 ≤ 840) : tmM K V m m44 := fun z => by
  have f : ∀ i j : Nat, ¬ (i = 284 ∧ j = 38) → ¬ i = 313 → rd m44 i j = rd m24 i j := fun i j p q => by rw [e44, rd_wt, if_neg p, e36, rd_wt, if_neg (by omega)]
  obtain ⟨a, b, c⟩ := h ((f 284 13 (by omega) (by omega)).symm.trans z)
  rw [n11, n44] at a b
  rw [n11] at c
  exact ⟨(f 284 44 (by omega) (by omega)).trans a, sgM_fr u.1 (fun i j q _ _ => f i j (by omega) (by omega)) b, (f 284 11 (by omega) (by omega)).trans c⟩
/-- one test of a law in the model's rows -/
def tsM (m : Mm) (lo hi b : Int) (x : Rp × Rp × Rp) : Prop := rd m 309 (Int.toNat b) = 1 ∧ lo ≤ rd m 310 (Int.toNat b) ∧ sgM m (rd m 310 (Int.toNat b)) x.1 ∧ rd m 311 (Int.toNat b) = rd m 310 (Int.toNat b) + (x.1.length : Int) ∧ sgM m (rd m 311 (Int.toNat b)) x.2.1 ∧ rd m 312 (Int.toNat b) = rd m 311 (Int.toNat b) + (x.2.1.length : Int) ∧ sgM m (rd m 312 (Int.toNat b)) x.2.2 ∧ rd m 313 (Int.toNat b) = rd m 312 (Int.toNat b) + (x.2.2.length : Int) ∧ rd m 313 (Int.toNat b) ≤ hi
def brP (m : Mm) (lo hi : Int) : Int → List (Rp × Rp × Rp) → Int → Prop
  | b, [], e => e = b
  | b, x :: r, e => tsM m lo hi b x ∧ brP m lo hi (b + 1) r e
/-- a law in the model's rows -/
def brL (m : Mm) (lo hi : Int) : Int → List (Rp × Rp × Rp) → Rp → Int → Prop
  | b, [], L, e => e = b + 1 ∧ rd m 309 (Int.toNat b) = 0 ∧ lo ≤ rd m 312 (Int.toNat b) ∧ sgM m (rd m 312 (Int.toNat b)) L ∧ rd m 313 (Int.toNat b) = rd m 312 (Int.toNat b) + (L.length : Int) ∧ rd m 313 (Int.toNat b) ≤ hi
  | b, x :: r, L, e => tsM m lo hi b x ∧ brL m lo hi (b + 1) r L e
theorem tsM_fr {m m2 : Mm} {lo hi hi2 b : Int} {x : Rp × Rp × Rp} (h : tsM m lo hi b x) (h0 : 0 ≤ lo) (hh : hi ≤ hi2) (f : ∀ i j : Nat, ((309 ≤ i ∧ i ≤ 313) ∧ j = Int.toNat b) ∨ ((i = 314 ∨ i = 315) ∧ lo ≤ (j : Int) ∧ (j : Int) < hi) → rd m2 i j = rd m i j) : tsM m2 lo hi2 b x := by
  obtain ⟨a1, a2, a3, a4, a5, a6, a7, a8, a9⟩ := h
  unfold tsM
  rw [f 309 _ (by omega), f 310 _ (by omega), f 311 _ (by omega), f 312 _ (by omega), f 313 _ (by omega)]
  exact ⟨a1, a2, sgM_fr (by omega) (fun i j q q1 q2 => f i j (by omega)) a3, a4, sgM_fr (by omega) (fun i j q q1 q2 => f i j (by omega)) a5, a6, sgM_fr (by omega) (fun i j q q1 q2 => f i j (by omega)) a7, a8, by omega⟩
theorem brP_le {m : Mm} {lo hi : Int} : ∀ {R : List (Rp × Rp × Rp)} {b e : Int}, brP m lo hi b R e → b ≤ e
  | [], b, e, h => by
    have : e = b := h
    omega
  | x :: R, b, e, h => by
    have := brP_le h.2
    omega
theorem brP_fr {m m2 : Mm} {lo hi hi2 : Int} (h0 : 0 ≤ lo) (hh : hi ≤ hi2) : ∀ {R : List (Rp × Rp × Rp)} {b e : Int}, 0 ≤ b → brP m lo hi b R e → (∀ i j : Nat, ((309 ≤ i ∧ i ≤ 313) ∧ b ≤ (j : Int) ∧ (j : Int) < e) ∨ ((i = 314 ∨ i = 315) ∧ lo ≤ (j : Int) ∧ (j : Int) < hi) → rd m2 i j = rd m i j) → brP m2 lo hi2 b R e
  | [], _, _, _, h, _ => h
  | x :: R, b, e, hb, h, f => by
    have le := brP_le h.2
    exact ⟨tsM_fr h.1 h0 hh (fun i j q => f i j (by omega)), brP_fr h0 hh (by omega) h.2 (fun i j q => f i j (by omega))⟩
theorem brP_app {m : Mm} {lo hi : Int} {x : Rp × Rp × Rp} : ∀ {R : List (Rp × Rp × Rp)} {b e : Int}, brP m lo hi b R e → tsM m lo hi e x → brP m lo hi b (R ++ [x]) (e + 1)
  | [], b, e, h, t => by
    have eb : e = b := h
    rw [eb] at t ⊢
    exact ⟨t, rfl⟩
  | y :: R, b, e, h, t => ⟨h.1, brP_app h.2 t⟩
theorem brL_app {m : Mm} {lo hi : Int} {L : Rp} : ∀ {R : List (Rp × Rp × Rp)} {b e : Int}, brP m lo hi b R e → brL m lo hi e [] L (e + 1) → brL m lo hi b R L (e + 1)
  | [], b, e, h, t => by
    have eb : e = b := h
    rw [eb] at t ⊢
    exact t
  | y :: R, b, e, h, t => ⟨h.1, brL_app h.2 t⟩
theorem brL_lt {m : Mm} {lo hi : Int} {L : Rp} : ∀ {R : List (Rp × Rp × Rp)} {b e : Int}, brL m lo hi b R L e → b < e
  | [], b, e, h => by
    have := h.1
    omega
  | y :: R, b, e, h => by
    have := brL_lt h.2
    omega
theorem brL_fr {m m2 : Mm} {lo hi hi2 : Int} {L : Rp} (h0 : 0 ≤ lo) (hh : hi ≤ hi2) : ∀ {R : List (Rp × Rp × Rp)} {b e : Int}, 0 ≤ b → brL m lo hi b R L e → (∀ i j : Nat, ((309 ≤ i ∧ i ≤ 313) ∧ b ≤ (j : Int) ∧ (j : Int) < e) ∨ ((i = 314 ∨ i = 315) ∧ lo ≤ (j : Int) ∧ (j : Int) < hi) → rd m2 i j = rd m i j) → brL m2 lo hi2 b R L e
  | [], b, e, hb, h, f => by
    obtain ⟨a1, a2, a3, a4, a5, a6⟩ := h
    show e = b + 1 ∧ rd m2 309 (Int.toNat b) = 0 ∧ lo ≤ rd m2 312 (Int.toNat b) ∧ sgM m2 (rd m2 312 (Int.toNat b)) L ∧ rd m2 313 (Int.toNat b) = rd m2 312 (Int.toNat b) + (L.length : Int) ∧ rd m2 313 (Int.toNat b) ≤ hi2
    rw [f 309 _ (by omega), f 312 _ (by omega), f 313 _ (by omega)]
    exact ⟨a1, a2, a3, sgM_fr (by omega) (fun i j q q1 q2 => f i j (by omega)) a4, a5, by omega⟩
  | y :: R, b, e, hb, h, f => by
    have lt := brL_lt h.2
    exact ⟨tsM_fr h.1 h0 hh (fun i j q => f i j (by omega)), brL_fr h0 hh (by omega) h.2 (fun i j q => f i j (by omega))⟩
/-- a law under way -/
def tlJ (K V : Int → Int) (m m2 : Mm) (n : Nat) : Prop := rd m2 284 13 = 0 → rd m 284 13 = 0 ∧ rd m 284 44 ≤ rd m2 284 44 ∧ ∃ R : List (Rp × Rp × Rp), brP m2 (rd m 284 44) (rd m2 284 44) (rd m 284 38) R (rd m2 284 38) ∧ LT K V 4 (rd m 284 11) = (R ++ (LT K V n (rd m2 284 11)).1, (LT K V n (rd m2 284 11)).2)
def tlK (K V : Int → Int) (m m2 : Mm) : Prop := rd m2 284 13 = 0 → rd m 284 13 = 0 ∧ rd m 284 44 ≤ rd m2 284 44 ∧ ∃ R : List (Rp × Rp × Rp), brP m2 (rd m 284 44) (rd m2 284 44) (rd m 284 38) R (rd m2 284 38) ∧ LT K V 4 (rd m 284 11) = (R, EM K V (rd m2 284 11) 0 0 [])
def tlF (K V : Int → Int) (m m2 : Mm) : Prop := rd m2 284 13 = 0 → rd m 284 13 = 0 ∧ brL m2 (rd m 284 44) (rd m2 284 44) (rd m 284 38) (LT K V 4 (rd m 284 11)).1 (LT K V 4 (rd m 284 11)).2 (rd m2 284 38)
theorem tlJ_0 {K V : Int → Int} {m : Mm} : tlJ K V m m 4 := fun z => ⟨z, Int.le_refl _, [], rfl, rfl⟩
theorem tlK_of {K V : Int → Int} {m m2 : Mm} {n : Nat} (h : tlJ K V m m2 n) (w : rd m2 284 13 = 0 → ¬ K (rd m2 284 11) = 9) : tlK K V m m2 := fun z => by
  obtain ⟨a, c, R, b, e⟩ := h z
  rw [LT_no (w z)] at e
  exact ⟨a, c, R, b, by rw [e]; simp⟩
theorem m38_j {K V : Int → Int} {m2 m12 m38 : Mm} {n : Nat} (h : m38 = m12 ∨ ¬ rd m38 284 13 = 0) (j : tlJ K V m2 m12 n) : tlJ K V m2 m38 n := by
  rcases h with h | h
  · rw [h]; exact j
  · exact fun z => absurd z h
theorem mu_z {m m2 : Mm} {k : Int} (u : muP m m2 k) (z : rd m2 284 13 = 0) : rd m 284 13 = 0 ∧ rd m2 284 11 = rd m 284 11 + 1 := by
  unfold muP at u
  omega
theorem tm_b {K V : Int → Int} {m2 m38 m50 m62 m75 m77 m83 m98 m110 m113 m117 m123 : Mm} {S : Int} {n : Nat} (h : tlJ K V m2 m38 (n + 1)) (k38 : rd m38 284 13 = 0 → K (rd m38 284 11) = 9) (go : goP m38 m50) (f50 : ftRel m38 m50) (e62 : m62 = wt m50 309 (Int.toNat (rd m50 284 38)) (nz 1)) (e75 : m75 = wt m62 310 (Int.toNat (rd m62 284 38)) (rd m62 284 44))
    (x77 : exP m75 m77 S) (q77 : tmM K V m75 m77) (u83 : muP m77 m83 13) (f83 : ftRel m77 m83) (e98 : m98 = wt m83 311 (Int.toNat (rd m83 284 38)) (rd m83 284 44)) (x110 : exP m98 m110 S) (q110 : tmM K V m98 m110)
    (u113 : muP m110 m113 30) (f113 : ftRel m110 m113) (x117 : teP m113 m117 S) (q117 : tmM K V m113 m117) (u123 : muP m117 m123 31) (f123 : ftRel m117 m123) (hb : 0 ≤ rd m38 284 38 ∧ rd m38 284 38 ≤ 260) (hc : 0 ≤ rd m38 284 44 ∧ rd m38 284 44 ≤ 840) (hc2 : 0 ≤ rd m2 284 44 ∧ rd m2 284 44 ≤ 840) (hb2 : 0 ≤ rd m2 284 38 ∧ rd m2 284 38 ≤ 260) : tlJ K V m2 m123 n := by
  intro z123
  have y123 := mu_z u123 z123
  have x7 := x117.2.2.2.2.2.2.1 y123.1
  have y113 := mu_z u113 x7.1
  have z98 := x110.1.2.2.2.2 y113.1
  have z83 : rd m83 284 13 = 0 := by
    rw [e98, rd_wt, if_neg (by omega)] at z98; exact z98
  have y83 := mu_z u83 z83
  have z75 := x77.1.2.2.2.2 y83.1
  have z50 : rd m50 284 13 = 0 := by
    rw [e75, rd_wt, if_neg (by omega), e62, rd_wt, if_neg (by omega)] at z75; exact z75
  have g50 : rd m38 284 13 = 0 ∧ rd m50 284 11 = rd m38 284 11 + 1 := by unfold goP at go; omega
  obtain ⟨z2, cle, R, B, E⟩ := h g50.1
  obtain ⟨a77, s77, t77⟩ := q77 y83.1
  obtain ⟨a110, s110, t110⟩ := q110 y113.1
  obtain ⟨a117, s117, t117⟩ := q117 y123.1
  -- what stays: b, codes, tokens
  have w75 : ∀ i j : Nat, ¬ (i = 309 ∧ (j : Int) = rd m50 284 38) → ¬ (i = 310 ∧ (j : Int) = rd m50 284 38) → rd m75 i j = rd m50 i j := fun i j p q => by
    have e62b : rd m62 284 38 = rd m50 284 38 := by rw [e62, rd_wt, if_neg (by omega)]
    rw [e75, e62b, rd_wt, if_neg (by have := f50 284 38 (by omega); omega), e62, rd_wt, if_neg (by have := f50 284 38 (by omega); omega)]
  have b50 : rd m50 284 38 = rd m38 284 38 := f50 284 38 (by omega)
  have b75 : rd m75 284 38 = rd m38 284 38 := (w75 284 38 (by omega) (by omega)).trans b50
  have c75 : rd m75 284 44 = rd m38 284 44 := (w75 284 44 (by omega) (by omega)).trans (f50 284 44 (by omega))
  have t75 : rd m75 284 11 = rd m38 284 11 + 1 := (w75 284 11 (by omega) (by omega)).trans g50.2
  have X77 := x77.1.1
  have b77 : rd m77 284 38 = rd m38 284 38 := (X77 284 38 (by omega) (by omega) (by omega)).trans b75
  have b83 : rd m83 284 38 = rd m38 284 38 := (f83 284 38 (by omega)).trans b77
  have c83 : rd m83 284 44 = rd m77 284 44 := f83 284 44 (by omega)
  have w98 : ∀ i j : Nat, ¬ (i = 311 ∧ (j : Int) = rd m38 284 38) → rd m98 i j = rd m83 i j := fun i j p => by rw [e98, b83, rd_wt, if_neg (by omega)]
  have b98 : rd m98 284 38 = rd m38 284 38 := (w98 284 38 (by omega)).trans b83
  have c98 : rd m98 284 44 = rd m77 284 44 := (w98 284 44 (by omega)).trans c83
  have t98 : rd m98 284 11 = rd m83 284 11 := w98 284 11 (by omega)
  have X110 := x110.1.1
  have b110 : rd m110 284 38 = rd m38 284 38 := (X110 284 38 (by omega) (by omega) (by omega)).trans b98
  have b113 : rd m113 284 38 = rd m38 284 38 := (f113 284 38 (by omega)).trans b110
  have c113 : rd m113 284 44 = rd m110 284 44 := f113 284 44 (by omega)
  obtain ⟨p1, p2, p3, -, -, -, -, X117⟩ := x117
  have b123 : rd m123 284 38 = rd m38 284 38 + 1 := (f123 284 38 (by omega)).trans (by omega)
  have c123 : rd m123 284 44 = rd m117 284 44 := f123 284 44 (by omega)
  have eb : ∀ m' : Mm, rd m' 284 38 = rd m38 284 38 → Int.toNat (rd m' 284 38) = Int.toNat (rd m38 284 38) := fun _ q => by rw [q]
  -- from m77 on, below the codes written; from m38 on
  have F77 : ∀ i j : Nat, ((309 ≤ i ∧ i ≤ 310) ∧ j = Int.toNat (rd m38 284 38)) ∨ ((i = 314 ∨ i = 315) ∧ (j : Int) < rd m77 284 44) → rd m123 i j = rd m77 i j := fun i j q => by
    rw [f123 i j (by omega), X117 i j (by omega) (by omega) (by omega) (by omega), f113 i j (by omega), X110 i j (by omega) (by omega) (by omega), w98 i j (by omega), f83 i j (by omega)]
  have F38 : ∀ i j : Nat, ((309 ≤ i ∧ i ≤ 313) ∧ (j : Int) < rd m38 284 38) ∨ ((i = 314 ∨ i = 315) ∧ (j : Int) < rd m38 284 44) → rd m123 i j = rd m38 i j := fun i j q => by
    rw [f123 i j (by omega), X117 i j (by omega) (by omega) (by omega) (by omega), f113 i j (by omega), X110 i j (by omega) (by omega) (by omega), w98 i j (by omega), f83 i j (by omega), X77 i j (by omega) (by omega) (by omega), w75 i j (by omega) (by omega), f50 i j (by omega)]
  have r309 : rd m123 309 (Int.toNat (rd m38 284 38)) = 1 := by
    rw [F77 309 _ (by omega), X77 309 _ (by omega) (by omega) (by omega), e75, rd_wt, if_neg (by omega), e62, b50, rd_wt, if_pos ⟨rfl, rfl⟩]
    exact nz1
  have r310 : rd m123 310 (Int.toNat (rd m38 284 38)) = rd m38 284 44 := by
    have e62b : rd m62 284 38 = rd m38 284 38 := by rw [e62, rd_wt, if_neg (by omega)]; exact b50
    rw [F77 310 _ (by omega), X77 310 _ (by omega) (by omega) (by omega), e75, e62b, rd_wt, if_pos ⟨rfl, rfl⟩, wr_i (rd_rg _ _ _), e62, rd_wt, if_neg (by omega)]
    exact f50 284 44 (by omega)
  have r311 : rd m123 311 (Int.toNat (rd m38 284 38)) = rd m77 284 44 := by
    rw [f123 311 _ (by omega), X117 311 _ (by omega) (by omega) (by omega) (by omega), f113 311 _ (by omega), X110 311 _ (by omega) (by omega) (by omega), e98, b83, rd_wt, if_pos ⟨rfl, rfl⟩, wr_i (rd_rg _ _ _), c83]
  have r312 : rd m123 312 (Int.toNat (rd m38 284 38)) = rd m110 284 44 := by
    rw [f123 312 _ (by omega), ← eb m113 b113, p2, c113]
  have r313 : rd m123 313 (Int.toNat (rd m38 284 38)) = rd m117 284 44 := by
    rw [f123 313 _ (by omega), ← eb m113 b113, p3]
  rw [c75] at s77 a77
  rw [c98] at s110 a110
  rw [c113] at s117 a117
  have LTE := LT_if (V := V) (n := n) (t1 := rd m77 284 11) (t2 := rd m110 284 11) (t3 := rd m117 284 11) (k38 g50.1) (by rw [t77, t75]) (by rw [t110, t98, y83.2]) (by rw [t117, y113.2])
  refine ⟨z2, by omega, R ++ [(EM K V (rd m75 284 11) 0 0 [], EM K V (rd m98 284 11) 0 0 [], EM K V (rd m113 284 11) 0 0 [])], ?_, ?_⟩
  · rw [b123]
    refine brP_app (brP_fr hc2.1 (by omega) hb2.1 B (fun i j q => F38 i j (by omega))) ⟨r309, by omega, ?_, ?_, ?_, ?_, ?_, ?_, ?_⟩
    · rw [r310]; exact sgM_fr (L := EM K V (rd m75 284 11) 0 0 []) hc.1 (fun i j q q1 q2 => F77 i j (by omega)) s77
    · rw [r310, r311]; exact a77
    · rw [r311]; exact sgM_fr (L := EM K V (rd m98 284 11) 0 0 []) (by omega) (fun i j q q1 q2 => by
        rw [f123 i j (by omega), X117 i j (by omega) (by omega) (by omega) (by omega), f113 i j (by omega)]) s110
    · rw [r311, r312]; exact a110
    · rw [r312]; exact sgM_fr (L := EM K V (rd m113 284 11) 0 0 []) (by omega) (fun i j q q1 q2 => f123 i j (by omega)) s117
    · rw [r312, r313]; exact a117
    · omega
  · rw [E, LTE, y123.2, t75, t98, y83.2, y113.2]
    simp
theorem tm_l {K V : Int → Int} {m2 m129 m138 m140 m145 : Mm} {S : Int} (h : tlK K V m2 m129) (e138 : m138 = wt m129 309 (Int.toNat (rd m129 284 38)) (nz 0)) (x140 : teP m138 m140 S) (q140 : tmM K V m138 m140) (f145 : ftRel m140 m145) (u145 : muP m140 m145 4) (hb : 0 ≤ rd m129 284 38 ∧ rd m129 284 38 ≤ 260) (hc2 : 0 ≤ rd m2 284 44 ∧ rd m2 284 44 ≤ 840) (hb2 : 0 ≤ rd m2 284 38 ∧ rd m2 284 38 ≤ 260) : tlF K V m2 m145 := by
  intro z
  have y := mu_z u145 z
  obtain ⟨a, sg, -⟩ := q140 y.1
  obtain ⟨p1, p2, p3, -, -, -, p7, X⟩ := x140
  have z138 := (p7 y.1).1
  have w : ∀ i j : Nat, ¬ (i = 309 ∧ (j : Int) = rd m129 284 38) → rd m138 i j = rd m129 i j := fun i j p => by rw [e138, rd_wt, if_neg (by omega)]
  have z129 : rd m129 284 13 = 0 := (w 284 13 (by omega)).symm.trans z138
  obtain ⟨z2, cle, R, B, E⟩ := h z129
  have b138 := w 284 38 (by omega)
  have c138 := w 284 44 (by omega)
  have t138 := w 284 11 (by omega)
  have b145 := f145 284 38 (by omega)
  have c145 := f145 284 44 (by omega)
  rw [t138] at a sg
  rw [c138] at a sg p2
  rw [b138] at p1 p2 p3
  refine ⟨z2, ?_⟩
  rw [E, b145, p1]
  refine brL_app (brP_fr hc2.1 (by omega) hb2.1 B (fun i j q => ?_)) ⟨rfl, ?_, ?_, ?_, ?_, ?_⟩
  · rw [f145 i j (by omega), X i j (by omega) (by omega) (by omega) (by omega), w i j (by omega)]
  · rw [f145 309 _ (by omega), X 309 _ (by omega) (by omega) (by omega) (by omega), e138, rd_wt, if_pos ⟨rfl, rfl⟩]
    exact nz0
  · rw [f145 312 _ (by omega), p2]; exact cle
  · rw [f145 312 _ (by omega), p2]
    exact sgM_fr (by omega) (fun i j q q1 q2 => f145 i j (by omega)) sg
  · rw [f145 312 _ (by omega), f145 313 _ (by omega), p2, p3]; exact a
  · rw [f145 313 _ (by omega), p3, c145]; exact Int.le_refl _
/-- a law's sentence, whole -/
def lwM (K V : Int → Int) (m m2 : Mm) (x1 S : Int) : Prop := rd m2 284 13 = 0 → rd m2 307 (Int.toNat (4 * S + x1)) = rd m 284 38 ∧ rd m2 308 (Int.toNat (4 * S + x1)) = rd m2 284 38 ∧ brL m2 (rd m 284 44) (rd m2 284 44) (rd m 284 38) (LT K V 4 (rd m 284 11 + 1)).1 (LT K V 4 (rd m 284 11 + 1)).2 (rd m2 284 38) ∧ (∀ i j : Nat, (i = 307 ∨ i = 308) → ¬ (j : Int) = 4 * S + x1 → rd m2 i j = rd m i j) ∧ ∀ i j : Nat, ((309 ≤ i ∧ i ≤ 313) ∧ (j : Int) < rd m 284 38) ∨ ((i = 314 ∨ i = 315) ∧ (j : Int) < rd m 284 44) → rd m2 i j = rd m i j
theorem tm_w {K V : Int → Int} {m m2 m145 m169 m186 : Mm} {S x1 z9 : Int} (p0 : 0 ≤ x1 ∧ x1 ≤ 3) (hs : 0 ≤ S ∧ S ≤ 1) (h : tlF K V m2 m145) (b2 : rd m2 284 38 = rd m 284 38) (u : rd m2 284 13 = 0 → muP m m2 5) (e9 : z9 = rd m2 284 38) (s145 : rd m145 284 19 = S) (e169 : m169 = wt m145 307 (Int.toNat (wr ((wr (4 * (rd m145 284 19))) + x1))) z9) (e186 : m186 = wt m169 308 (Int.toNat (wr ((wr (4 * (rd m169 284 19))) + x1))) (rd m169 284 38)) (fr : tlFr m m145) (c2 : rd m2 284 44 = rd m 284 44) (tc : 0 ≤ rd m 284 44 ∧ rd m 284 44 ≤ 840) (tb : 0 ≤ rd m 284 38 ∧ rd m 284 38 ≤ 260) : lwM K V m m186 x1 S := by
  intro z
  have w4 : wr (4 * S) = 4 * S := wr_id (by omega) (by omega)
  have w5 : wr (4 * S + x1) = 4 * S + x1 := wr_id (by omega) (by omega)
  rw [s145, w4, w5] at e169
  have s169 : rd m169 284 19 = S := by rw [e169, rd_wt, if_neg (by omega)]; exact s145
  rw [s169, w4, w5] at e186
  have f : ∀ i j : Nat, ¬ ((i = 307 ∨ i = 308) ∧ j = Int.toNat (4 * S + x1)) → rd m186 i j = rd m145 i j := fun i j q => by rw [e186, rd_wt, if_neg (by omega), e169, rd_wt, if_neg (by omega)]
  have b169 : rd m169 284 38 = rd m145 284 38 := by rw [e169, rd_wt, if_neg (by omega)]
  have b186 := f 284 38 (by omega)
  have c186 := f 284 44 (by omega)
  obtain ⟨z2, B⟩ := h ((f 284 13 (by omega)).symm.trans z)
  have t2 := (mu_z (u z2) z2).2
  rw [c2, b2, t2] at B
  have r9 : rg z9 := by rw [e9]; exact rd_rg _ _ _
  refine ⟨?_, ?_, ?_, fun i j q p => ?_, fun i j q => ?_⟩
  · rw [e186, rd_wt, if_neg (by omega), e169, rd_wt, if_pos ⟨rfl, rfl⟩, wr_i r9, e9, b2]
  · rw [b186, e186, rd_wt, if_pos ⟨rfl, rfl⟩, wr_i (rd_rg _ _ _), b169]
  · rw [b186, c186]
    exact brL_fr tc.1 (Int.le_refl _) tb.1 B (fun i j q => f i j (by omega))
  · rw [f i j (by omega)]
    exact fr i j (by omega) (by omega) (by omega) (by omega)
  · rw [f i j (by omega)]
    exact fr i j (by omega) (by omega) (by omega) (by omega)
-- TippedCratesModel.term()V
set_option maxRecDepth 20000 in
theorem mz_196 {m0 m : Mm}  {N : Int} {s : Ps} (g_m : PX m0 m)  (p0 : 0 ≤ rd m 284 13) (p1 : rd m 284 13 = 0 → rd m 284 12 = 0 ∧ 420 * rd m0 284 19 ≤ rd m 284 44 ∧ rd m 284 44 - 420 * rd m0 284 19 ≤ rd m 284 11) (p2 : 130 * rd m0 284 19 ≤ rd m 284 38 ∧ rd m 284 38 < 130 * rd m0 284 19 + 130) (p3 : tkN m0 N) (p4 : RM (tX m0) N (rd m0 284 19) (s) m) : CV 5 196 [.ref 284] m (fun m2 => PX m0 m2 ∧ (((teP m m2 (rd m0 284 19)) ∧ (RM (tX m0) N (rd m0 284 19) (pS (tX m0) s) m2)) ∧ (tmM (kC m0) (vC m0) m m2))) := by
  refine br_196  ?_
  unfold P_196
  have hs := PX.s g_m
  have tc := ty_284_44 g_m.1
  have t1 := ty_284_38 g_m.1
  refine ⟨⟨by omega, by omega⟩, ?_⟩
  have t2 := ty_284_44 g_m.1
  intro m12 e_m12
  have g_m12 : PX m0 m12 := by rw [e_m12]; exact PX.wt g_m (tw_312 g_m.1 ⟨by omega, by omega⟩) (inP_130 (by omega) (by omega))
  have n11 : rd m12 284 11 = rd m 284 11 := by rw [e_m12, rd_wt, if_neg (by omega)]
  have n12 : rd m12 284 12 = rd m 284 12 := by rw [e_m12, rd_wt, if_neg (by omega)]
  have n13 : rd m12 284 13 = rd m 284 13 := by rw [e_m12, rd_wt, if_neg (by omega)]
  have n38 : rd m12 284 38 = rd m 284 38 := by rw [e_m12, rd_wt, if_neg (by omega)]
  have n44 : rd m12 284 44 = rd m 284 44 := by rw [e_m12, rd_wt, if_neg (by omega)]
  have r12 := rm_wt p4 (Or.inr (by omega)) e_m12
  refine ⟨fun m_24 => PX m0 m_24 ∧ (((exP m12 m_24 (rd m0 284 19)) ∧ (RM (tX m0) N (rd m0 284 19) (pS (tX m0) s) m_24)) ∧ (tmM (kC m0) (vC m0) m12 m_24)), ?_, ?_⟩
  · skip
    refine ⟨fun hq => ?_, fun hq => ?_⟩
    · skip
      exact ⟨g_m12, by exact ⟨by exact ⟨by first | exact exP_f (exF_rf (by omega)) (by omega) | exact h_m21, by first | exact rm_S r12 p3 x_m21 h_m21.1.1 l_m21 | exact rm_S0 r12 hq⟩, by first | exact tmm_of q_m21 x_m21 h_m21 | exact fun z => absurd z (by omega)⟩⟩
    · skip
      refine CV.mono (mz_199   g_m12 (by omega) (fun h => by have := p1 (by omega); omega) p3 (rn_N r12)) (by decide) ?_
      rintro m21 ⟨g_m21, h_m21⟩
      obtain ⟨h_m21, q_m21⟩ := h_m21
      obtain ⟨⟨h_m21, x_m21⟩, l_m21⟩ := h_m21
      exact ⟨g_m21, by exact ⟨by exact ⟨by first | exact exP_f (exF_rf (by omega)) (by omega) | exact h_m21, by first | exact rm_S r12 p3 x_m21 h_m21.1.1 l_m21 | exact rm_S0 r12 hq⟩, by first | exact tmm_of q_m21 x_m21 h_m21 | exact fun z => absurd z (by omega)⟩⟩
  · intro m_24  hR_24
    obtain ⟨g_m_24, hR_24⟩ := hR_24
    obtain ⟨hR_24, dR_24⟩ := hR_24
    obtain ⟨hR_24, cR_24⟩ := hR_24
    have b24 : rd m_24 284 38 = rd m 284 38 := (hR_24.1.1 284 38 (by omega) (by omega) (by omega)).trans n38
    have tc24 := ty_284_44 g_m_24.1
    have t4 := ty_284_38 g_m_24.1
    refine ⟨⟨by omega, by omega⟩, ?_⟩
    have t5 := ty_284_44 g_m_24.1
    intro m36 e_m36
    have g_m36 : PX m0 m36 := by rw [e_m36]; exact PX.wt g_m_24 (tw_313 g_m_24.1 ⟨by omega, by omega⟩) (inP_130 (by omega) (by omega))
    have b36 : rd m36 284 38 = rd m 284 38 := by rw [e_m36, rd_wt, if_neg (by omega)]; exact b24
    have t6 := ty_284_38 g_m36.1
    try have w7 : wr ((rd m36 284 38) + 1) = (rd m36 284 38) + 1 := wr_id (by omega) (by omega)
    intro m44 e_m44
    have g_m44 : PX m0 m44 := by rw [e_m44]; exact PX.wt g_m36 (tw_284_38 g_m36.1 ⟨by omega, by omega⟩) (inP_284 (by omega))
    have r44 := rm_wt (rm_wt cR_24 (Or.inr (by omega)) e_m36) (Or.inl (by omega)) e_m44
    exact ⟨g_m44, by exact ⟨by exact ⟨by exact te_of (by omega) (by omega) e_m12 hR_24 e_m36 e_m44, by exact r44⟩, by exact tm_te dR_24 n11 n44 e_m36 e_m44 (ty_284_44 g_m.1)⟩⟩
-- TippedCratesModel.tellLaw(I)V
set_option maxRecDepth 20000 in
set_option maxHeartbeats 4000000 in
theorem mz_195 {m0 m : Mm} {x1 : Int} {N : Int} {s : Ps} (g_m : PX m0 m) (r_x1 : rg x1) (p0 : 0 ≤ x1 ∧ x1 ≤ 3) (p1 : 0 ≤ rd m 284 13) (p2 : rd m 284 13 = 0 → rd m 284 12 = 0 ∧ 420 * rd m0 284 19 ≤ rd m 284 44 ∧ rd m 284 44 - 420 * rd m0 284 19 ≤ rd m 284 11) (p3 : (130 * rd m0 284 19 ≤ rd m 284 38 ∧ rd m 284 38 ≤ 130 * rd m0 284 19 + 100) ∧ (rd m 284 13 = 0 → 4 * (rd m 284 38 - 130 * rd m0 284 19) + 1 ≤ rd m 284 11)) (p4 : tkN m0 N) (p5 : RM (tX m0) N (rd m0 284 19) (s) m) : CV 6 195 [.ref 284, iv x1] m (fun m2 => PX m0 m2 ∧ (((tlP m m2 (rd m0 284 19) x1) ∧ (RM (tX m0) N (rd m0 284 19) (pT (tX m0) 59 (pS (tX m0) (pRm (tX m0) (pIfs (tX m0) 4 (pT (tX m0) 61 s))))) m2)) ∧ (lwM (kC m0) (vC m0) m m2 x1 (rd m0 284 19)))) := by
  refine br_195 r_x1 ?_
  unfold P_195
  have hs := PX.s g_m
  have tt := ty_284_11 g_m.1
  refine CV.mono (mx_184   g_m.1 (by unfold rg; decide) (by omega)) (by decide) ?_
  rintro m2 ⟨hx_m2, h_m2⟩
  have g_m2 : PX m0 m2 := PX.ft g_m hx_m2
  obtain ⟨h_m2, u_m2⟩ := h_m2
  have ft2 := ft_go hx_m2 h_m2.2.2.1.1 h_m2.2.2.1.2
  have b2 : rd m2 284 38 = rd m 284 38 := ft2 284 38 (by omega)
  have r2 := rm_mu p5 p4 g_m hx_m2 (K := 61) (fun _ _ h => (km_v h).2.1) (by decide) u_m2
  have t1 := ty_284_38 g_m2.1
  intro z2_9 e_z2_9
  have r_z2_9 : rg z2_9 := by rw [e_z2_9]; exact (rd_rg _ _ _)
  refine ⟨fun x3_12 m_12 => PX m0 m_12 ∧ (((tlI m m_12 (rd m0 284 19) ∧ rd m_12 284 38 ≤ 130 * rd m0 284 19 + 100 ∧ (rd m_12 284 13 = 0 → 4 * (rd m_12 284 38 - 130 * rd m0 284 19) + 2 ≤ rd m_12 284 11)) ∧ (∃ s2 : Ps, RM (tX m0) N (rd m0 284 19) (s2) m_12 ∧ (0 ≤ x3_12 ∧ x3_12 ≤ 4) ∧ pIfs (tX m0) (Int.toNat (4 - x3_12)) s2 = (pIfs (tX m0) 4 (pT (tX m0) 61 s)))) ∧ (tlJ (kC m0) (vC m0) m2 m_12 (Int.toNat (4 - x3_12)))), fun x3_12 m_12 => Int.toNat (10000 - rd m_12 284 11 - 1000 * rd m_12 284 13), ?_, ?_⟩
  · exact ⟨g_m2, by exact ⟨by exact ⟨by exact ⟨tl_0 ft2 (by omega) (by omega) (fun h => (h_m2.1 h).1) (fun h => by have := p2 h; have := ft2 284 12 (by omega); have := ft2 284 44 (by omega); omega), by omega, fun h => by have := h_m2.1 h; have := p3.2 this.1; omega⟩, by exact ⟨_, r2, by omega, rfl⟩⟩, by exact tlJ_0⟩⟩
  · intro x3_12 m_12 r_x3_12 hI_12
    obtain ⟨g_m_12, hI_12⟩ := hI_12
    obtain ⟨hI_12, dI_12⟩ := hI_12
    obtain ⟨hI_12, cI_12⟩ := hI_12
    have f12 := hI_12.1.2.1
    have t12 := ty_284_11 g_m_12.1
    obtain ⟨s2, ra, rx, rb⟩ := cI_12
    refine ⟨fun m_129 => PX m0 m_129 ∧ (((tlI m m_129 (rd m0 284 19) ∧ rd m_129 284 38 ≤ 130 * rd m0 284 19 + 100 ∧ (rd m_129 284 13 = 0 → 4 * (rd m_129 284 38 - 130 * rd m0 284 19) + 2 ≤ rd m_129 284 11)) ∧ (RM (tX m0) N (rd m0 284 19) (pRm (tX m0) (pIfs (tX m0) 4 (pT (tX m0) 61 s))) m_129)) ∧ (tlK (kC m0) (vC m0) m2 m_129)), ?_, ?_⟩
    · skip
      refine ⟨fun hq => ?_, fun hq => ?_⟩
      · skip
        exact ⟨g_m_12, by exact ⟨by exact ⟨by exact hI_12, by first | exact tl_x ra p4 g_m_12 rb (Or.inl (by omega)) | exact tl_x ra p4 g_m_12 rb (Or.inr (by omega))⟩, by first | exact fun z => absurd z (by omega) | exact tlK_of dI_12 (fun z k => absurd ((km_v (rm_k ra p4 g_m_12 z).1).2.2.2.2.2.2.1.mpr k) (by omega))⟩⟩
      · skip
        refine CK.mono (ct_180   g_m_12.1 (by unfold rg; decide)) (by decide) ?_
        rintro m22 v22 r_v22 ⟨e_m22, h_m22⟩
        replace e_m22 := e_m22.symm
        subst e_m22
        refine ⟨fun hq => ?_, fun hq => ?_⟩
        · skip
          exact ⟨g_m_12, by exact ⟨by exact ⟨by exact hI_12, by first | exact tl_x ra p4 g_m_12 rb (Or.inl (by omega)) | exact tl_x ra p4 g_m_12 rb (Or.inr (by omega))⟩, by first | exact fun z => absurd z (by omega) | exact tlK_of dI_12 (fun z k => absurd ((km_v (rm_k ra p4 g_m_12 z).1).2.2.2.2.2.2.1.mpr k) (by omega))⟩⟩
        · skip
          refine ⟨fun m_38 => PX m0 m_38 ∧ (((ftRel m_12 m_38 ∧ 0 ≤ rd m_38 284 13 ∧ rd m_38 284 11 = rd m_12 284 11 ∧ (rd m_38 284 13 = 0 → rd m_12 284 13 = 0)) ∧ ((¬ x3_12 = 4 ∧ m_38 = m_12) ∨ (x3_12 = 4 ∧ RM (tX m0) N (rd m0 284 19) (pF (tX m0) 2 s2) m_38 ∧ ¬ rd m_38 284 13 = 0))) ∧ (m_38 = m_12 ∨ ¬ rd m_38 284 13 = 0)), ?_, ?_⟩
          · skip
            refine ⟨fun hq => ?_, fun hq => ?_⟩
            · skip
              exact ⟨g_m_12, by exact ⟨by exact ⟨by first | exact ⟨fun _ _ _ => rfl, by omega, rfl, fun h => h⟩ | exact ⟨ft_go hx_m35 h_m35.2.2.1 h_m35.2.2.2, by omega, by omega, fun h => by omega⟩, by first | exact Or.inl ⟨by omega, rfl⟩ | exact Or.inr ⟨by omega, rm_F ra p4 g_m_12 (by decide) h_m35, by omega⟩⟩, by first | exact Or.inl rfl | exact Or.inr (by omega)⟩⟩
            · skip
              refine CV.mono (ct_181   g_m_12.1 (by unfold rg; decide) (by omega) (by omega)) (by decide) ?_
              rintro m35 ⟨hx_m35, h_m35⟩
              have g_m35 : PX m0 m35 := PX.ft g_m_12 hx_m35
              exact ⟨g_m35, by exact ⟨by exact ⟨by first | exact ⟨fun _ _ _ => rfl, by omega, rfl, fun h => h⟩ | exact ⟨ft_go hx_m35 h_m35.2.2.1 h_m35.2.2.2, by omega, by omega, fun h => by omega⟩, by first | exact Or.inl ⟨by omega, rfl⟩ | exact Or.inr ⟨by omega, rm_F ra p4 g_m_12 (by decide) h_m35, by omega⟩⟩, by first | exact Or.inl rfl | exact Or.inr (by omega)⟩⟩
          · intro m_38  hR_38
            obtain ⟨g_m_38, hR_38⟩ := hR_38
            obtain ⟨hR_38, dR_38⟩ := hR_38
            obtain ⟨hR_38, cR_38⟩ := hR_38
            have tl38 := tlI_ft hI_12.1 hR_38.1 (by omega) (by omega) (fun h => by omega)
            have hTL := tl38
            have b38 : rd m_38 284 38 = rd m_12 284 38 := hR_38.1 284 38 (by omega)
            have c38b := hTL.2.2.2.1
            have bl38 := hTL.2.2.2.2.1
            have z38 := hTL.2.2.2.2.2
            refine ⟨fun hq => ?_, fun hq => ?_⟩
            · skip
              try have w4 : wr (x3_12 + 1) = x3_12 + 1 := wr_id (by omega) (by omega)
              intro z3_46 e_z3_46
              have r_z3_46 : rg z3_46 := by rw [e_z3_46]; exact wr_rg _
              refine CV.mono (ct_183   g_m_38.1 (by omega)) (by decide) ?_
              rintro m50 ⟨hx_m50, h_m50⟩
              have g_m50 : PX m0 m50 := PX.ft g_m_38 hx_m50
              have ft50 := ft_go hx_m50 h_m50.2.1 h_m50.2.2
              have b50 : rd m50 284 38 = rd m_38 284 38 := ft50 284 38 (by omega)
              have tc50 := ty_284_44 g_m50.1
              have r38 : RM (tX m0) N (rd m0 284 19) (s2) m_38 := m38_ok cR_38 (by omega) ra
              have r50 := rm_go r38 p4 g_m_38 hx_m50 (K := 9) (fun _ _ h => (km_v h).2.2.2.2.2.2.1) (by decide) (m38_k cR_38 (by omega) (by omega)) (by omega) h_m50
              have t5 := ty_284_38 g_m50.1
              refine ⟨⟨by omega, by omega⟩, ?_⟩
              intro m62 e_m62
              have g_m62 : PX m0 m62 := by rw [e_m62]; exact PX.wt g_m50 (tw_309 g_m50.1 (nz_rg _)) (inP_130 (by omega) (by omega))
              have b62 : rd m62 284 38 = rd m_38 284 38 := by rw [e_m62, rd_wt, if_neg (by omega)]; exact b50
              have c62 : rd m62 284 44 = rd m50 284 44 := by rw [e_m62, rd_wt, if_neg (by omega)]
              have t6 := ty_284_38 g_m62.1
              refine ⟨⟨by omega, by omega⟩, ?_⟩
              have t7 := ty_284_44 g_m62.1
              intro m75 e_m75
              have g_m75 : PX m0 m75 := by rw [e_m75]; exact PX.wt g_m62 (tw_310 g_m62.1 ⟨by omega, by omega⟩) (inP_130 (by omega) (by omega))
              have q75_11 : rd m75 284 11 = rd m50 284 11 := by rw [e_m75, rd_wt, if_neg (by omega), e_m62, rd_wt, if_neg (by omega)]
              have q75_12 : rd m75 284 12 = rd m50 284 12 := by rw [e_m75, rd_wt, if_neg (by omega), e_m62, rd_wt, if_neg (by omega)]
              have q75_13 : rd m75 284 13 = rd m50 284 13 := by rw [e_m75, rd_wt, if_neg (by omega), e_m62, rd_wt, if_neg (by omega)]
              have q75_38 : rd m75 284 38 = rd m50 284 38 := by rw [e_m75, rd_wt, if_neg (by omega), e_m62, rd_wt, if_neg (by omega)]
              have q75_44 : rd m75 284 44 = rd m50 284 44 := by rw [e_m75, rd_wt, if_neg (by omega), e_m62, rd_wt, if_neg (by omega)]
              have c38 : rd m50 284 44 = rd m_38 284 44 := ft50 284 44 (by omega)
              have o38 : rd m50 284 12 = rd m_38 284 12 := ft50 284 12 (by omega)
              have r75 := rm_wt (rm_wt r50 (Or.inr (by omega)) e_m62) (Or.inr (by omega)) e_m75
              refine CV.mono (mz_199   g_m75 (by omega) (fun h => by have := z38 (by omega); omega) p4 (rn_N r75)) (by decide) ?_
              rintro m77 ⟨g_m77, h_m77⟩
              obtain ⟨h_m77, q_m77⟩ := h_m77
              obtain ⟨⟨h_m77, x_m77⟩, l_m77⟩ := h_m77
              have b77 : rd m77 284 38 = rd m_38 284 38 := (h_m77.1.1 284 38 (by omega) (by omega) (by omega)).trans (q75_38.trans b50)
              have f77 := h_m77.1.2.1
              have t77 := h_m77.1.2.2.1
              have z77 := h_m77.1.2.2.2.2
              have r77 := rm_S r75 p4 x_m77 h_m77.1.1 l_m77
              refine CV.mono (mx_184   g_m77.1 (by unfold rg; decide) (by omega)) (by decide) ?_
              rintro m83 ⟨hx_m83, h_m83⟩
              have g_m83 : PX m0 m83 := PX.ft g_m77 hx_m83
              obtain ⟨h_m83, u_m83⟩ := h_m83
              have ft83 := ft_go hx_m83 h_m83.2.2.1.1 h_m83.2.2.1.2
              have b83 : rd m83 284 38 = rd m_38 284 38 := (ft83 284 38 (by omega)).trans b77
              have tc83 := ty_284_44 g_m83.1
              have c83 : rd m83 284 44 = rd m77 284 44 := ft83 284 44 (by omega)
              have o83 : rd m83 284 12 = rd m77 284 12 := ft83 284 12 (by omega)
              have r83 := rm_mu r77 p4 g_m77 hx_m83 (K := 60) (fun _ _ h => (km_v h).2.2.1) (by decide) u_m83
              have t8 := ty_284_38 g_m83.1
              refine ⟨⟨by omega, by omega⟩, ?_⟩
              have t9 := ty_284_44 g_m83.1
              intro m98 e_m98
              have g_m98 : PX m0 m98 := by rw [e_m98]; exact PX.wt g_m83 (tw_311 g_m83.1 ⟨by omega, by omega⟩) (inP_130 (by omega) (by omega))
              have q98_11 : rd m98 284 11 = rd m83 284 11 := by rw [e_m98, rd_wt, if_neg (by omega)]
              have q98_12 : rd m98 284 12 = rd m83 284 12 := by rw [e_m98, rd_wt, if_neg (by omega)]
              have q98_13 : rd m98 284 13 = rd m83 284 13 := by rw [e_m98, rd_wt, if_neg (by omega)]
              have q98_38 : rd m98 284 38 = rd m83 284 38 := by rw [e_m98, rd_wt, if_neg (by omega)]
              have q98_44 : rd m98 284 44 = rd m83 284 44 := by rw [e_m98, rd_wt, if_neg (by omega)]
              have r98 := rm_wt r83 (Or.inr (by omega)) e_m98
              refine ⟨fun m_110 => PX m0 m_110 ∧ (((exP m98 m_110 (rd m0 284 19)) ∧ (RM (tX m0) N (rd m0 284 19) (pS (tX m0) (pT (tX m0) 60 (pS (tX m0) (pT (tX m0) 9 s2)))) m_110)) ∧ (tmM (kC m0) (vC m0) m98 m_110)), ?_, ?_⟩
              · skip
                refine ⟨fun hq => ?_, fun hq => ?_⟩
                · skip
                  exact ⟨g_m98, by exact ⟨by exact ⟨by first | exact exP_f (exF_rf (by omega)) (by omega) | exact h_m107, by first | exact rm_S r98 p4 x_m107 h_m107.1.1 l_m107 | exact rm_S0 r98 hq⟩, by first | exact tmm_of q_m107 x_m107 h_m107 | exact fun z => absurd z (by omega)⟩⟩
                · skip
                  refine CV.mono (mz_199   g_m98 (by omega) (fun h => by have := h_m77.2 (by have := h_m83.1 (by omega); omega); have := h_m83.1 (by omega); have := z38 (by have := z77 (by omega); omega); have := h_m77.1.2.2.2.1; omega) p4 (rn_N r98)) (by decide) ?_
                  rintro m107 ⟨g_m107, h_m107⟩
                  obtain ⟨h_m107, q_m107⟩ := h_m107
                  obtain ⟨⟨h_m107, x_m107⟩, l_m107⟩ := h_m107
                  exact ⟨g_m107, by exact ⟨by exact ⟨by first | exact exP_f (exF_rf (by omega)) (by omega) | exact h_m107, by first | exact rm_S r98 p4 x_m107 h_m107.1.1 l_m107 | exact rm_S0 r98 hq⟩, by first | exact tmm_of q_m107 x_m107 h_m107 | exact fun z => absurd z (by omega)⟩⟩
              · intro m_110  hR_110
                obtain ⟨g_m_110, hR_110⟩ := hR_110
                obtain ⟨hR_110, dR_110⟩ := hR_110
                obtain ⟨hR_110, cR_110⟩ := hR_110
                have b110 : rd m_110 284 38 = rd m_38 284 38 := (hR_110.1.1 284 38 (by omega) (by omega) (by omega)).trans (q98_38.trans b83)
                have f110 := hR_110.1.2.1
                have t110 := hR_110.1.2.2.1
                have z110 := hR_110.1.2.2.2.2
                refine CV.mono (mx_184   g_m_110.1 (by unfold rg; decide) (by omega)) (by decide) ?_
                rintro m113 ⟨hx_m113, h_m113⟩
                have g_m113 : PX m0 m113 := PX.ft g_m_110 hx_m113
                obtain ⟨h_m113, u_m113⟩ := h_m113
                have ft113 := ft_go hx_m113 h_m113.2.2.1.1 h_m113.2.2.1.2
                have b113 : rd m113 284 38 = rd m_38 284 38 := (ft113 284 38 (by omega)).trans b110
                have c113 : rd m113 284 44 = rd m_110 284 44 := ft113 284 44 (by omega)
                have o113 : rd m113 284 12 = rd m_110 284 12 := ft113 284 12 (by omega)
                have r113 := rm_mu cR_110 p4 g_m_110 hx_m113 (K := 10) (fun _ _ h => (km_v h).2.2.2.1) (by decide) u_m113
                refine CV.mono (mz_196   g_m113 (by omega) (fun h => by have q1 := h_m113.1 h; have q2 := hR_110.2 q1.1; have q3 := h_m83.1 (by have := z110 q1.1; omega); have q4 := z38 (by have := z77 q3.1; omega); have q5 := h_m77.1.2.2.2.1; have q6 := hR_110.1.2.2.2.1; omega) (by omega) p4 r113) (by decide) ?_
                rintro m117 ⟨g_m117, h_m117⟩
                obtain ⟨h_m117, q_m117⟩ := h_m117
                obtain ⟨h_m117, r_m117⟩ := h_m117
                have t117 := h_m117.2.2.2.2.1
                have f117 := h_m117.2.2.2.1
                refine CV.mono (mx_184   g_m117.1 (by unfold rg; decide) (by omega)) (by decide) ?_
                rintro m123 ⟨hx_m123, h_m123⟩
                have g_m123 : PX m0 m123 := PX.ft g_m117 hx_m123
                obtain ⟨h_m123, u_m123⟩ := h_m123
                have ft123 := ft_go hx_m123 h_m123.2.2.1.1 h_m123.2.2.1.2
                have br := tl_branch (k := x1) hTL (by omega) ft50 (by omega) (by omega) e_m62 e_m75 h_m77 ft83 (by omega) (by omega) (fun h => (h_m83.1 h).1) e_m98 hR_110 ft113 (by omega) (by omega) (fun h => (h_m113.1 h).1) h_m117 ft123 (by omega) (by omega) (fun h => (h_m123.1 h).1)
                have r123 : RM (tX m0) N (rd m0 284 19) (pIf (tX m0) s2) m123 := rm_mu r_m117 p4 g_m117 hx_m123 (K := 11) (fun _ _ h => (km_v h).2.2.2.2.1) (by decide) u_m123
                have tj123 : tlJ (kC m0) (vC m0) m2 m123 (Int.toNat (3 - x3_12)) := tm_b (n := Int.toNat (3 - x3_12)) (m38_j dR_38 (by rw [show Int.toNat (3 - x3_12) + 1 = Int.toNat (4 - x3_12) by omega]; exact dI_12)) (fun z => (km_v (rm_k r38 p4 g_m_38 z).1).2.2.2.2.2.2.1.mp (m38_k cR_38 (by omega) (by omega))) h_m50 ft50 e_m62 e_m75 h_m77 (tmm_of q_m77 x_m77 h_m77) u_m83 ft83 e_m98 hR_110 dR_110 u_m113 ft113 h_m117 q_m117 u_m123 ft123 (ty_284_38 g_m_38.1) (ty_284_44 g_m_38.1) (ty_284_44 g_m2.1) (ty_284_38 g_m2.1)
                have br2 := br.2.2
                have br3 := h_m123.1
                exact ⟨⟨g_m123, by exact ⟨by exact ⟨by exact ⟨br.1, by have := br.2.1; omega, fun h => by have := br.2.1; have := br.2.2 h; omega⟩, by exact ⟨pIf (tX m0) s2, r123, by omega, if_C rb (by omega) (m38_c ra p4 g_m_12 (by omega) (by omega))⟩⟩, by exact (by rw [show Int.toNat (4 - z3_46) = Int.toNat (3 - x3_12) by omega]; exact tj123)⟩⟩, by (try dsimp only); omega⟩
            · skip
              exact ⟨g_m_38, by exact ⟨by exact ⟨by first | exact tlP_f hTL (by omega) (by omega) | exact tlP_l la (by omega) (by omega) | exact tlP_e la (by omega) (by omega) p0 e_z2_9 b2 s145 e_m169 e_m186 (by omega), by first | exact tl_4 ra p4 g_m_12 rb cR_38 (by omega) (by omega) (by omega) | exact rm_wt (rm_wt r145 (Or.inr (by omega)) e_m169) (Or.inr (by omega)) e_m186 | exact r145⟩, by first | exact fun z => absurd z (by omega) | exact tm_w p0 hs.2 tf145 b2 (fun z => u_m2) e_z2_9 s145 e_m169 e_m186 FR145 (ft2 284 44 (by omega)) (ty_284_44 g_m.1) (ty_284_38 g_m.1)⟩⟩
    · intro m_129  hR_129
      obtain ⟨g_m_129, hR_129⟩ := hR_129
      obtain ⟨hR_129, dR_129⟩ := hR_129
      obtain ⟨hR_129, cR_129⟩ := hR_129
      have t129b := hR_129.1.2.2.1
      have f129 := hR_129.1.2.1
      have b129 := hR_129.1.2.2.2.2.1
      have z129 := hR_129.1.2.2.2.2.2
      have t129 := ty_284_11 g_m_129.1
      have r129 := cR_129
      have t11 := ty_284_38 g_m_129.1
      refine ⟨⟨by omega, by omega⟩, ?_⟩
      intro m138 e_m138
      have g_m138 : PX m0 m138 := by rw [e_m138]; exact PX.wt g_m_129 (tw_309 g_m_129.1 (nz_rg _)) (inP_130 (by omega) (by omega))
      have b138 : rd m138 284 38 = rd m_129 284 38 := by rw [e_m138, rd_wt, if_neg (by omega)]
      have q138_11 : rd m138 284 11 = rd m_129 284 11 := by rw [e_m138, rd_wt, if_neg (by omega)]
      have q138_12 : rd m138 284 12 = rd m_129 284 12 := by rw [e_m138, rd_wt, if_neg (by omega)]
      have q138_13 : rd m138 284 13 = rd m_129 284 13 := by rw [e_m138, rd_wt, if_neg (by omega)]
      have q138_44 : rd m138 284 44 = rd m_129 284 44 := by rw [e_m138, rd_wt, if_neg (by omega)]
      have r138 := rm_wt r129 (Or.inr (by omega)) e_m138
      refine CV.mono (mz_196   g_m138 (by omega) (fun h => by have := z129 (by omega); omega) (by omega) p4 r138) (by decide) ?_
      rintro m140 ⟨g_m140, h_m140⟩
      obtain ⟨h_m140, q_m140⟩ := h_m140
      obtain ⟨h_m140, r_m140⟩ := h_m140
      have f140 := h_m140.2.2.2.1
      have t140 := h_m140.2.2.2.2.1
      refine CV.mono (mx_184   g_m140.1 (by unfold rg; decide) (by omega)) (by decide) ?_
      rintro m145 ⟨hx_m145, h_m145⟩
      have g_m145 : PX m0 m145 := PX.ft g_m140 hx_m145
      obtain ⟨h_m145, u_m145⟩ := h_m145
      have ft145 := ft_go hx_m145 h_m145.2.2.1.1 h_m145.2.2.1.2
      have s145 := (PX.s g_m145).1
      have tb := ty_284_38 g_m145.1
      have la := tl_last hR_129.1 e_m138 (by omega) h_m140 ft145 (by omega) (by omega) (fun h => (h_m145.1 h).1)
      have bl := la.2.1
      have b138b := h_m140.1
      have r145 := rm_mu r_m140 p4 g_m140 hx_m145 (K := 59) (fun _ _ h => (km_v h).1) (by decide) u_m145
      have tf145 : tlF (kC m0) (vC m0) m2 m145 := tm_l dR_129 e_m138 h_m140 q_m140 ft145 u_m145 (ty_284_38 g_m_129.1) (ty_284_44 g_m2.1) (ty_284_38 g_m2.1)
      have FR145 := la.1.1
      refine ⟨fun hq => ?_, fun hq => ?_⟩
      · skip
        have t13 := ty_284_19 g_m145.1
        try have w14 : wr (4 * (rd m145 284 19)) = 4 * (rd m145 284 19) := wr_id (by omega) (by omega)
        try have w15 : wr ((wr (4 * (rd m145 284 19))) + x1) = (wr (4 * (rd m145 284 19))) + x1 := wr_id (by omega) (by omega)
        refine ⟨⟨by omega, by omega⟩, ?_⟩
        intro m169 e_m169
        have g_m169 : PX m0 m169 := by rw [e_m169]; exact PX.wt g_m145 (tw_307 g_m145.1 ⟨by omega, by omega⟩) (inP_4 (by omega) (by omega))
        have s169 : rd m169 284 19 = rd m145 284 19 := by rw [e_m169, rd_wt, if_neg (by omega)]
        have tb9 := ty_284_38 g_m169.1
        have t16 := ty_284_19 g_m169.1
        try have w17 : wr (4 * (rd m169 284 19)) = 4 * (rd m169 284 19) := wr_id (by omega) (by omega)
        try have w18 : wr ((wr (4 * (rd m169 284 19))) + x1) = (wr (4 * (rd m169 284 19))) + x1 := wr_id (by omega) (by omega)
        refine ⟨⟨by omega, by omega⟩, ?_⟩
        have t19 := ty_284_38 g_m169.1
        intro m186 e_m186
        have g_m186 : PX m0 m186 := by rw [e_m186]; exact PX.wt g_m169 (tw_308 g_m169.1 ⟨by omega, by omega⟩) (inP_4 (by omega) (by omega))
        exact ⟨g_m186, by exact ⟨by exact ⟨by first | exact tlP_f hTL (by omega) (by omega) | exact tlP_l la (by omega) (by omega) | exact tlP_e la (by omega) (by omega) p0 e_z2_9 b2 s145 e_m169 e_m186 (by omega), by first | exact tl_4 ra p4 g_m_12 rb cR_38 (by omega) (by omega) (by omega) | exact rm_wt (rm_wt r145 (Or.inr (by omega)) e_m169) (Or.inr (by omega)) e_m186 | exact r145⟩, by first | exact fun z => absurd z (by omega) | exact tm_w p0 hs.2 tf145 b2 (fun z => u_m2) e_z2_9 s145 e_m169 e_m186 FR145 (ft2 284 44 (by omega)) (ty_284_44 g_m.1) (ty_284_38 g_m.1)⟩⟩
      · skip
        exact ⟨g_m145, by exact ⟨by exact ⟨by first | exact tlP_f hTL (by omega) (by omega) | exact tlP_l la (by omega) (by omega) | exact tlP_e la (by omega) (by omega) p0 e_z2_9 b2 s145 e_m169 e_m186 (by omega), by first | exact tl_4 ra p4 g_m_12 rb cR_38 (by omega) (by omega) (by omega) | exact rm_wt (rm_wt r145 (Or.inr (by omega)) e_m169) (Or.inr (by omega)) e_m186 | exact r145⟩, by first | exact fun z => absurd z (by omega) | exact tm_w p0 hs.2 tf145 b2 (fun z => u_m2) e_z2_9 s145 e_m169 e_m186 FR145 (ft2 284 44 (by omega)) (ty_284_44 g_m.1) (ty_284_38 g_m.1)⟩⟩
