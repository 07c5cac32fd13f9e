/-- a half that is plain -/
def plI (m m2 : Mm) (s n : Int) : Prop := (∀ i j : Nat, ¬ ((i = 293 ∨ i = 294 ∨ i = 295 ∨ i = 298 ∨ i = 302 ∨ i = 306) ∧ (j : Int) = s) → ¬ (i = 307 ∨ i = 308) → rd m2 i j = rd m i j) ∧ rd m2 293 (Int.toNat s) = 4 ∧ rd m2 294 (Int.toNat s) = 4 ∧ rd m2 298 (Int.toNat s) = 0 ∧ rd m2 302 (Int.toNat s) = 0 ∧ ∀ k : Int, 0 ≤ k → k < n → rd m2 308 (Int.toNat (4 * s + k)) = 0 ∧ rd m2 307 (Int.toNat (4 * s + k)) = 0
def plP (m m2 : Mm) (s : Int) : Prop := plI m m2 s 4
theorem pl_0 {m m6 m13 m20 m27 m34 m41 : Mm} {s x : Int} (hs : 0 ≤ s ∧ s ≤ 1) (hx : x = s) (e6 : m6 = wt m 293 (Int.toNat x) 4) (e13 : m13 = wt m6 294 (Int.toNat x) 4) (e20 : m20 = wt m13 295 (Int.toNat x) 0) (e27 : m27 = wt m20 298 (Int.toNat x) 0) (e34 : m34 = wt m27 302 (Int.toNat x) 0) (e41 : m41 = wt m34 306 (Int.toNat x) 0) : plI m m41 s 0 := by
  subst hx
  have w0 : wr 0 = 0 := by decide
  have w4 : wr 4 = 4 := by decide
  refine ⟨fun i j a b => ?_, ?_, ?_, ?_, ?_, fun k h1 h2 => by omega⟩
  · rw [e41, rd_wt, if_neg (by omega), e34, rd_wt, if_neg (by omega), e27, rd_wt, if_neg (by omega), e20, rd_wt, if_neg (by omega), e13, rd_wt, if_neg (by omega), e6, rd_wt, if_neg (by omega)]
  · rw [e41, rd_wt, if_neg (by omega), e34, rd_wt, if_neg (by omega), e27, rd_wt, if_neg (by omega), e20, rd_wt, if_neg (by omega), e13, rd_wt, if_neg (by omega), e6, rd_wt, if_pos ⟨rfl, rfl⟩, w4]
  · rw [e41, rd_wt, if_neg (by omega), e34, rd_wt, if_neg (by omega), e27, rd_wt, if_neg (by omega), e20, rd_wt, if_neg (by omega), e13, rd_wt, if_pos ⟨rfl, rfl⟩, w4]
  · rw [e41, rd_wt, if_neg (by omega), e34, rd_wt, if_neg (by omega), e27, rd_wt, if_pos ⟨rfl, rfl⟩, w0]
  · rw [e41, rd_wt, if_neg (by omega), e34, rd_wt, if_pos ⟨rfl, rfl⟩, w0]
theorem pl_s {m m1 m59 m70 : Mm} {s x n : Int} (h : plI m m1 s n) (hs : 0 ≤ s ∧ s ≤ 1) (hn : 0 ≤ n ∧ n ≤ 3) (hx : x = s) (e59 : m59 = wt m1 307 (Int.toNat (wr ((wr (4 * x)) + n))) 0) (e70 : m70 = wt m59 308 (Int.toNat (wr ((wr (4 * x)) + n))) 0) : plI m m70 s (n + 1) := by
  subst hx
  have wi : Int.toNat (wr ((wr (4 * x)) + n)) = Int.toNat (4 * x + n) := by rw [wr_id (x := 4 * x) (by omega) (by omega), wr_id (by omega) (by omega)]
  rw [wi] at e59 e70
  have F : ∀ i j : Nat, ¬ (i = 307 ∨ i = 308) → rd m70 i j = rd m1 i j := fun i j a => by rw [e70, rd_wt, if_neg (by omega), e59, rd_wt, if_neg (by omega)]
  obtain ⟨h1, h2, h3, h4, h5, h6⟩ := h
  have w0 : wr 0 = 0 := by decide
  refine ⟨fun i j a b => (F i j b).trans (h1 i j a b), (F 293 _ (by omega)).trans h2, (F 294 _ (by omega)).trans h3, (F 298 _ (by omega)).trans h4, (F 302 _ (by omega)).trans h5, fun k a b => ?_⟩
  by_cases e : k = n
  · subst e
    rw [e70, rd_wt, if_pos ⟨rfl, rfl⟩, rd_wt, if_neg (by omega), e59, rd_wt, if_pos ⟨rfl, rfl⟩, w0]
    exact ⟨rfl, rfl⟩
  · rw [e70, rd_wt, if_neg (by omega), rd_wt, if_neg (by omega), e59, rd_wt, if_neg (by omega), rd_wt, if_neg (by omega)]
    exact h6 k a (by omega)
theorem pl_e {m m1 : Mm} {s n : Int} (h : plI m m1 s n) (hn : 4 ≤ n) : plP m m1 s := ⟨h.1, h.2.1, h.2.2.1, h.2.2.2.1, h.2.2.2.2.1, fun k a b => h.2.2.2.2.2 k a (by omega)⟩
/-- within a crate's sentence: n marks are read -/
def tcI (m m2 : Mm) (n z : Int) : Prop := (∀ i j : Nat, ¬ (i = 284 ∧ (j = 11 ∨ j = 13 ∨ j = 14 ∨ j = 15 ∨ j = 16)) → ¬ (i = 303 ∨ i = 304) → ¬ (i = 305 ∧ 6 * z ≤ (j : Int)) → rd m2 i j = rd m i j) ∧ 0 ≤ rd m2 284 13 ∧ 0 ≤ rd m2 284 15 ∧ (rd m2 284 15 = 0 → rd m 284 15 = 0) ∧ (rd m2 284 13 = 0 → rd m 284 11 + 1 ≤ rd m2 284 11 ∧ (rd m2 284 15 = 0 → ∀ k : Nat, 6 * z ≤ k → (k : Int) < 6 * z + n → rd m2 305 k ≤ 9))
theorem tc_0 {m m2 : Mm} {z : Int} (g : GX sFt m m2) (h13 : 0 ≤ rd m2 284 13) (h15 : 0 ≤ rd m2 284 15) (hw : rd m2 284 15 = 0 → rd m 284 15 = 0) (ht : rd m2 284 13 = 0 → rd m 284 11 + 1 ≤ rd m2 284 11) : tcI m m2 0 z :=
  ⟨fun i j a _ _ => g.2.1 i j (sFt_no (by omega)), h13, h15, hw, fun q => ⟨ht q, fun _ k a b => by omega⟩⟩
theorem tc_ft {m m1 m2 : Mm} {n z : Int} (h : tcI m m1 n z) (g : GX sFt m1 m2) (h13 : 0 ≤ rd m2 284 13) (h15 : 0 ≤ rd m2 284 15) (hw : rd m2 284 15 = 0 → rd m1 284 15 = 0) (hz : rd m2 284 13 = 0 → rd m1 284 13 = 0 ∧ rd m1 284 11 ≤ rd m2 284 11) : tcI m m2 n z :=
  ⟨fun i j a b c => (g.2.1 i j (sFt_no (by omega))).trans (h.1 i j a b c), h13, h15, fun q => h.2.2.2.1 (hw q), fun q => ⟨by have := (h.2.2.2.2 (hz q).1).1; have := hz q; omega, fun w k a b => by rw [g.2.1 305 k rfl]; exact (h.2.2.2.2 (hz q).1).2 (hw w) k a b⟩⟩
theorem tc_wt {m m1 m2 : Mm} {n z v : Int} {i j : Nat} (h : tcI m m1 n z) (hi : i = 303 ∨ i = 304) (e : m2 = wt m1 i j v) : tcI m m2 n z := by
  have F : ∀ a b : Nat, ¬ (a = 303 ∨ a = 304) → rd m2 a b = rd m1 a b := fun a b c => by rw [e, rd_wt, if_neg (by omega)]
  obtain ⟨h1, h2, h3, h4, h5⟩ := h
  refine ⟨fun a b c d f => (F a b d).trans (h1 a b c d f), ?_, ?_, ?_, ?_⟩
  · rw [F 284 13 (by omega)]; exact h2
  · rw [F 284 15 (by omega)]; exact h3
  · rw [F 284 15 (by omega)]; exact h4
  · rw [F 284 13 (by omega), F 284 15 (by omega), F 284 11 (by omega)]
    exact fun q => ⟨(h5 q).1, fun w k a b => by rw [F 305 k (by omega)]; exact (h5 q).2 w k a b⟩
theorem tc_5 {m m1 m2 : Mm} {n z v : Int} (h : tcI m m1 n z) (hz : 0 ≤ z ∧ z ≤ 5 ∧ 0 ≤ n ∧ n ≤ 5) (e : m2 = wt m1 305 (Int.toNat (wr ((wr (6 * z)) + n))) v) (v0 : 0 ≤ v) (v1 : v ≤ 9999) (hv : rd m1 284 13 = 0 → rd m1 284 15 = 0 → v ≤ 9) : tcI m m2 (n + 1) z := by
  have wi : Int.toNat (wr ((wr (6 * z)) + n)) = Int.toNat (6 * z + n) := by rw [wr_id (x := 6 * z) (by omega) (by omega), wr_id (by omega) (by omega)]
  rw [wi] at e
  have F : ∀ a b : Nat, ¬ (a = 305 ∧ b = Int.toNat (6 * z + n)) → rd m2 a b = rd m1 a b := fun a b c => by rw [e, rd_wt, if_neg c]
  have w : wr v = v := wr_id (by omega) (by omega)
  obtain ⟨h1, h2, h3, h4, h5⟩ := h
  refine ⟨fun a b c d f => (F a b (by omega)).trans (h1 a b c d f), ?_, ?_, ?_, ?_⟩
  · rw [F 284 13 (by omega)]; exact h2
  · rw [F 284 15 (by omega)]; exact h3
  · rw [F 284 15 (by omega)]; exact h4
  · rw [F 284 13 (by omega), F 284 15 (by omega), F 284 11 (by omega)]
    refine fun q => ⟨(h5 q).1, fun w2 k a b => ?_⟩
    by_cases c : (k : Int) < 6 * z + n
    · rw [F 305 k (by omega)]; exact (h5 q).2 w2 k a c
    · have : k = Int.toNat (6 * z + n) := by omega
      rw [this, e, rd_wt, if_pos ⟨rfl, rfl⟩, w]
      exact hv q w2
/-- behind a crate's sentence -/
def tcP (m m2 : Mm) (s : Int) : Prop := (∀ i j : Nat, ¬ (i = 284 ∧ (j = 11 ∨ j = 13 ∨ j = 14 ∨ j = 15 ∨ j = 16 ∨ j = 20)) → ¬ (302 ≤ i ∧ i ≤ 304) → ¬ (i = 305 ∧ 18 * s + 6 * rd m 302 (Int.toNat s) ≤ (j : Int)) → rd m2 i j = rd m i j) ∧ 0 ≤ rd m2 284 13 ∧ 0 ≤ rd m2 284 15 ∧ (rd m2 284 13 = 0 → rd m 284 11 + 1 ≤ rd m2 284 11 ∧ rd m2 302 (Int.toNat s) = rd m 302 (Int.toNat s) + 1 ∧ rd m2 284 20 = rd m2 302 (Int.toNat s) ∧ (rd m2 284 15 = 0 → rd m 284 15 = 0 ∧ ∀ k : Nat, 18 * s + 6 * rd m 302 (Int.toNat s) ≤ k → (k : Int) < 18 * s + 6 * rd m 302 (Int.toNat s) + 6 → rd m2 305 k ≤ 9))
theorem tc_f {m m2 : Mm} {n z s : Int} (h : tcI m m2 n z) (f : ¬ rd m2 284 13 = 0) (hz : 6 * z = 18 * s + 6 * rd m 302 (Int.toNat s)) : tcP m m2 s :=
  ⟨fun i j a b c => h.1 i j (by omega) (by omega) (by omega), h.2.1, h.2.2.1, fun q => absurd q f⟩
theorem tc_e {m m130 m155 m163 m178 : Mm} {n z s : Int} {v : Int} {jj : Nat} (h : tcI m m130 n z) (f : rd m130 284 13 = 0) (hn : 6 ≤ n) (hz : 6 * z = 18 * s + 6 * rd m 302 (Int.toNat s) ∧ z = 3 * s + rd m 302 (Int.toNat s)) (p1 : rd m 302 (Int.toNat s) ≤ 2) (p2 : rd m 284 20 = rd m 302 (Int.toNat s)) (h0 : 0 ≤ rd m 302 (Int.toNat s)) (e155 : m155 = wl m130 292 jj v) (e163 : m163 = wt m155 284 20 (wr ((rd m155 284 20) + 1))) (e178 : m178 = wt m163 302 (Int.toNat (rd m163 284 19)) (wr ((rd m163 302 (Int.toNat (rd m163 284 19))) + 1))) (s163 : rd m163 284 19 = s) (k163 : rd m163 302 (Int.toNat (rd m163 284 19)) = rd m 302 (Int.toNat s)) : tcP m m178 s := by
  rw [k163, s163] at e178
  have n155 : rd m155 284 20 = rd m 302 (Int.toNat s) := by rw [e155, rd_wl, h.1 284 20 (by omega) (by omega) (by omega)]; exact p2
  have w : wr (rd m 302 (Int.toNat s) + 1) = rd m 302 (Int.toNat s) + 1 := wr_id (by omega) (by omega)
  rw [n155, w] at e163
  rw [w] at e178
  have F : ∀ i j : Nat, ¬ (i = 284 ∧ j = 20) → ¬ (i = 302 ∧ j = Int.toNat s) → rd m178 i j = rd m130 i j := fun i j a b => by rw [e178, rd_wt, if_neg b, e163, rd_wt, if_neg a, e155, rd_wl]
  have c178 : rd m178 302 (Int.toNat s) = rd m 302 (Int.toNat s) + 1 := by rw [e178, rd_wt, if_pos ⟨rfl, rfl⟩, w]
  have n178 : rd m178 284 20 = rd m 302 (Int.toNat s) + 1 := by rw [e178, rd_wt, if_neg (by omega), e163, rd_wt, if_pos ⟨rfl, rfl⟩, w]
  obtain ⟨h1, h2, h3, h4, h5⟩ := h
  have q11 := F 284 11 (by omega) (by omega)
  have q13 := F 284 13 (by omega) (by omega)
  have q15 := F 284 15 (by omega) (by omega)
  refine ⟨fun i j a b c => (F i j (by omega) (by omega)).trans (h1 i j (by omega) (by omega) (by omega)), by omega, by omega, fun _ => ⟨by have := (h5 f).1; omega, c178, by omega, fun z5 => ⟨h4 (by omega), fun k a b => ?_⟩⟩⟩
  rw [F 305 k (by omega) (by omega)]
  exact (h5 f).2 (by omega) k (by omega) (by omega)
/-- what a half told without fault holds -/
def vals (m : Mm) (s : Int) : Prop := (2 ≤ rd m 293 (Int.toNat s) ∧ rd m 293 (Int.toNat s) ≤ 5) ∧ (2 ≤ rd m 294 (Int.toNat s) ∧ rd m 294 (Int.toNat s) ≤ 5) ∧ (∀ k : Nat, 10 * s ≤ k → (k : Int) < 10 * s + rd m 298 (Int.toNat s) → rd m 301 k ≤ 9) ∧ ∀ k : Nat, 18 * s ≤ k → (k : Int) < 18 * s + 6 * rd m 302 (Int.toNat s) → rd m 305 k ≤ 9
theorem va_fr {m m2 : Mm} {s : Int} (h : vals m s) (f : ∀ i j : Nat, (i = 293 ∨ i = 294 ∨ i = 298 ∨ i = 301 ∨ i = 302 ∨ i = 305) → rd m2 i j = rd m i j) : vals m2 s := by
  unfold vals
  rw [f 293 _ (by omega), f 294 _ (by omega), f 298 _ (by omega), f 302 _ (by omega)]
  exact ⟨h.1, h.2.1, fun k a b => by rw [f 301 k (by omega)]; exact h.2.2.1 k a b, fun k a b => by rw [f 305 k (by omega)]; exact h.2.2.2 k a b⟩
theorem va_y {m m2 : Mm} {s v w : Int} (h : vals m s) (f : ∀ i j : Nat, (i = 298 ∨ i = 301 ∨ i = 302 ∨ i = 305) → rd m2 i j = rd m i j) (e3 : rd m2 293 (Int.toNat s) = v) (e4 : rd m2 294 (Int.toNat s) = w) (hv : 2 ≤ v ∧ v ≤ 5) (hw : 2 ≤ w ∧ w ≤ 5) : vals m2 s := by
  unfold vals
  rw [e3, e4, f 298 _ (by omega), f 302 _ (by omega)]
  exact ⟨hv, hw, fun k a b => by rw [f 301 k (by omega)]; exact h.2.2.1 k a b, fun k a b => by rw [f 305 k (by omega)]; exact h.2.2.2 k a b⟩
theorem va_p {m m2 : Mm} {s z : Int} (h : vals m s) (f : ∀ i j : Nat, (i = 293 ∨ i = 294 ∨ i = 301 ∨ i = 302 ∨ i = 305) → ¬ (i = 301 ∧ j = Int.toNat z) → rd m2 i j = rd m i j) (e8 : rd m2 298 (Int.toNat s) = rd m 298 (Int.toNat s) + 1) (hz : z = 10 * s + rd m 298 (Int.toNat s)) (hv : rd m2 301 (Int.toNat z) ≤ 9) : vals m2 s := by
  unfold vals
  rw [f 293 _ (by omega) (by omega), f 294 _ (by omega) (by omega), e8, f 302 _ (by omega) (by omega)]
  refine ⟨h.1, h.2.1, fun k a b => ?_, fun k a b => by rw [f 305 k (by omega) (by omega)]; exact h.2.2.2 k a b⟩
  by_cases c : k = Int.toNat z
  · subst c; exact hv
  · rw [f 301 k (by omega) (by omega)]
    exact h.2.2.1 k a (by omega)
/-- the parser between two sentences -/
def rdI (m : Mm) (s : Int) : Prop := 0 ≤ rd m 284 13 ∧ 0 ≤ rd m 284 15 ∧ (rd m 284 13 = 0 → rd m 284 12 = 0 ∧ 420 * s ≤ rd m 284 44 ∧ rd m 284 44 - 420 * s ≤ rd m 284 11 ∧ 130 * s ≤ rd m 284 38 ∧ 4 * (rd m 284 38 - 130 * s) ≤ rd m 284 11 ∧ rd m 284 20 = rd m 302 (Int.toNat s) ∧ lawsH m s (rd m 284 38) (rd m 284 44) ∧ (rd m 284 15 = 0 → vals m s))
def rdP (m m2 : Mm) (s : Int) : Prop := rdI m2 s ∧ (rd m2 284 13 = 0 → rd m 284 11 + 1 ≤ rd m2 284 11)
theorem rd_bad {m m2 : Mm} {s : Int} (h : ¬ rd m2 284 13 = 0) (h13 : 0 ≤ rd m2 284 13) (h15 : 0 ≤ rd m2 284 15) : rdP m m2 s := ⟨⟨h13, h15, fun q => absurd q h⟩, fun q => absurd q h⟩
theorem rd_keep {m m2 : Mm} {s : Int} (h : rdI m s) (h0 : rd m 284 13 = 0) (fr : ∀ i j : Nat, ¬ (i = 284 ∧ (j = 11 ∨ j = 13 ∨ j = 14 ∨ j = 15 ∨ j = 16 ∨ j = 20)) → ¬ (293 ≤ i ∧ i ≤ 306) → rd m2 i j = rd m i j) (z : rd m2 284 13 = 0 → rd m 284 11 + 1 ≤ rd m2 284 11) (p : 0 ≤ rd m2 284 13) (pw : 0 ≤ rd m2 284 15) (nm : rd m2 284 13 = 0 → rd m2 284 20 = rd m2 302 (Int.toNat s)) (va : rd m2 284 13 = 0 → rd m2 284 15 = 0 → vals m2 s) : rdP m m2 s := by
  obtain ⟨a1, a2, a3, a4, a5, a6, a7, a8⟩ := h.2.2 h0
  have e12 := fr 284 12 (by omega) (by omega)
  have e38 := fr 284 38 (by omega) (by omega)
  have e44 := fr 284 44 (by omega) (by omega)
  refine ⟨⟨p, pw, fun q => ⟨by omega, by omega, by have := z q; omega, by omega, by have := z q; omega, nm q, ?_, va q⟩⟩, z⟩
  rw [e38, e44]
  exact lawsH_fr a7 (Int.le_refl _) (Int.le_refl _) (fun k hk => ⟨fr 307 _ (by omega) (by omega), fr 308 _ (by omega) (by omega)⟩) (fun i b hi _ _ => fr i b (by omega) (by omega)) (fun j _ _ => fr 314 j (by omega) (by omega)) (fun j _ _ => fr 315 j (by omega) (by omega))
theorem rd_crate {m m1 m2 : Mm} {s : Int} (h : rdI m s) (h0 : rd m 284 13 = 0) (g : GX sFt m m1) (ht : (rd m1 284 15 = rd m 284 15 ∧ rd m 284 11 ≤ rd m1 284 11) ∧ 0 ≤ s) (t : tcP m1 m2 s) : rdP m m2 s := by
  obtain ⟨t1, t2, t3, t4⟩ := t
  have F : ∀ i j : Nat, ¬ (i = 284 ∧ (j = 11 ∨ j = 13 ∨ j = 14 ∨ j = 15 ∨ j = 16)) → rd m1 i j = rd m i j := fun i j a => g.2.1 i j (sFt_no a)
  have c := F 302 (Int.toNat s) (by omega)
  refine rd_keep h h0 (fun i j a b => (t1 i j (by omega) (by omega) (by omega)).trans (F i j (by omega))) (fun q => by have := (t4 q).1; omega) t2 t3 (fun q => (t4 q).2.2.1) (fun q w => ?_)
  obtain ⟨u1, u2, u3, u4⟩ := t4 q
  have v := (h.2.2 h0).2.2.2.2.2.2.2 (by have := (u4 w).1; omega)
  rw [c] at t1 u2 u4
  unfold vals
  rw [t1 293 _ (by omega) (by omega) (by omega), t1 294 _ (by omega) (by omega) (by omega), t1 298 _ (by omega) (by omega) (by omega), u2, F 293 _ (by omega), F 294 _ (by omega), F 298 _ (by omega)]
  refine ⟨v.1, v.2.1, fun k a b => by rw [t1 301 k (by omega) (by omega) (by omega), F 301 k (by omega)]; exact v.2.2.1 k a b, fun k a b => ?_⟩
  by_cases e : (k : Int) < 18 * s + 6 * rd m 302 (Int.toNat s)
  · rw [t1 305 k (by omega) (by omega) (by omega), F 305 k (by omega)]
    exact v.2.2.2 k a e
  · exact (u4 w).2 k (by omega) (by omega)
theorem rd_law {m m1 m2 : Mm} {s k : Int} (h : rdI m s) (h0 : rd m 284 13 = 0) (f : ftRel m m1) (ht : rd m 284 11 ≤ rd m1 284 11) (h15 : 0 ≤ rd m 284 15) (t : tlP m1 m2 s k) : rdP m m2 s := by
  obtain ⟨t1, t2, t3, t4⟩ := t
  have F : ∀ i j : Nat, ¬ (i = 284 ∧ (j = 11 ∨ j = 12 ∨ j = 13 ∨ j = 14 ∨ j = 38 ∨ j = 44 ∨ j = 48)) → ¬ (307 ≤ i ∧ i ≤ 316) → rd m2 i j = rd m i j := fun i j a b => (t1 i j a b).trans (f i j (by omega))
  have e15 := F 284 15 (by omega) (by omega)
  obtain ⟨a1, a2, a3, a4, a5, a6, a7, a8⟩ := h.2.2 h0
  refine ⟨⟨t2, by omega, fun q => ?_⟩, fun q => by have := (t4 q).2.1; omega⟩
  obtain ⟨u1, u2, u3, u4, u5, u6, u7, u8⟩ := t4 q
  refine ⟨u3, u4, u5, u6, u7, ?_, u8 ?_, fun w => va_fr (a8 (by omega)) (fun i j a => F i j (by omega) (by omega))⟩
  · rw [F 284 20 (by omega) (by omega), F 302 _ (by omega) (by omega)]; exact a6
  · rw [f 284 38 (by omega), f 284 44 (by omega)]
    exact lawsH_fr a7 (Int.le_refl _) (Int.le_refl _) (fun k hk => ⟨f 307 _ (by omega), f 308 _ (by omega)⟩) (fun i b hi _ _ => f i b (by omega)) (fun j _ _ => f 314 j (by omega)) (fun j _ _ => f 315 j (by omega))
-- TippedCratesModel.isShutTold(II)Z
set_option maxRecDepth 20000 in
theorem ct_189 {m : Mm} {x1 : Int} {x2 : Int}  (T_m : Ty m) (r_x1 : rg x1) (r_x2 : rg x2)  : CK 1 189 [.ref 284, iv x1, iv x2] m (fun m2 v => m2 = m ∧ (v = 0 ∨ v = 1)) := by
  refine br_189 r_x1 r_x2 ?_
  unfold P_189
  have tsd := ty_284_19 T_m
  have t295 := ty_295 T_m (Int.toNat (rd m 284 19))
  have t1 := ty_284_19 T_m
  try have w2 : wr (8 * (rd m 284 19)) = 8 * (rd m 284 19) := wr_id (by omega) (by omega)
  intro z3_7 e_z3_7
  have r_z3_7 : rg z3_7 := by rw [e_z3_7]; exact (wr_rg _)
  refine ⟨fun x3_8 => 8 * rd m 284 19 ≤ x3_8 ∧ x3_8 ≤ 8 * rd m 284 19 + rd m 295 (Int.toNat (rd m 284 19)), fun x3_8 => Int.toNat (16 - x3_8), ?_, ?_⟩
  · (first | omega | (refine ⟨?_, ?_⟩ <;> omega) | trivial)
  · intro x3_8 r_x3_8 hI_8
    refine ⟨⟨by omega, by omega⟩, ?_⟩
    have t3 := ty_295 T_m (Int.toNat (rd m 284 19))
    try have w4 : wr ((wr (8 * (rd m 284 19))) + (rd m 295 (Int.toNat (rd m 284 19)))) = (wr (8 * (rd m 284 19))) + (rd m 295 (Int.toNat (rd m 284 19))) := wr_id (by omega) (by omega)
    refine ⟨fun hq => ?_, fun hq => ?_⟩
    · skip
      exact ⟨rfl, by first | trivial | omega | (refine ⟨?_, ?_⟩ <;> omega)⟩
    · skip
      refine ⟨⟨by omega, by omega⟩, ?_⟩
      have t5 := ty_296 T_m (Int.toNat x3_8)
      refine ⟨True, ?_, ?_⟩
      · skip
        refine ⟨fun hq => ?_, fun hq => ?_⟩
        · skip
          (first | trivial | omega | (refine ⟨?_, ?_⟩ <;> omega))
        · skip
          refine ⟨⟨by omega, by omega⟩, ?_⟩
          have t6 := ty_297 T_m (Int.toNat x3_8)
          refine ⟨fun hq => ?_, fun hq => ?_⟩
          · skip
            (first | trivial | omega | (refine ⟨?_, ?_⟩ <;> omega))
          · skip
            exact ⟨rfl, by first | trivial | omega | (refine ⟨?_, ?_⟩ <;> omega)⟩
      · intro   hR_51
        try have w7 : wr (x3_8 + 1) = x3_8 + 1 := wr_id (by omega) (by omega)
        intro z3_51 e_z3_51
        have r_z3_51 : rg z3_51 := by rw [e_z3_51]; exact wr_rg _
        exact ⟨by first | omega | (refine ⟨?_, ?_⟩ <;> omega) | trivial, by (try dsimp only); omega⟩
-- TippedCratesModel.isBeyond()Z
set_option maxRecDepth 20000 in
theorem ct_190 {m : Mm}   (T_m : Ty m)   : CK 2 190 [.ref 284] m (fun m2 v => m2 = m ∧ ((v = 0 ∧ (∀ k : Nat, 10 * rd m 284 19 ≤ k → (k : Int) < 10 * rd m 284 19 + rd m 298 (Int.toNat (rd m 284 19)) → rd m 299 k < rd m 293 (Int.toNat (rd m 284 19)) ∧ rd m 300 k < rd m 294 (Int.toNat (rd m 284 19))) ∧ (∀ k : Nat, 3 * rd m 284 19 ≤ k → (k : Int) < 3 * rd m 284 19 + rd m 302 (Int.toNat (rd m 284 19)) → rd m 303 k < rd m 293 (Int.toNat (rd m 284 19)) ∧ rd m 304 k < rd m 294 (Int.toNat (rd m 284 19)))) ∨ v = 1)) := by
  refine br_190  ?_
  unfold P_190
  have tsd := ty_284_19 T_m
  have t295 := ty_295 T_m (Int.toNat (rd m 284 19))
  have t298 := ty_298 T_m (Int.toNat (rd m 284 19))
  have t302 := ty_302 T_m (Int.toNat (rd m 284 19))
  have t1 := ty_284_19 T_m
  try have w2 : wr (8 * (rd m 284 19)) = 8 * (rd m 284 19) := wr_id (by omega) (by omega)
  intro z1_7 e_z1_7
  have r_z1_7 : rg z1_7 := by rw [e_z1_7]; exact (wr_rg _)
  refine ⟨fun x1_8 m_8 => m_8 = m ∧ (8 * rd m 284 19 ≤ x1_8 ∧ x1_8 ≤ 8 * rd m 284 19 + rd m 295 (Int.toNat (rd m 284 19))), fun x1_8 m_8 => Int.toNat (16 - x1_8), ?_, ?_⟩
  · exact ⟨rfl, by first | omega | (refine ⟨?_, ?_⟩ <;> omega) | trivial⟩
  · intro x1_8 m_8 r_x1_8 hI_8
    obtain ⟨e_m_8, hI_8⟩ := hI_8
    replace e_m_8 := e_m_8.symm
    subst e_m_8
    refine ⟨⟨by omega, by omega⟩, ?_⟩
    have t3 := ty_295 T_m (Int.toNat (rd m 284 19))
    try have w4 : wr ((wr (8 * (rd m 284 19))) + (rd m 295 (Int.toNat (rd m 284 19)))) = (wr (8 * (rd m 284 19))) + (rd m 295 (Int.toNat (rd m 284 19))) := wr_id (by omega) (by omega)
    refine ⟨fun hq => ?_, fun hq => ?_⟩
    · skip
      try have w5 : wr (10 * (rd m 284 19)) = 10 * (rd m 284 19) := wr_id (by omega) (by omega)
      intro z1_63 e_z1_63
      have r_z1_63 : rg z1_63 := by rw [e_z1_63]; exact (wr_rg _)
      refine ⟨fun x1_64 m_64 => m_64 = m ∧ ((10 * rd m 284 19 ≤ x1_64 ∧ x1_64 ≤ 10 * rd m 284 19 + rd m 298 (Int.toNat (rd m 284 19))) ∧ ∀ k : Nat, 10 * rd m 284 19 ≤ k → (k : Int) < x1_64 → rd m 299 k < rd m 293 (Int.toNat (rd m 284 19)) ∧ rd m 300 k < rd m 294 (Int.toNat (rd m 284 19))), fun x1_64 m_64 => Int.toNat (20 - x1_64), ?_, ?_⟩
      · exact ⟨rfl, by exact ⟨by omega, fun k a b => by omega⟩⟩
      · intro x1_64 m_64 r_x1_64 hI_64
        obtain ⟨e_m_64, hI_64⟩ := hI_64
        replace e_m_64 := e_m_64.symm
        subst e_m_64
        refine ⟨⟨by omega, by omega⟩, ?_⟩
        have t6 := ty_298 T_m (Int.toNat (rd m 284 19))
        try have w7 : wr ((wr (10 * (rd m 284 19))) + (rd m 298 (Int.toNat (rd m 284 19)))) = (wr (10 * (rd m 284 19))) + (rd m 298 (Int.toNat (rd m 284 19))) := wr_id (by omega) (by omega)
        refine ⟨fun hq => ?_, fun hq => ?_⟩
        · skip
          try have w8 : wr (3 * (rd m 284 19)) = 3 * (rd m 284 19) := wr_id (by omega) (by omega)
          intro z1_118 e_z1_118
          have r_z1_118 : rg z1_118 := by rw [e_z1_118]; exact (wr_rg _)
          refine ⟨fun x1_119 m_119 => m_119 = m ∧ ((3 * rd m 284 19 ≤ x1_119 ∧ x1_119 ≤ 3 * rd m 284 19 + rd m 302 (Int.toNat (rd m 284 19))) ∧ ∀ k : Nat, 3 * rd m 284 19 ≤ k → (k : Int) < x1_119 → rd m 303 k < rd m 293 (Int.toNat (rd m 284 19)) ∧ rd m 304 k < rd m 294 (Int.toNat (rd m 284 19))), fun x1_119 m_119 => Int.toNat (6 - x1_119), ?_, ?_⟩
          · exact ⟨rfl, by exact ⟨by omega, fun k a b => by omega⟩⟩
          · intro x1_119 m_119 r_x1_119 hI_119
            obtain ⟨e_m_119, hI_119⟩ := hI_119
            replace e_m_119 := e_m_119.symm
            subst e_m_119
            refine ⟨⟨by omega, by omega⟩, ?_⟩
            have t9 := ty_302 T_m (Int.toNat (rd m 284 19))
            try have w10 : wr ((wr (3 * (rd m 284 19))) + (rd m 302 (Int.toNat (rd m 284 19)))) = (wr (3 * (rd m 284 19))) + (rd m 302 (Int.toNat (rd m 284 19))) := wr_id (by omega) (by omega)
            refine ⟨fun hq => ?_, fun hq => ?_⟩
            · skip
              exact ⟨rfl, by first | omega | exact Or.inr rfl | exact Or.inl ⟨rfl, fun k a b => hI_64.2 k a (by omega), fun k a b => hI_119.2 k a (by omega)⟩⟩
            · skip
              refine ⟨⟨by omega, by omega⟩, ?_⟩
              refine ⟨⟨by omega, by omega⟩, ?_⟩
              have t11 := ty_303 T_m (Int.toNat x1_119)
              have t12 := ty_304 T_m (Int.toNat x1_119)
              refine CK.mono (ct_188   T_m (rd_rg _ _ _) (rd_rg _ _ _)) (by decide) ?_
              rintro m152 v152 r_v152 ⟨e_m152, h_m152⟩
              replace e_m152 := e_m152.symm
              subst e_m152
              refine ⟨fun m_177 => m_177 = m ∧ (True), ?_, ?_⟩
              · skip
                refine ⟨fun hq => ?_, fun hq => ?_⟩
                · skip
                  exact ⟨rfl, by first | trivial | omega | (refine ⟨?_, ?_⟩ <;> omega)⟩
                · skip
                  refine ⟨⟨by omega, by omega⟩, ?_⟩
                  refine ⟨⟨by omega, by omega⟩, ?_⟩
                  refine CK.mono (ct_189   T_m (rd_rg _ _ _) (rd_rg _ _ _)) (by decide) ?_
                  rintro m171 v171 r_v171 ⟨e_m171, h_m171⟩
                  replace e_m171 := e_m171.symm
                  subst e_m171
                  refine ⟨fun hq => ?_, fun hq => ?_⟩
                  · skip
                    intro z2_185 e_z2_185
                    have r_z2_185 : rg z2_185 := by rw [e_z2_185]; exact (wr_rg _)
                    refine ⟨fun x2_186 => 3 * rd m 284 19 ≤ x2_186 ∧ x2_186 ≤ x1_119, fun x2_186 => Int.toNat (x1_119 - x2_186), ?_, ?_⟩
                    · (first | omega | (refine ⟨?_, ?_⟩ <;> omega) | trivial)
                    · intro x2_186 r_x2_186 hI_186
                      refine ⟨fun hq => ?_, fun hq => ?_⟩
                      · skip
                        try have w13 : wr (x1_119 + 1) = x1_119 + 1 := wr_id (by omega) (by omega)
                        intro z1_229 e_z1_229
                        have r_z1_229 : rg z1_229 := by rw [e_z1_229]; exact wr_rg _
                        have e119 : ∀ k : Nat, 3 * rd m 284 19 ≤ k → (k : Int) < x1_119 + 1 → rd m 303 k < rd m 293 (Int.toNat (rd m 284 19)) ∧ rd m 304 k < rd m 294 (Int.toNat (rd m 284 19)) := fun k a b => by
                          by_cases q : (k : Int) < x1_119
                          · exact hI_119.2 k a q
                          · have : k = Int.toNat x1_119 := by omega
                            subst this
                            omega
                        exact ⟨⟨rfl, by exact ⟨by omega, fun k a b => e119 k a (by omega)⟩⟩, by (try dsimp only); omega⟩
                      · skip
                        refine ⟨⟨by omega, by omega⟩, ?_⟩
                        refine ⟨⟨by omega, by omega⟩, ?_⟩
                        have t14 := ty_303 T_m (Int.toNat x2_186)
                        refine ⟨True, ?_, ?_⟩
                        · skip
                          refine ⟨fun hq => ?_, fun hq => ?_⟩
                          · skip
                            (first | trivial | omega | (refine ⟨?_, ?_⟩ <;> omega))
                          · skip
                            refine ⟨⟨by omega, by omega⟩, ?_⟩
                            refine ⟨⟨by omega, by omega⟩, ?_⟩
                            have t15 := ty_304 T_m (Int.toNat x2_186)
                            refine ⟨fun hq => ?_, fun hq => ?_⟩
                            · skip
                              (first | trivial | omega | (refine ⟨?_, ?_⟩ <;> omega))
                            · skip
                              exact ⟨rfl, by first | omega | exact Or.inr rfl | exact Or.inl ⟨rfl, fun k a b => hI_64.2 k a (by omega), fun k a b => hI_119.2 k a (by omega)⟩⟩
                        · intro   hR_223
                          try have w16 : wr (x2_186 + 1) = x2_186 + 1 := wr_id (by omega) (by omega)
                          intro z2_223 e_z2_223
                          have r_z2_223 : rg z2_223 := by rw [e_z2_223]; exact wr_rg _
                          exact ⟨by first | omega | (refine ⟨?_, ?_⟩ <;> omega) | trivial, by (try dsimp only); omega⟩
                  · skip
                    exact ⟨rfl, by first | trivial | omega | (refine ⟨?_, ?_⟩ <;> omega)⟩
              · intro m_177  hR_177
                obtain ⟨e_m_177, hR_177⟩ := hR_177
                replace e_m_177 := e_m_177.symm
                subst e_m_177
                exact ⟨rfl, by first | omega | exact Or.inr rfl | exact Or.inl ⟨rfl, fun k a b => hI_64.2 k a (by omega), fun k a b => hI_119.2 k a (by omega)⟩⟩
        · skip
          refine ⟨⟨by omega, by omega⟩, ?_⟩
          refine ⟨⟨by omega, by omega⟩, ?_⟩
          have t17 := ty_299 T_m (Int.toNat x1_64)
          have t18 := ty_300 T_m (Int.toNat x1_64)
          refine CK.mono (ct_188   T_m (rd_rg _ _ _) (rd_rg _ _ _)) (by decide) ?_
          rintro m98 v98 r_v98 ⟨e_m98, h_m98⟩
          replace e_m98 := e_m98.symm
          subst e_m98
          refine ⟨fun hq => ?_, fun hq => ?_⟩
          · skip
            try have w19 : wr (x1_64 + 1) = x1_64 + 1 := wr_id (by omega) (by omega)
            intro z1_106 e_z1_106
            have r_z1_106 : rg z1_106 := by rw [e_z1_106]; exact wr_rg _
            have e64 : ∀ k : Nat, 10 * rd m 284 19 ≤ k → (k : Int) < x1_64 + 1 → rd m 299 k < rd m 293 (Int.toNat (rd m 284 19)) ∧ rd m 300 k < rd m 294 (Int.toNat (rd m 284 19)) := fun k a b => by
              by_cases q : (k : Int) < x1_64
              · exact hI_64.2 k a q
              · have : k = Int.toNat x1_64 := by omega
                subst this
                omega
            exact ⟨⟨rfl, by exact ⟨by omega, fun k a b => e64 k a (by omega)⟩⟩, by (try dsimp only); omega⟩
          · skip
            exact ⟨rfl, by first | omega | exact Or.inr rfl | exact Or.inl ⟨rfl, fun k a b => hI_64.2 k a (by omega), fun k a b => hI_119.2 k a (by omega)⟩⟩
    · skip
      refine ⟨⟨by omega, by omega⟩, ?_⟩
      refine ⟨⟨by omega, by omega⟩, ?_⟩
      have t20 := ty_296 T_m (Int.toNat x1_8)
      have t21 := ty_297 T_m (Int.toNat x1_8)
      refine CK.mono (ct_188   T_m (rd_rg _ _ _) (rd_rg _ _ _)) (by decide) ?_
      rintro m42 v42 r_v42 ⟨e_m42, h_m42⟩
      replace e_m42 := e_m42.symm
      subst e_m42
      refine ⟨fun hq => ?_, fun hq => ?_⟩
      · skip
        try have w22 : wr (x1_8 + 1) = x1_8 + 1 := wr_id (by omega) (by omega)
        intro z1_50 e_z1_50
        have r_z1_50 : rg z1_50 := by rw [e_z1_50]; exact wr_rg _
        exact ⟨⟨rfl, by first | omega | (refine ⟨?_, ?_⟩ <;> omega) | trivial⟩, by (try dsimp only); omega⟩
      · skip
        exact ⟨rfl, by first | omega | exact Or.inr rfl | exact Or.inl ⟨rfl, fun k a b => hI_64.2 k a (by omega), fun k a b => hI_119.2 k a (by omega)⟩⟩
-- TippedCratesModel.plain(I)V
set_option maxRecDepth 20000 in
theorem ct_185 {m0 m : Mm} {x1 : Int}  (g_m : PX m0 m) (r_x1 : rg x1) (p0 : x1 = rd m0 284 19) : CV 1 185 [.ref 284, iv x1] m (fun m2 => PX m0 m2 ∧ (plP m m2 (rd m0 284 19))) := by
  refine br_185 r_x1 ?_
  unfold P_185
  have hs := PX.s g_m
  refine ⟨⟨by omega, by omega⟩, ?_⟩
  intro m6 e_m6
  have g_m6 : PX m0 m6 := by rw [e_m6]; exact PX.wt g_m (tw_293 g_m.1 ⟨by omega, by omega⟩) (inP_s (by omega) (by omega))
  refine ⟨⟨by omega, by omega⟩, ?_⟩
  intro m13 e_m13
  have g_m13 : PX m0 m13 := by rw [e_m13]; exact PX.wt g_m6 (tw_294 g_m6.1 ⟨by omega, by omega⟩) (inP_s (by omega) (by omega))
  refine ⟨⟨by omega, by omega⟩, ?_⟩
  intro m20 e_m20
  have g_m20 : PX m0 m20 := by rw [e_m20]; exact PX.wt g_m13 (tw_295 g_m13.1 ⟨by omega, by omega⟩) (inP_s (by omega) (by omega))
  refine ⟨⟨by omega, by omega⟩, ?_⟩
  intro m27 e_m27
  have g_m27 : PX m0 m27 := by rw [e_m27]; exact PX.wt g_m20 (tw_298 g_m20.1 ⟨by omega, by omega⟩) (inP_s (by omega) (by omega))
  refine ⟨⟨by omega, by omega⟩, ?_⟩
  intro m34 e_m34
  have g_m34 : PX m0 m34 := by rw [e_m34]; exact PX.wt g_m27 (tw_302 g_m27.1 ⟨by omega, by omega⟩) (inP_s (by omega) (by omega))
  refine ⟨⟨by omega, by omega⟩, ?_⟩
  intro m41 e_m41
  have g_m41 : PX m0 m41 := by rw [e_m41]; exact PX.wt g_m34 (tw_306 g_m34.1 ⟨by omega, by omega⟩) (inP_s (by omega) (by omega))
  refine ⟨fun x2_44 m_44 => PX m0 m_44 ∧ ((0 ≤ x2_44 ∧ x2_44 ≤ 4) ∧ plI m m_44 (rd m0 284 19) x2_44), fun x2_44 m_44 => Int.toNat (4 - x2_44), ?_, ?_⟩
  · exact ⟨g_m41, by exact ⟨by omega, pl_0 (by omega) p0 e_m6 e_m13 e_m20 e_m27 e_m34 e_m41⟩⟩
  · intro x2_44 m_44 r_x2_44 hI_44
    obtain ⟨g_m_44, hI_44⟩ := hI_44
    refine ⟨fun hq => ?_, fun hq => ?_⟩
    · skip
      exact ⟨g_m_44, by exact pl_e hI_44.2 (by omega)⟩
    · skip
      try have w1 : wr (4 * x1) = 4 * x1 := wr_id (by omega) (by omega)
      try have w2 : wr ((wr (4 * x1)) + x2_44) = (wr (4 * x1)) + x2_44 := wr_id (by omega) (by omega)
      refine ⟨⟨by omega, by omega⟩, ?_⟩
      intro m59 e_m59
      have g_m59 : PX m0 m59 := by rw [e_m59]; exact PX.wt g_m_44 (tw_307 g_m_44.1 ⟨by omega, by omega⟩) (inP_4 (by omega) (by omega))
      refine ⟨⟨by omega, by omega⟩, ?_⟩
      intro m70 e_m70
      have g_m70 : PX m0 m70 := by rw [e_m70]; exact PX.wt g_m59 (tw_308 g_m59.1 ⟨by omega, by omega⟩) (inP_4 (by omega) (by omega))
      have pl := pl_s hI_44.2 (by omega) (by omega) p0 e_m59 e_m70
      try have w3 : wr (x2_44 + 1) = x2_44 + 1 := wr_id (by omega) (by omega)
      intro z2_71 e_z2_71
      have r_z2_71 : rg z2_71 := by rw [e_z2_71]; exact wr_rg _
      exact ⟨⟨g_m70, by exact ⟨by omega, by rw [e_z2_71, wr_id (by omega) (by omega)]; exact pl⟩⟩, by (try dsimp only); omega⟩
-- TippedCratesModel.tellCrate()V
set_option maxRecDepth 20000 in
theorem ct_194 {m0 m : Mm}   (g_m : PX m0 m)  (p0 : rd m 284 13 = 0) (p1 : rd m 302 (Int.toNat (rd m0 284 19)) ≤ 2) (p2 : rd m 284 20 = rd m 302 (Int.toNat (rd m0 284 19))) (p3 : 0 ≤ rd m 284 15) : CV 4 194 [.ref 284] m (fun m2 => PX m0 m2 ∧ (tcP m m2 (rd m0 284 19))) := by
  refine br_194  ?_
  unfold P_194
  have hs := PX.s g_m
  have tt := ty_284_11 g_m.1
  have t302 := ty_302 g_m.1 (Int.toNat (rd m0 284 19))
  have es : rd m 302 (Int.toNat (rd m 284 19)) = rd m 302 (Int.toNat (rd m0 284 19)) := by rw [hs.1]
  have t1 := ty_284_19 g_m.1
  refine ⟨⟨by omega, by omega⟩, ?_⟩
  try have w2 : wr (3 * (rd m 284 19)) = 3 * (rd m 284 19) := wr_id (by omega) (by omega)
  have t3 := ty_302 g_m.1 (Int.toNat (rd m 284 19))
  try have w4 : wr ((wr (3 * (rd m 284 19))) + (rd m 302 (Int.toNat (rd m 284 19)))) = (wr (3 * (rd m 284 19))) + (rd m 302 (Int.toNat (rd m 284 19))) := wr_id (by omega) (by omega)
  intro z1_16 e_z1_16
  have r_z1_16 : rg z1_16 := by rw [e_z1_16]; exact (wr_rg _)
  have z1b : 6 * z1_16 = 18 * rd m0 284 19 + 6 * rd m 302 (Int.toNat (rd m0 284 19)) ∧ z1_16 = 3 * rd m0 284 19 + rd m 302 (Int.toNat (rd m0 284 19)) := by omega
  have t5 := ty_284_11 g_m.1
  intro z2_21 e_z2_21
  have r_z2_21 : rg z2_21 := by rw [e_z2_21]; exact (rd_rg _ _ _)
  refine CV.mono (ct_184   g_m.1 (by unfold rg; decide) (by omega)) (by decide) ?_
  rintro m24 ⟨hx_m24, h_m24⟩
  have g_m24 : PX m0 m24 := PX.ft g_m hx_m24
  have tc24 : tcI m m24 0 z1_16 := tc_0 hx_m24 (by omega) (by omega) (by omega) (fun h => by have := h_m24.1 h; omega)
  refine ⟨fun x3_29 m_29 => PX m0 m_29 ∧ ((0 ≤ x3_29 ∧ x3_29 ≤ 3) ∧ tcI m m_29 0 z1_16), fun x3_29 m_29 => Int.toNat (3 - x3_29), ?_, ?_⟩
  · exact ⟨g_m24, by exact ⟨by omega, tc24⟩⟩
  · intro x3_29 m_29 r_x3_29 hI_29
    obtain ⟨g_m_29, hI_29⟩ := hI_29
    have f29 := hI_29.2.2.1
    have w29 := hI_29.2.2.2.1
    have t29 := ty_284_20 g_m_29.1
    have t6 := ty_284_20 g_m_29.1
    refine ⟨True, ?_, ?_⟩
    · skip
      refine ⟨fun hq => ?_, fun hq => ?_⟩
      · skip
        (first | trivial | omega | (refine ⟨?_, ?_⟩ <;> omega))
      · skip
        refine ⟨fun hq => ?_, fun hq => ?_⟩
        · skip
          (first | trivial | omega | (refine ⟨?_, ?_⟩ <;> omega))
        · skip
          refine ⟨⟨by omega, by omega⟩, ?_⟩
          refine ⟨⟨by omega, by omega⟩, ?_⟩
          refine ⟨fun m_66 => PX m0 m_66 ∧ (tcI m m_66 0 z1_16), ?_, ?_⟩
          · skip
            refine ⟨fun hq => ?_, fun hq => ?_⟩
            · skip
              exact ⟨g_m_29, by first | exact hI_29.2 | exact tc63⟩
            · skip
              refine CV.mono (ct_182   g_m_29.1 (by unfold rg; decide) r_z2_21 (by omega) (by omega) (by omega)) (by decide) ?_
              rintro m63 ⟨hx_m63, h_m63⟩
              have g_m63 : PX m0 m63 := PX.ft g_m_29 hx_m63
              have tc63 : tcI m m63 0 z1_16 := tc_ft hI_29.2 hx_m63 (by omega) (by omega) (by omega) (fun h => by omega)
              exact ⟨g_m63, by first | exact hI_29.2 | exact tc63⟩
          · intro m_66  hR_66
            obtain ⟨g_m_66, hR_66⟩ := hR_66
            try have w8 : wr (x3_29 + 1) = x3_29 + 1 := wr_id (by omega) (by omega)
            intro z3_66 e_z3_66
            have r_z3_66 : rg z3_66 := by rw [e_z3_66]; exact wr_rg _
            exact ⟨⟨g_m_66, by exact ⟨by omega, hR_66⟩⟩, by (try dsimp only); omega⟩
    · intro   hR_72
      refine CK.mono (ct_193   g_m_29.1 (by unfold rg; decide) (by unfold rg; decide) (by omega) (by omega)) (by decide) ?_
      rintro m80 v80 r_v80 ⟨hx_m80, h_m80⟩
      have g_m80 : PX m0 m80 := PX.ft g_m_29 hx_m80
      have tc80 : tcI m m80 0 z1_16 := tc_ft hI_29.2 hx_m80 (by omega) (by omega) (by omega) (fun h => by omega)
      refine ⟨⟨by omega, by omega⟩, ?_⟩
      intro m83 e_m83
      have g_m83 : PX m0 m83 := by rw [e_m83]; exact PX.wt g_m80 (tw_303 g_m80.1 ⟨by omega, by omega⟩) (inP_3 (by omega) (by omega))
      have tc83 : tcI m m83 0 z1_16 := tc_wt tc80 (Or.inl rfl) e_m83
      have f83 := tc83.2.1
      have w83 := tc83.2.2.1
      refine CK.mono (ct_193   g_m83.1 (by unfold rg; decide) (by unfold rg; decide) (by omega) (by omega)) (by decide) ?_
      rintro m92 v92 r_v92 ⟨hx_m92, h_m92⟩
      have g_m92 : PX m0 m92 := PX.ft g_m83 hx_m92
      have tc92 : tcI m m92 0 z1_16 := tc_ft tc83 hx_m92 (by omega) (by omega) (by omega) (fun h => by omega)
      refine ⟨⟨by omega, by omega⟩, ?_⟩
      intro m95 e_m95
      have g_m95 : PX m0 m95 := by rw [e_m95]; exact PX.wt g_m92 (tw_304 g_m92.1 ⟨by omega, by omega⟩) (inP_3 (by omega) (by omega))
      have tc95 : tcI m m95 0 z1_16 := tc_wt tc92 (Or.inr rfl) e_m95
      refine ⟨fun x3_98 m_98 => PX m0 m_98 ∧ ((0 ≤ x3_98 ∧ x3_98 ≤ 6) ∧ tcI m m_98 x3_98 z1_16), fun x3_98 m_98 => Int.toNat (6 - x3_98), ?_, ?_⟩
      · exact ⟨g_m95, by exact ⟨by omega, tc95⟩⟩
      · intro x3_98 m_98 r_x3_98 hI_98
        obtain ⟨g_m_98, hI_98⟩ := hI_98
        have f98 := hI_98.2.2.1
        have w98 := hI_98.2.2.2.1
        refine ⟨fun hq => ?_, fun hq => ?_⟩
        · skip
          refine CV.mono (ct_184   g_m_98.1 (by unfold rg; decide) (by omega)) (by decide) ?_
          rintro m130 ⟨hx_m130, h_m130⟩
          have g_m130 : PX m0 m130 := PX.ft g_m_98 hx_m130
          have tc130 : tcI m m130 x3_98 z1_16 := tc_ft hI_98.2 hx_m130 (by omega) (by omega) (by omega) (fun h => by have := h_m130.1 h; omega)
          have n130 : rd m130 284 20 = rd m 284 20 := tc130.1 284 20 (by omega) (by omega) (by omega)
          have s130 : rd m130 284 19 = rd m0 284 19 := (PX.s g_m130).1
          refine ⟨fun hq => ?_, fun hq => ?_⟩
          · skip
            refine ⟨⟨by omega, by omega⟩, ?_⟩
            have t10 := ty_284_20 g_m130.1
            refine ⟨⟨by omega, by omega⟩, ?_⟩
            intro m155 e_m155
            have g_m155 : PX m0 m155 := by rw [e_m155]; exact PX.wl g_m130
            have n155 : rd m155 284 20 = rd m 284 20 := by rw [e_m155, rd_wl]; exact n130
            have t11 := ty_284_20 g_m155.1
            try have w12 : wr ((rd m155 284 20) + 1) = (rd m155 284 20) + 1 := wr_id (by omega) (by omega)
            intro m163 e_m163
            have g_m163 : PX m0 m163 := by rw [e_m163]; exact PX.wt g_m155 (tw_284_20 g_m155.1 ⟨by omega, by omega⟩) (inP_284 (by omega))
            have s163 : rd m163 284 19 = rd m0 284 19 := (PX.s g_m163).1
            have k163 : rd m163 302 (Int.toNat (rd m163 284 19)) = rd m 302 (Int.toNat (rd m0 284 19)) := by rw [s163, e_m163, rd_wt, if_neg (by omega), e_m155, rd_wl]; exact tc130.1 302 _ (by omega) (by omega) (by omega)
            have t13 := ty_284_19 g_m163.1
            refine ⟨⟨by omega, by omega⟩, ?_⟩
            refine ⟨⟨by omega, by omega⟩, ?_⟩
            have t14 := ty_302 g_m163.1 (Int.toNat (rd m163 284 19))
            try have w15 : wr ((rd m163 302 (Int.toNat (rd m163 284 19))) + 1) = (rd m163 302 (Int.toNat (rd m163 284 19))) + 1 := wr_id (by omega) (by omega)
            intro m178 e_m178
            have g_m178 : PX m0 m178 := by rw [e_m178]; exact PX.wt g_m163 (tw_302 g_m163.1 ⟨by omega, by omega⟩) (inP_s (by omega) (by omega))
            exact ⟨g_m178, by first | exact tc_f tc130 (by omega) (by omega) | exact tc_e tc130 (by omega) (by omega) z1b p1 p2 (by omega) e_m155 e_m163 e_m178 s163 k163⟩
          · skip
            exact ⟨g_m130, by first | exact tc_f tc130 (by omega) (by omega) | exact tc_e tc130 (by omega) (by omega) z1b p1 p2 (by omega) e_m155 e_m163 e_m178 s163 k163⟩
        · skip
          refine CK.mono (ct_193   g_m_98.1 (by unfold rg; decide) (by unfold rg; decide) (by omega) (by omega)) (by decide) ?_
          rintro m118 v118 r_v118 ⟨hx_m118, h_m118⟩
          have g_m118 : PX m0 m118 := PX.ft g_m_98 hx_m118
          have tc118 : tcI m m118 x3_98 z1_16 := tc_ft hI_98.2 hx_m118 (by omega) (by omega) (by omega) (fun h => by omega)
          try have w16 : wr (6 * z1_16) = 6 * z1_16 := wr_id (by omega) (by omega)
          try have w17 : wr ((wr (6 * z1_16)) + x3_98) = (wr (6 * z1_16)) + x3_98 := wr_id (by omega) (by omega)
          refine ⟨⟨by omega, by omega⟩, ?_⟩
          intro m121 e_m121
          have g_m121 : PX m0 m121 := by rw [e_m121]; exact PX.wt g_m118 (tw_305 g_m118.1 ⟨by omega, by omega⟩) (inP_18 (by omega) (by omega))
          have tc121 : tcI m m121 (x3_98 + 1) z1_16 := tc_5 tc118 (by omega) e_m121 (by omega) (by omega) (fun h1 h2 => by omega)
          try have w18 : wr (x3_98 + 1) = x3_98 + 1 := wr_id (by omega) (by omega)
          intro z3_122 e_z3_122
          have r_z3_122 : rg z3_122 := by rw [e_z3_122]; exact wr_rg _
          exact ⟨⟨g_m121, by exact ⟨by omega, by rw [e_z3_122, wr_id (by omega) (by omega)]; exact tc121⟩⟩, by (try dsimp only); omega⟩
-- TippedCratesModel.tellOne()V
set_option maxRecDepth 20000 in
theorem ct_192 {m0 m : Mm}   (g_m : PX m0 m)  (p0 : rdI m (rd m0 284 19)) (p1 : rd m 284 13 = 0) : CV 7 192 [.ref 284] m (fun m2 => PX m0 m2 ∧ (rdP m m2 (rd m0 284 19))) := by
  refine br_192  ?_
  unfold P_192
  have hs := PX.s g_m
  have tt := ty_284_11 g_m.1
  have hw := p0.2.1
  have s1 : Int.toNat (rd m 284 19) = Int.toNat (rd m0 284 19) := by rw [hs.1]
  have PI := p0.2.2 p1
  have s302 : rd m 302 (Int.toNat (rd m 284 19)) = rd m 302 (Int.toNat (rd m0 284 19)) := by rw [s1]
  have t287 := ty_287 g_m.1 (Int.toNat (rd m 284 11))
  have t1 := ty_284_11 g_m.1
  refine ⟨⟨by omega, by omega⟩, ?_⟩
  have t2 := ty_287 g_m.1 (Int.toNat (rd m 284 11))
  refine ⟨fun m_411 => PX m0 m_411 ∧ (rdP m m_411 (rd m0 284 19)), ?_, ?_⟩
  · skip
    refine ⟨fun hq => ?_, fun hq => ?_, fun hq => ?_, fun hq => ?_, fun hq => ?_, fun hq => ?_, fun hq => ?_, fun hq => ?_, fun hq => ?_, fun hq => ?_⟩
    · skip
      refine CV.mono (ct_183   g_m.1 (by omega)) (by decide) ?_
      rintro m61 ⟨hx_m61, h_m61⟩
      have g_m61 : PX m0 m61 := PX.ft g_m hx_m61
      have s61 : rd m61 284 19 = rd m0 284 19 := (PX.s g_m61).1
      refine CK.mono (ct_193   g_m61.1 (by unfold rg; decide) (by unfold rg; decide) (by omega) (by omega)) (by decide) ?_
      rintro m75 v75 r_v75 ⟨hx_m75, h_m75⟩
      have g_m75 : PX m0 m75 := PX.ft g_m61 hx_m75
      have s75 : rd m75 284 19 = rd m0 284 19 := (PX.s g_m75).1
      have t3 := ty_284_19 g_m61.1
      refine ⟨⟨by omega, by omega⟩, ?_⟩
      intro m78 e_m78
      have g_m78 : PX m0 m78 := by rw [e_m78]; exact PX.wt g_m75 (tw_293 g_m75.1 ⟨by omega, by omega⟩) (inP_s (by omega) (by omega))
      have m78_11 : rd m78 284 11 = rd m75 284 11 := by rw [e_m78, rd_wt, if_neg (by omega)]
      have m78_13 : rd m78 284 13 = rd m75 284 13 := by rw [e_m78, rd_wt, if_neg (by omega)]
      have m78_15 : rd m78 284 15 = rd m75 284 15 := by rw [e_m78, rd_wt, if_neg (by omega)]
      have m78_19 : rd m78 284 19 = rd m75 284 19 := by rw [e_m78, rd_wt, if_neg (by omega)]
      refine CK.mono (ct_193   g_m78.1 (by unfold rg; decide) (by unfold rg; decide) (by omega) (by omega)) (by decide) ?_
      rintro m90 v90 r_v90 ⟨hx_m90, h_m90⟩
      have g_m90 : PX m0 m90 := PX.ft g_m78 hx_m90
      have s90 : rd m90 284 19 = rd m0 284 19 := (PX.s g_m90).1
      have s78 : rd m78 284 19 = rd m0 284 19 := by omega
      have t4 := ty_284_19 g_m78.1
      refine ⟨⟨by omega, by omega⟩, ?_⟩
      intro m93 e_m93
      have g_m93 : PX m0 m93 := by rw [e_m93]; exact PX.wt g_m90 (tw_294 g_m90.1 ⟨by omega, by omega⟩) (inP_s (by omega) (by omega))
      have m93_11 : rd m93 284 11 = rd m90 284 11 := by rw [e_m93, rd_wt, if_neg (by omega)]
      have m93_13 : rd m93 284 13 = rd m90 284 13 := by rw [e_m93, rd_wt, if_neg (by omega)]
      have m93_15 : rd m93 284 15 = rd m90 284 15 := by rw [e_m93, rd_wt, if_neg (by omega)]
      have m93_19 : rd m93 284 19 = rd m90 284 19 := by rw [e_m93, rd_wt, if_neg (by omega)]
      refine CV.mono (ct_184   g_m93.1 (by unfold rg; decide) (by omega)) (by decide) ?_
      rintro m96 ⟨hx_m96, h_m96⟩
      have g_m96 : PX m0 m96 := PX.ft g_m93 hx_m96
      have fr96 : ∀ i j : Nat, ¬ (i = 284 ∧ (j = 11 ∨ j = 13 ∨ j = 14 ∨ j = 15 ∨ j = 16)) → ¬ (i = 293 ∨ i = 294) → rd m96 i j = rd m i j := fun i j a b => by rw [hx_m96.2.1 i j (sFt_no (by omega)), e_m93, rd_wt, if_neg (by omega), hx_m90.2.1 i j (sFt_no (by omega)), e_m78, rd_wt, if_neg (by omega), hx_m75.2.1 i j (sFt_no (by omega)), hx_m61.2.1 i j (sFt_no (by omega))]
      have va96 : rd m96 284 13 = 0 → rd m96 284 15 = 0 → vals m96 (rd m0 284 19) := fun h1 h2 => va_y (PI.2.2.2.2.2.2.2 (by omega)) (fun i j a => fr96 i j (by omega) (by omega)) (v := v75) (w := v90) (by rw [hx_m96.2.1 293 _ rfl, e_m93, rd_wt, if_neg (by omega), hx_m90.2.1 293 _ rfl, e_m78, s61, rd_wt, if_pos ⟨rfl, rfl⟩, wr_id (by omega) (by omega)]) (by rw [hx_m96.2.1 294 _ rfl, e_m93, s78, rd_wt, if_pos ⟨rfl, rfl⟩, wr_id (by omega) (by omega)]) (by omega) (by omega)
      have rp96 : rdP m m96 (rd m0 284 19) := rd_keep p0 p1 (fun i j a b => fr96 i j (by omega) (by omega)) (by omega) (by omega) (by omega) (fun _ => by rw [fr96 284 20 (by omega) (by omega), fr96 302 _ (by omega) (by omega)]; exact PI.2.2.2.2.2.1) va96
      exact ⟨g_m96, by first | exact rp96 | exact rp191 | exact rp297 | exact rp352 | exact rp323 | exact rp408 | exact rd_bad (by omega) (by omega) (by omega)⟩
    · skip
      have t5 := ty_284_19 g_m.1
      refine ⟨⟨by omega, by omega⟩, ?_⟩
      have t6 := ty_295 g_m.1 (Int.toNat (rd m 284 19))
      refine CV.mono (ct_191   g_m.1 (rd_rg _ _ _) (by unfold rg; decide) (by omega)) (by decide) ?_
      rintro m114 ⟨hx_m114, h_m114⟩
      have g_m114 : PX m0 m114 := PX.ft g_m hx_m114
      have s114 : rd m114 284 19 = rd m0 284 19 := (PX.s g_m114).1
      have z114 : rd m114 295 (Int.toNat (rd m114 284 19)) = rd m 295 (Int.toNat (rd m 284 19)) := by rw [hx_m114.2.1 295 _ rfl, s114, hs.1]
      refine ⟨fun hq => ?_, fun hq => ?_⟩
      · skip
        have t8 := ty_284_19 g_m114.1
        refine ⟨⟨by omega, by omega⟩, ?_⟩
        try have w9 : wr (8 * (rd m114 284 19)) = 8 * (rd m114 284 19) := wr_id (by omega) (by omega)
        have t10 := ty_295 g_m114.1 (Int.toNat (rd m114 284 19))
        try have w11 : wr ((wr (8 * (rd m114 284 19))) + (rd m114 295 (Int.toNat (rd m114 284 19)))) = (wr (8 * (rd m114 284 19))) + (rd m114 295 (Int.toNat (rd m114 284 19))) := wr_id (by omega) (by omega)
        intro z1_142 e_z1_142
        have r_z1_142 : rg z1_142 := by rw [e_z1_142]; exact (wr_rg _)
        refine CK.mono (ct_193   g_m114.1 (by unfold rg; decide) (by unfold rg; decide) (by omega) (by omega)) (by decide) ?_
        rintro m151 v151 r_v151 ⟨hx_m151, h_m151⟩
        have g_m151 : PX m0 m151 := PX.ft g_m114 hx_m151
        refine ⟨⟨by omega, by omega⟩, ?_⟩
        intro m154 e_m154
        have g_m154 : PX m0 m154 := by rw [e_m154]; exact PX.wt g_m151 (tw_296 g_m151.1 ⟨by omega, by omega⟩) (inP_8 (by omega) (by omega))
        have m154_11 : rd m154 284 11 = rd m151 284 11 := by rw [e_m154, rd_wt, if_neg (by omega)]
        have m154_13 : rd m154 284 13 = rd m151 284 13 := by rw [e_m154, rd_wt, if_neg (by omega)]
        have m154_15 : rd m154 284 15 = rd m151 284 15 := by rw [e_m154, rd_wt, if_neg (by omega)]
        have m154_19 : rd m154 284 19 = rd m151 284 19 := by rw [e_m154, rd_wt, if_neg (by omega)]
        refine CK.mono (ct_193   g_m154.1 (by unfold rg; decide) (by unfold rg; decide) (by omega) (by omega)) (by decide) ?_
        rintro m163 v163 r_v163 ⟨hx_m163, h_m163⟩
        have g_m163 : PX m0 m163 := PX.ft g_m154 hx_m163
        refine ⟨⟨by omega, by omega⟩, ?_⟩
        intro m166 e_m166
        have g_m166 : PX m0 m166 := by rw [e_m166]; exact PX.wt g_m163 (tw_297 g_m163.1 ⟨by omega, by omega⟩) (inP_8 (by omega) (by omega))
        have m166_11 : rd m166 284 11 = rd m163 284 11 := by rw [e_m166, rd_wt, if_neg (by omega)]
        have m166_13 : rd m166 284 13 = rd m163 284 13 := by rw [e_m166, rd_wt, if_neg (by omega)]
        have m166_15 : rd m166 284 15 = rd m163 284 15 := by rw [e_m166, rd_wt, if_neg (by omega)]
        have m166_19 : rd m166 284 19 = rd m163 284 19 := by rw [e_m166, rd_wt, if_neg (by omega)]
        refine CV.mono (ct_184   g_m166.1 (by unfold rg; decide) (by omega)) (by decide) ?_
        rintro m169 ⟨hx_m169, h_m169⟩
        have g_m169 : PX m0 m169 := PX.ft g_m166 hx_m169
        have s169 : rd m169 284 19 = rd m0 284 19 := (PX.s g_m169).1
        have z169 : rd m169 295 (Int.toNat (rd m169 284 19)) = rd m 295 (Int.toNat (rd m 284 19)) := by rw [s169, hs.1, hx_m169.2.1 295 _ rfl, e_m166, rd_wt, if_neg (by omega), hx_m163.2.1 295 _ rfl, e_m154, rd_wt, if_neg (by omega), hx_m151.2.1 295 _ rfl, hx_m114.2.1 295 _ rfl]
        have fr169 : ∀ i j : Nat, ¬ (i = 284 ∧ (j = 11 ∨ j = 13 ∨ j = 14 ∨ j = 15 ∨ j = 16)) → ¬ (i = 296 ∨ i = 297) → rd m169 i j = rd m i j := fun i j a b => by rw [hx_m169.2.1 i j (sFt_no (by omega)), e_m166, rd_wt, if_neg (by omega), hx_m163.2.1 i j (sFt_no (by omega)), e_m154, rd_wt, if_neg (by omega), hx_m151.2.1 i j (sFt_no (by omega)), hx_m114.2.1 i j (sFt_no (by omega))]
        refine ⟨fun hq => ?_, fun hq => ?_⟩
        · skip
          exact ⟨g_m169, by first | exact rp96 | exact rp191 | exact rp297 | exact rp352 | exact rp323 | exact rp408 | exact rd_bad (by omega) (by omega) (by omega)⟩
        · skip
          have t13 := ty_284_19 g_m169.1
          refine ⟨⟨by omega, by omega⟩, ?_⟩
          refine ⟨⟨by omega, by omega⟩, ?_⟩
          have t14 := ty_295 g_m169.1 (Int.toNat (rd m169 284 19))
          try have w15 : wr ((rd m169 295 (Int.toNat (rd m169 284 19))) + 1) = (rd m169 295 (Int.toNat (rd m169 284 19))) + 1 := wr_id (by omega) (by omega)
          intro m191 e_m191
          have g_m191 : PX m0 m191 := by rw [e_m191]; exact PX.wt g_m169 (tw_295 g_m169.1 ⟨by omega, by omega⟩) (inP_s (by omega) (by omega))
          have m191_11 : rd m191 284 11 = rd m169 284 11 := by rw [e_m191, rd_wt, if_neg (by omega)]
          have m191_13 : rd m191 284 13 = rd m169 284 13 := by rw [e_m191, rd_wt, if_neg (by omega)]
          have m191_15 : rd m191 284 15 = rd m169 284 15 := by rw [e_m191, rd_wt, if_neg (by omega)]
          have m191_19 : rd m191 284 19 = rd m169 284 19 := by rw [e_m191, rd_wt, if_neg (by omega)]
          have fr191 : ∀ i j : Nat, ¬ (i = 284 ∧ (j = 11 ∨ j = 13 ∨ j = 14 ∨ j = 15 ∨ j = 16)) → ¬ (295 ≤ i ∧ i ≤ 297) → rd m191 i j = rd m i j := fun i j a b => by rw [e_m191, rd_wt, if_neg (by omega), fr169 i j (by omega) (by omega)]
          have rp191 : rdP m m191 (rd m0 284 19) := rd_keep p0 p1 (fun i j a b => fr191 i j (by omega) (by omega)) (by omega) (by omega) (by omega) (fun _ => by rw [fr191 284 20 (by omega) (by omega), fr191 302 _ (by omega) (by omega)]; exact PI.2.2.2.2.2.1) (fun h1 h2 => va_fr (PI.2.2.2.2.2.2.2 (by omega)) (fun i j a => fr191 i j (by omega) (by omega)))
          exact ⟨g_m191, by first | exact rp96 | exact rp191 | exact rp297 | exact rp352 | exact rp323 | exact rp408 | exact rd_bad (by omega) (by omega) (by omega)⟩
      · skip
        exact ⟨g_m114, by first | exact hR_411 | exact rd_bad (by omega) (by omega) (by omega)⟩
    · skip
      have t16 := ty_284_19 g_m.1
      refine ⟨⟨by omega, by omega⟩, ?_⟩
      have t17 := ty_298 g_m.1 (Int.toNat (rd m 284 19))
      refine CV.mono (ct_191   g_m.1 (rd_rg _ _ _) (by unfold rg; decide) (by omega)) (by decide) ?_
      rintro m207 ⟨hx_m207, h_m207⟩
      have g_m207 : PX m0 m207 := PX.ft g_m hx_m207
      have s207 : rd m207 284 19 = rd m0 284 19 := (PX.s g_m207).1
      have z207 : rd m207 298 (Int.toNat (rd m207 284 19)) = rd m 298 (Int.toNat (rd m 284 19)) := by rw [hx_m207.2.1 298 _ rfl, s207, hs.1]
      refine ⟨fun hq => ?_, fun hq => ?_⟩
      · skip
        have t19 := ty_284_19 g_m207.1
        refine ⟨⟨by omega, by omega⟩, ?_⟩
        try have w20 : wr (10 * (rd m207 284 19)) = 10 * (rd m207 284 19) := wr_id (by omega) (by omega)
        have t21 := ty_298 g_m207.1 (Int.toNat (rd m207 284 19))
        try have w22 : wr ((wr (10 * (rd m207 284 19))) + (rd m207 298 (Int.toNat (rd m207 284 19)))) = (wr (10 * (rd m207 284 19))) + (rd m207 298 (Int.toNat (rd m207 284 19))) := wr_id (by omega) (by omega)
        intro z1_235 e_z1_235
        have r_z1_235 : rg z1_235 := by rw [e_z1_235]; exact (wr_rg _)
        refine CK.mono (ct_193   g_m207.1 (by unfold rg; decide) (by unfold rg; decide) (by omega) (by omega)) (by decide) ?_
        rintro m244 v244 r_v244 ⟨hx_m244, h_m244⟩
        have g_m244 : PX m0 m244 := PX.ft g_m207 hx_m244
        refine ⟨⟨by omega, by omega⟩, ?_⟩
        intro m247 e_m247
        have g_m247 : PX m0 m247 := by rw [e_m247]; exact PX.wt g_m244 (tw_299 g_m244.1 ⟨by omega, by omega⟩) (inP_10 (by omega) (by omega))
        have m247_11 : rd m247 284 11 = rd m244 284 11 := by rw [e_m247, rd_wt, if_neg (by omega)]
        have m247_13 : rd m247 284 13 = rd m244 284 13 := by rw [e_m247, rd_wt, if_neg (by omega)]
        have m247_15 : rd m247 284 15 = rd m244 284 15 := by rw [e_m247, rd_wt, if_neg (by omega)]
        have m247_19 : rd m247 284 19 = rd m244 284 19 := by rw [e_m247, rd_wt, if_neg (by omega)]
        refine CK.mono (ct_193   g_m247.1 (by unfold rg; decide) (by unfold rg; decide) (by omega) (by omega)) (by decide) ?_
        rintro m256 v256 r_v256 ⟨hx_m256, h_m256⟩
        have g_m256 : PX m0 m256 := PX.ft g_m247 hx_m256
        refine ⟨⟨by omega, by omega⟩, ?_⟩
        intro m259 e_m259
        have g_m259 : PX m0 m259 := by rw [e_m259]; exact PX.wt g_m256 (tw_300 g_m256.1 ⟨by omega, by omega⟩) (inP_10 (by omega) (by omega))
        have m259_11 : rd m259 284 11 = rd m256 284 11 := by rw [e_m259, rd_wt, if_neg (by omega)]
        have m259_13 : rd m259 284 13 = rd m256 284 13 := by rw [e_m259, rd_wt, if_neg (by omega)]
        have m259_15 : rd m259 284 15 = rd m256 284 15 := by rw [e_m259, rd_wt, if_neg (by omega)]
        have m259_19 : rd m259 284 19 = rd m256 284 19 := by rw [e_m259, rd_wt, if_neg (by omega)]
        refine CK.mono (ct_193   g_m259.1 (by unfold rg; decide) (by unfold rg; decide) (by omega) (by omega)) (by decide) ?_
        rintro m269 v269 r_v269 ⟨hx_m269, h_m269⟩
        have g_m269 : PX m0 m269 := PX.ft g_m259 hx_m269
        refine ⟨⟨by omega, by omega⟩, ?_⟩
        intro m272 e_m272
        have g_m272 : PX m0 m272 := by rw [e_m272]; exact PX.wt g_m269 (tw_301 g_m269.1 ⟨by omega, by omega⟩) (inP_10 (by omega) (by omega))
        have m272_11 : rd m272 284 11 = rd m269 284 11 := by rw [e_m272, rd_wt, if_neg (by omega)]
        have m272_13 : rd m272 284 13 = rd m269 284 13 := by rw [e_m272, rd_wt, if_neg (by omega)]
        have m272_15 : rd m272 284 15 = rd m269 284 15 := by rw [e_m272, rd_wt, if_neg (by omega)]
        have m272_19 : rd m272 284 19 = rd m269 284 19 := by rw [e_m272, rd_wt, if_neg (by omega)]
        refine CV.mono (ct_184   g_m272.1 (by unfold rg; decide) (by omega)) (by decide) ?_
        rintro m275 ⟨hx_m275, h_m275⟩
        have g_m275 : PX m0 m275 := PX.ft g_m272 hx_m275
        have s275 : rd m275 284 19 = rd m0 284 19 := (PX.s g_m275).1
        have z275 : rd m275 298 (Int.toNat (rd m275 284 19)) = rd m 298 (Int.toNat (rd m 284 19)) := by rw [s275, hs.1, hx_m275.2.1 298 _ rfl, e_m272, rd_wt, if_neg (by omega), hx_m269.2.1 298 _ rfl, e_m259, rd_wt, if_neg (by omega), hx_m256.2.1 298 _ rfl, e_m247, rd_wt, if_neg (by omega), hx_m244.2.1 298 _ rfl, hx_m207.2.1 298 _ rfl]
        have fr275 : ∀ i j : Nat, ¬ (i = 284 ∧ (j = 11 ∨ j = 13 ∨ j = 14 ∨ j = 15 ∨ j = 16)) → ¬ (i = 299 ∨ i = 300) → ¬ (i = 301 ∧ j = Int.toNat z1_235) → rd m275 i j = rd m i j := fun i j a b c => by rw [hx_m275.2.1 i j (sFt_no (by omega)), e_m272, rd_wt, if_neg (by omega), hx_m269.2.1 i j (sFt_no (by omega)), e_m259, rd_wt, if_neg (by omega), hx_m256.2.1 i j (sFt_no (by omega)), e_m247, rd_wt, if_neg (by omega), hx_m244.2.1 i j (sFt_no (by omega)), hx_m207.2.1 i j (sFt_no (by omega))]
        have k275 : rd m275 301 (Int.toNat z1_235) = v269 := by rw [hx_m275.2.1 301 _ rfl, e_m272, rd_wt, if_pos ⟨rfl, rfl⟩, wr_id (by omega) (by omega)]
        refine ⟨fun hq => ?_, fun hq => ?_⟩
        · skip
          exact ⟨g_m275, by first | exact rp96 | exact rp191 | exact rp297 | exact rp352 | exact rp323 | exact rp408 | exact rd_bad (by omega) (by omega) (by omega)⟩
        · skip
          have t24 := ty_284_19 g_m275.1
          refine ⟨⟨by omega, by omega⟩, ?_⟩
          refine ⟨⟨by omega, by omega⟩, ?_⟩
          have t25 := ty_298 g_m275.1 (Int.toNat (rd m275 284 19))
          try have w26 : wr ((rd m275 298 (Int.toNat (rd m275 284 19))) + 1) = (rd m275 298 (Int.toNat (rd m275 284 19))) + 1 := wr_id (by omega) (by omega)
          intro m297 e_m297
          have g_m297 : PX m0 m297 := by rw [e_m297]; exact PX.wt g_m275 (tw_298 g_m275.1 ⟨by omega, by omega⟩) (inP_s (by omega) (by omega))
          have m297_11 : rd m297 284 11 = rd m275 284 11 := by rw [e_m297, rd_wt, if_neg (by omega)]
          have m297_13 : rd m297 284 13 = rd m275 284 13 := by rw [e_m297, rd_wt, if_neg (by omega)]
          have m297_15 : rd m297 284 15 = rd m275 284 15 := by rw [e_m297, rd_wt, if_neg (by omega)]
          have m297_19 : rd m297 284 19 = rd m275 284 19 := by rw [e_m297, rd_wt, if_neg (by omega)]
          have fr297 : ∀ i j : Nat, ¬ (i = 284 ∧ (j = 11 ∨ j = 13 ∨ j = 14 ∨ j = 15 ∨ j = 16)) → ¬ (298 ≤ i ∧ i ≤ 300) → ¬ (i = 301 ∧ j = Int.toNat z1_235) → rd m297 i j = rd m i j := fun i j a b c => by rw [e_m297, rd_wt, if_neg (by omega), fr275 i j (by omega) (by omega) (by omega)]
          have z298 : rd m 298 (Int.toNat (rd m 284 19)) = rd m 298 (Int.toNat (rd m0 284 19)) := by rw [s1]
          have e8 : rd m297 298 (Int.toNat (rd m0 284 19)) = rd m 298 (Int.toNat (rd m0 284 19)) + 1 := by rw [e_m297, s275, rd_wt, if_pos ⟨rfl, rfl⟩, wr_i (wr_rg _), fr275 298 _ (by omega) (by omega) (by omega), wr_id (by omega) (by omega)]
          have k297 : rd m297 301 (Int.toNat z1_235) = v269 := by rw [e_m297, rd_wt, if_neg (by omega), k275]
          have rp297 : rdP m m297 (rd m0 284 19) := rd_keep p0 p1 (fun i j a b => fr297 i j (by omega) (by omega) (by omega)) (by omega) (by omega) (by omega) (fun _ => by rw [fr297 284 20 (by omega) (by omega) (by omega), fr297 302 _ (by omega) (by omega) (by omega)]; exact PI.2.2.2.2.2.1) (fun h1 h2 => va_p (z := z1_235) (PI.2.2.2.2.2.2.2 (by omega)) (fun i j a b => fr297 i j (by omega) (by omega) (by omega)) e8 (by omega) (by omega))
          exact ⟨g_m297, by first | exact rp96 | exact rp191 | exact rp297 | exact rp352 | exact rp323 | exact rp408 | exact rd_bad (by omega) (by omega) (by omega)⟩
      · skip
        exact ⟨g_m207, by first | exact hR_411 | exact rd_bad (by omega) (by omega) (by omega)⟩
    · skip
      have t27 := ty_284_19 g_m.1
      refine ⟨⟨by omega, by omega⟩, ?_⟩
      have t28 := ty_302 g_m.1 (Int.toNat (rd m 284 19))
      refine CV.mono (ct_191   g_m.1 (rd_rg _ _ _) (by unfold rg; decide) (by omega)) (by decide) ?_
      rintro m312 ⟨hx_m312, h_m312⟩
      have g_m312 : PX m0 m312 := PX.ft g_m hx_m312
      have s312 : rd m312 284 19 = rd m0 284 19 := (PX.s g_m312).1
      have c312 : rd m312 302 (Int.toNat (rd m0 284 19)) = rd m 302 (Int.toNat (rd m 284 19)) := by rw [hx_m312.2.1 302 _ rfl, hs.1]
      have t302 := ty_302 g_m312.1 (Int.toNat (rd m0 284 19))
      have n312 : rd m312 284 20 = rd m 284 20 := hx_m312.2.1 284 20 rfl
      refine ⟨fun hq => ?_, fun hq => ?_⟩
      · skip
        exact ⟨g_m312, by first | exact rp96 | exact rp191 | exact rp297 | exact rp352 | exact rp323 | exact rp408 | exact rd_bad (by omega) (by omega) (by omega)⟩
      · skip
        refine CV.mono (ct_194   g_m312 (by omega) (by omega) (by omega) (by omega)) (by decide) ?_
        rintro m323 ⟨g_m323, h_m323⟩
        have rp323 := rd_crate p0 p1 hx_m312 (by omega) h_m323
        exact ⟨g_m323, by first | exact rp96 | exact rp191 | exact rp297 | exact rp352 | exact rp323 | exact rp408 | exact rd_bad (by omega) (by omega) (by omega)⟩
    · skip
      refine ⟨⟨by omega, by omega⟩, ?_⟩
      try have w30 : wr ((rd m 287 (Int.toNat (rd m 284 11))) - 24) = (rd m 287 (Int.toNat (rd m 284 11))) - 24 := wr_id (by omega) (by omega)
      intro z1_370 e_z1_370
      have r_z1_370 : rg z1_370 := by rw [e_z1_370]; exact (wr_rg _)
      refine ⟨fun m_394 => PX m0 m_394 ∧ ((m_394 = m ∧ rd m_394 284 13 = 0 ∧ 0 ≤ z1_370 ∧ z1_370 ≤ 3) ∨ (¬ rd m_394 284 13 = 0 ∧ 0 ≤ rd m_394 284 13 ∧ 0 ≤ rd m_394 284 15)), ?_, ?_⟩
      · skip
        refine ⟨True, ?_, ?_⟩
        · skip
          refine ⟨fun hq => ?_, fun hq => ?_⟩
          · skip
            (first | trivial | omega | (refine ⟨?_, ?_⟩ <;> omega))
          · skip
            refine ⟨⟨by omega, by omega⟩, ?_⟩
            refine ⟨fun hq => ?_, fun hq => ?_⟩
            · skip
              exact ⟨g_m, by first | exact Or.inl ⟨rfl, p1, by omega, by omega⟩ | exact Or.inr (by omega)⟩
            · skip
              (first | trivial | omega | (refine ⟨?_, ?_⟩ <;> omega))
        · intro   hR_389
          refine CV.mono (ct_181   g_m.1 (by unfold rg; decide) (by omega) (by omega)) (by decide) ?_
          rintro m391 ⟨hx_m391, h_m391⟩
          have g_m391 : PX m0 m391 := PX.ft g_m hx_m391
          exact ⟨g_m391, by first | exact Or.inl ⟨rfl, p1, by omega, by omega⟩ | exact Or.inr (by omega)⟩
      · intro m_394  hR_394
        obtain ⟨g_m_394, hR_394⟩ := hR_394
        refine ⟨fun hq => ?_, fun hq => ?_⟩
        · skip
          have q394 : m = m_394 ∧ 0 ≤ z1_370 ∧ z1_370 ≤ 3 := by
            rcases hR_394 with q | q
            · exact ⟨q.1.symm, q.2.2⟩
            · exact absurd hq (by omega)
          obtain ⟨q394, zr⟩ := q394
          subst q394
          refine CV.mono (ct_183   g_m_394.1 (by omega)) (by decide) ?_
          rintro m403 ⟨hx_m403, h_m403⟩
          have g_m403 : PX m0 m403 := PX.ft g_m_394 hx_m403
          have ft403 := ft_go hx_m403 h_m403.2.1 h_m403.2.2
          have c403 := ft403 284 44 (by omega)
          have b403 := ft403 284 38 (by omega)
          have o403 := ft403 284 12 (by omega)
          refine CV.mono (ct_195   g_m403 r_z1_370 zr (by omega) (fun h => by omega) (by refine ⟨by omega, fun h => ?_⟩; omega)) (by decide) ?_
          rintro m408 ⟨g_m408, h_m408⟩
          have rp408 := rd_law p0 p1 ft403 (by omega) (by omega) h_m408
          exact ⟨g_m408, by first | exact rp96 | exact rp191 | exact rp297 | exact rp352 | exact rp323 | exact rp408 | exact rd_bad (by omega) (by omega) (by omega)⟩
        · skip
          exact ⟨g_m_394, by first | exact hR_411 | exact rd_bad (by omega) (by omega) (by omega)⟩
    · skip
      refine ⟨⟨by omega, by omega⟩, ?_⟩
      try have w32 : wr ((rd m 287 (Int.toNat (rd m 284 11))) - 24) = (rd m 287 (Int.toNat (rd m 284 11))) - 24 := wr_id (by omega) (by omega)
      intro z1_370 e_z1_370
      have r_z1_370 : rg z1_370 := by rw [e_z1_370]; exact (wr_rg _)
      refine ⟨fun m_394 => PX m0 m_394 ∧ ((m_394 = m ∧ rd m_394 284 13 = 0 ∧ 0 ≤ z1_370 ∧ z1_370 ≤ 3) ∨ (¬ rd m_394 284 13 = 0 ∧ 0 ≤ rd m_394 284 13 ∧ 0 ≤ rd m_394 284 15)), ?_, ?_⟩
      · skip
        refine ⟨True, ?_, ?_⟩
        · skip
          refine ⟨fun hq => ?_, fun hq => ?_⟩
          · skip
            (first | trivial | omega | (refine ⟨?_, ?_⟩ <;> omega))
          · skip
            refine ⟨⟨by omega, by omega⟩, ?_⟩
            refine ⟨fun hq => ?_, fun hq => ?_⟩
            · skip
              exact ⟨g_m, by first | exact Or.inl ⟨rfl, p1, by omega, by omega⟩ | exact Or.inr (by omega)⟩
            · skip
              (first | trivial | omega | (refine ⟨?_, ?_⟩ <;> omega))
        · intro   hR_389
          refine CV.mono (ct_181   g_m.1 (by unfold rg; decide) (by omega) (by omega)) (by decide) ?_
          rintro m391 ⟨hx_m391, h_m391⟩
          have g_m391 : PX m0 m391 := PX.ft g_m hx_m391
          exact ⟨g_m391, by first | exact Or.inl ⟨rfl, p1, by omega, by omega⟩ | exact Or.inr (by omega)⟩
      · intro m_394  hR_394
        obtain ⟨g_m_394, hR_394⟩ := hR_394
        refine ⟨fun hq => ?_, fun hq => ?_⟩
        · skip
          have q394 : m = m_394 ∧ 0 ≤ z1_370 ∧ z1_370 ≤ 3 := by
            rcases hR_394 with q | q
            · exact ⟨q.1.symm, q.2.2⟩
            · exact absurd hq (by omega)
          obtain ⟨q394, zr⟩ := q394
          subst q394
          refine CV.mono (ct_183   g_m_394.1 (by omega)) (by decide) ?_
          rintro m403 ⟨hx_m403, h_m403⟩
          have g_m403 : PX m0 m403 := PX.ft g_m_394 hx_m403
          have ft403 := ft_go hx_m403 h_m403.2.1 h_m403.2.2
          have c403 := ft403 284 44 (by omega)
          have b403 := ft403 284 38 (by omega)
          have o403 := ft403 284 12 (by omega)
          refine CV.mono (ct_195   g_m403 r_z1_370 zr (by omega) (fun h => by omega) (by refine ⟨by omega, fun h => ?_⟩; omega)) (by decide) ?_
          rintro m408 ⟨g_m408, h_m408⟩
          have rp408 := rd_law p0 p1 ft403 (by omega) (by omega) h_m408
          exact ⟨g_m408, by first | exact rp96 | exact rp191 | exact rp297 | exact rp352 | exact rp323 | exact rp408 | exact rd_bad (by omega) (by omega) (by omega)⟩
        · skip
          exact ⟨g_m_394, by first | exact hR_411 | exact rd_bad (by omega) (by omega) (by omega)⟩
    · skip
      refine ⟨⟨by omega, by omega⟩, ?_⟩
      try have w34 : wr ((rd m 287 (Int.toNat (rd m 284 11))) - 24) = (rd m 287 (Int.toNat (rd m 284 11))) - 24 := wr_id (by omega) (by omega)
      intro z1_370 e_z1_370
      have r_z1_370 : rg z1_370 := by rw [e_z1_370]; exact (wr_rg _)
      refine ⟨fun m_394 => PX m0 m_394 ∧ ((m_394 = m ∧ rd m_394 284 13 = 0 ∧ 0 ≤ z1_370 ∧ z1_370 ≤ 3) ∨ (¬ rd m_394 284 13 = 0 ∧ 0 ≤ rd m_394 284 13 ∧ 0 ≤ rd m_394 284 15)), ?_, ?_⟩
      · skip
        refine ⟨True, ?_, ?_⟩
        · skip
          refine ⟨fun hq => ?_, fun hq => ?_⟩
          · skip
            (first | trivial | omega | (refine ⟨?_, ?_⟩ <;> omega))
          · skip
            refine ⟨⟨by omega, by omega⟩, ?_⟩
            refine ⟨fun hq => ?_, fun hq => ?_⟩
            · skip
              exact ⟨g_m, by first | exact Or.inl ⟨rfl, p1, by omega, by omega⟩ | exact Or.inr (by omega)⟩
            · skip
              (first | trivial | omega | (refine ⟨?_, ?_⟩ <;> omega))
        · intro   hR_389
          refine CV.mono (ct_181   g_m.1 (by unfold rg; decide) (by omega) (by omega)) (by decide) ?_
          rintro m391 ⟨hx_m391, h_m391⟩
          have g_m391 : PX m0 m391 := PX.ft g_m hx_m391
          exact ⟨g_m391, by first | exact Or.inl ⟨rfl, p1, by omega, by omega⟩ | exact Or.inr (by omega)⟩
      · intro m_394  hR_394
        obtain ⟨g_m_394, hR_394⟩ := hR_394
        refine ⟨fun hq => ?_, fun hq => ?_⟩
        · skip
          have q394 : m = m_394 ∧ 0 ≤ z1_370 ∧ z1_370 ≤ 3 := by
            rcases hR_394 with q | q
            · exact ⟨q.1.symm, q.2.2⟩
            · exact absurd hq (by omega)
          obtain ⟨q394, zr⟩ := q394
          subst q394
          refine CV.mono (ct_183   g_m_394.1 (by omega)) (by decide) ?_
          rintro m403 ⟨hx_m403, h_m403⟩
          have g_m403 : PX m0 m403 := PX.ft g_m_394 hx_m403
          have ft403 := ft_go hx_m403 h_m403.2.1 h_m403.2.2
          have c403 := ft403 284 44 (by omega)
          have b403 := ft403 284 38 (by omega)
          have o403 := ft403 284 12 (by omega)
          refine CV.mono (ct_195   g_m403 r_z1_370 zr (by omega) (fun h => by omega) (by refine ⟨by omega, fun h => ?_⟩; omega)) (by decide) ?_
          rintro m408 ⟨g_m408, h_m408⟩
          have rp408 := rd_law p0 p1 ft403 (by omega) (by omega) h_m408
          exact ⟨g_m408, by first | exact rp96 | exact rp191 | exact rp297 | exact rp352 | exact rp323 | exact rp408 | exact rd_bad (by omega) (by omega) (by omega)⟩
        · skip
          exact ⟨g_m_394, by first | exact hR_411 | exact rd_bad (by omega) (by omega) (by omega)⟩
    · skip
      refine ⟨⟨by omega, by omega⟩, ?_⟩
      try have w36 : wr ((rd m 287 (Int.toNat (rd m 284 11))) - 24) = (rd m 287 (Int.toNat (rd m 284 11))) - 24 := wr_id (by omega) (by omega)
      intro z1_370 e_z1_370
      have r_z1_370 : rg z1_370 := by rw [e_z1_370]; exact (wr_rg _)
      refine ⟨fun m_394 => PX m0 m_394 ∧ ((m_394 = m ∧ rd m_394 284 13 = 0 ∧ 0 ≤ z1_370 ∧ z1_370 ≤ 3) ∨ (¬ rd m_394 284 13 = 0 ∧ 0 ≤ rd m_394 284 13 ∧ 0 ≤ rd m_394 284 15)), ?_, ?_⟩
      · skip
        refine ⟨True, ?_, ?_⟩
        · skip
          refine ⟨fun hq => ?_, fun hq => ?_⟩
          · skip
            (first | trivial | omega | (refine ⟨?_, ?_⟩ <;> omega))
          · skip
            refine ⟨⟨by omega, by omega⟩, ?_⟩
            refine ⟨fun hq => ?_, fun hq => ?_⟩
            · skip
              exact ⟨g_m, by first | exact Or.inl ⟨rfl, p1, by omega, by omega⟩ | exact Or.inr (by omega)⟩
            · skip
              (first | trivial | omega | (refine ⟨?_, ?_⟩ <;> omega))
        · intro   hR_389
          refine CV.mono (ct_181   g_m.1 (by unfold rg; decide) (by omega) (by omega)) (by decide) ?_
          rintro m391 ⟨hx_m391, h_m391⟩
          have g_m391 : PX m0 m391 := PX.ft g_m hx_m391
          exact ⟨g_m391, by first | exact Or.inl ⟨rfl, p1, by omega, by omega⟩ | exact Or.inr (by omega)⟩
      · intro m_394  hR_394
        obtain ⟨g_m_394, hR_394⟩ := hR_394
        refine ⟨fun hq => ?_, fun hq => ?_⟩
        · skip
          have q394 : m = m_394 ∧ 0 ≤ z1_370 ∧ z1_370 ≤ 3 := by
            rcases hR_394 with q | q
            · exact ⟨q.1.symm, q.2.2⟩
            · exact absurd hq (by omega)
          obtain ⟨q394, zr⟩ := q394
          subst q394
          refine CV.mono (ct_183   g_m_394.1 (by omega)) (by decide) ?_
          rintro m403 ⟨hx_m403, h_m403⟩
          have g_m403 : PX m0 m403 := PX.ft g_m_394 hx_m403
          have ft403 := ft_go hx_m403 h_m403.2.1 h_m403.2.2
          have c403 := ft403 284 44 (by omega)
          have b403 := ft403 284 38 (by omega)
          have o403 := ft403 284 12 (by omega)
          refine CV.mono (ct_195   g_m403 r_z1_370 zr (by omega) (fun h => by omega) (by refine ⟨by omega, fun h => ?_⟩; omega)) (by decide) ?_
          rintro m408 ⟨g_m408, h_m408⟩
          have rp408 := rd_law p0 p1 ft403 (by omega) (by omega) h_m408
          exact ⟨g_m408, by first | exact rp96 | exact rp191 | exact rp297 | exact rp352 | exact rp323 | exact rp408 | exact rd_bad (by omega) (by omega) (by omega)⟩
        · skip
          exact ⟨g_m_394, by first | exact hR_411 | exact rd_bad (by omega) (by omega) (by omega)⟩
    · skip
      refine CV.mono (ct_183   g_m.1 (by omega)) (by decide) ?_
      rintro m330 ⟨hx_m330, h_m330⟩
      have g_m330 : PX m0 m330 := PX.ft g_m hx_m330
      have s330 : rd m330 284 19 = rd m0 284 19 := (PX.s g_m330).1
      refine CK.mono (ct_193   g_m330.1 (by unfold rg; decide) (by unfold rg; decide) (by omega) (by omega)) (by decide) ?_
      rintro m346 v346 r_v346 ⟨hx_m346, h_m346⟩
      have g_m346 : PX m0 m346 := PX.ft g_m330 hx_m346
      have t38 := ty_284_19 g_m330.1
      refine ⟨⟨by omega, by omega⟩, ?_⟩
      intro m349 e_m349
      have g_m349 : PX m0 m349 := by rw [e_m349]; exact PX.wt g_m346 (tw_306 g_m346.1 ⟨by omega, by omega⟩) (inP_s (by omega) (by omega))
      have m349_11 : rd m349 284 11 = rd m346 284 11 := by rw [e_m349, rd_wt, if_neg (by omega)]
      have m349_13 : rd m349 284 13 = rd m346 284 13 := by rw [e_m349, rd_wt, if_neg (by omega)]
      have m349_15 : rd m349 284 15 = rd m346 284 15 := by rw [e_m349, rd_wt, if_neg (by omega)]
      have m349_19 : rd m349 284 19 = rd m346 284 19 := by rw [e_m349, rd_wt, if_neg (by omega)]
      refine CV.mono (ct_184   g_m349.1 (by unfold rg; decide) (by omega)) (by decide) ?_
      rintro m352 ⟨hx_m352, h_m352⟩
      have g_m352 : PX m0 m352 := PX.ft g_m349 hx_m352
      have fr352 : ∀ i j : Nat, ¬ (i = 284 ∧ (j = 11 ∨ j = 13 ∨ j = 14 ∨ j = 15 ∨ j = 16)) → ¬ i = 306 → rd m352 i j = rd m i j := fun i j a b => by rw [hx_m352.2.1 i j (sFt_no (by omega)), e_m349, rd_wt, if_neg (by omega), hx_m346.2.1 i j (sFt_no (by omega)), hx_m330.2.1 i j (sFt_no (by omega))]
      have rp352 : rdP m m352 (rd m0 284 19) := rd_keep p0 p1 (fun i j a b => fr352 i j (by omega) (by omega)) (by omega) (by omega) (by omega) (fun _ => by rw [fr352 284 20 (by omega) (by omega), fr352 302 _ (by omega) (by omega)]; exact PI.2.2.2.2.2.1) (fun h1 h2 => va_fr (PI.2.2.2.2.2.2.2 (by omega)) (fun i j a => fr352 i j (by omega) (by omega)))
      exact ⟨g_m352, by first | exact rp96 | exact rp191 | exact rp297 | exact rp352 | exact rp323 | exact rp408 | exact rd_bad (by omega) (by omega) (by omega)⟩
    · skip
      refine ⟨⟨by omega, by omega⟩, ?_⟩
      try have w39 : wr ((rd m 287 (Int.toNat (rd m 284 11))) - 24) = (rd m 287 (Int.toNat (rd m 284 11))) - 24 := wr_id (by omega) (by omega)
      intro z1_370 e_z1_370
      have r_z1_370 : rg z1_370 := by rw [e_z1_370]; exact (wr_rg _)
      refine ⟨fun m_394 => PX m0 m_394 ∧ ((m_394 = m ∧ rd m_394 284 13 = 0 ∧ 0 ≤ z1_370 ∧ z1_370 ≤ 3) ∨ (¬ rd m_394 284 13 = 0 ∧ 0 ≤ rd m_394 284 13 ∧ 0 ≤ rd m_394 284 15)), ?_, ?_⟩
      · skip
        refine ⟨True, ?_, ?_⟩
        · skip
          refine ⟨fun hq => ?_, fun hq => ?_⟩
          · skip
            (first | trivial | omega | (refine ⟨?_, ?_⟩ <;> omega))
          · skip
            refine ⟨⟨by omega, by omega⟩, ?_⟩
            refine ⟨fun hq => ?_, fun hq => ?_⟩
            · skip
              exact ⟨g_m, by first | exact Or.inl ⟨rfl, p1, by omega, by omega⟩ | exact Or.inr (by omega)⟩
            · skip
              (first | trivial | omega | (refine ⟨?_, ?_⟩ <;> omega))
        · intro   hR_389
          refine CV.mono (ct_181   g_m.1 (by unfold rg; decide) (by omega) (by omega)) (by decide) ?_
          rintro m391 ⟨hx_m391, h_m391⟩
          have g_m391 : PX m0 m391 := PX.ft g_m hx_m391
          exact ⟨g_m391, by first | exact Or.inl ⟨rfl, p1, by omega, by omega⟩ | exact Or.inr (by omega)⟩
      · intro m_394  hR_394
        obtain ⟨g_m_394, hR_394⟩ := hR_394
        refine ⟨fun hq => ?_, fun hq => ?_⟩
        · skip
          have q394 : m = m_394 ∧ 0 ≤ z1_370 ∧ z1_370 ≤ 3 := by
            rcases hR_394 with q | q
            · exact ⟨q.1.symm, q.2.2⟩
            · exact absurd hq (by omega)
          obtain ⟨q394, zr⟩ := q394
          subst q394
          refine CV.mono (ct_183   g_m_394.1 (by omega)) (by decide) ?_
          rintro m403 ⟨hx_m403, h_m403⟩
          have g_m403 : PX m0 m403 := PX.ft g_m_394 hx_m403
          have ft403 := ft_go hx_m403 h_m403.2.1 h_m403.2.2
          have c403 := ft403 284 44 (by omega)
          have b403 := ft403 284 38 (by omega)
          have o403 := ft403 284 12 (by omega)
          refine CV.mono (ct_195   g_m403 r_z1_370 zr (by omega) (fun h => by omega) (by refine ⟨by omega, fun h => ?_⟩; omega)) (by decide) ?_
          rintro m408 ⟨g_m408, h_m408⟩
          have rp408 := rd_law p0 p1 ft403 (by omega) (by omega) h_m408
          exact ⟨g_m408, by first | exact rp96 | exact rp191 | exact rp297 | exact rp352 | exact rp323 | exact rp408 | exact rd_bad (by omega) (by omega) (by omega)⟩
        · skip
          exact ⟨g_m_394, by first | exact hR_411 | exact rd_bad (by omega) (by omega) (by omega)⟩
  · intro m_411  hR_411
    obtain ⟨g_m_411, hR_411⟩ := hR_411
    exact ⟨g_m_411, by first | exact hR_411 | exact rd_bad (by omega) (by omega) (by omega)⟩
