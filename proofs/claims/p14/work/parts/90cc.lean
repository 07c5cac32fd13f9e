/-- where a law stands in the model's rows -/
def lqR (i j : Nat) : Prop := (307 ≤ i ∧ i ≤ 315) ∨ (i = 284 ∧ (j = 38 ∨ j = 44))
theorem nf_q {i j : Nat} {x : Int} (q : lqR i j) : ¬ (i = 284 ∧ (j = 11 ∨ j = 13 ∨ j = 14 ∨ j = 15 ∨ j = 16)) ∧ ¬ (i = 293 ∨ i = 294) ∧ ¬ (295 ≤ i ∧ i ≤ 297) ∧ ¬ (298 ≤ i ∧ i ≤ 300) ∧ ¬ (i = 301 ∧ j = Int.toNat x) := by unfold lqR at q; omega
theorem nf_w {i j : Nat} {x : Int} (q : lqR i j) : ¬ (i = 284 ∧ (j = 11 ∨ j = 13 ∨ j = 14 ∨ j = 15 ∨ j = 16 ∨ j = 20)) ∧ ¬ (302 ≤ i ∧ i ≤ 304) ∧ ¬ (i = 305 ∧ x ≤ (j : Int)) := by unfold lqR at q; omega
def lqM (m0 m m2 : Mm) (S : Int) : Prop := rd m2 284 13 = 0 → (¬ (4 ≤ tX m0 0 (rd m 284 11) ∧ tX m0 0 (rd m 284 11) ≤ 7) ∧ ∀ i j : Nat, lqR i j → rd m2 i j = rd m i j) ∨ ((4 ≤ tX m0 0 (rd m 284 11) ∧ tX m0 0 (rd m 284 11) ≤ 7) ∧ rd m2 307 (Int.toNat (4 * S + (tX m0 0 (rd m 284 11) - 4))) = rd m 284 38 ∧ rd m2 308 (Int.toNat (4 * S + (tX m0 0 (rd m 284 11) - 4))) = rd m2 284 38 ∧ brL m2 (rd m 284 44) (rd m2 284 44) (rd m 284 38) (LT (tX m0 0) (tX m0 2) 4 (rd m 284 11 + 2)).1 (LT (tX m0 0) (tX m0 2) 4 (rd m 284 11 + 2)).2 (rd m2 284 38) ∧ (∀ i j : Nat, (i = 307 ∨ i = 308) → ¬ (j : Int) = 4 * S + (tX m0 0 (rd m 284 11) - 4) → rd m2 i j = rd m i j) ∧ ∀ i j : Nat, ((309 ≤ i ∧ i ≤ 313) ∧ (j : Int) < rd m 284 38) ∨ ((i = 314 ∨ i = 315) ∧ (j : Int) < rd m 284 44) → rd m2 i j = rd m i j)
theorem nlw {c k c2 : Int} (h : kmR c k) (e : c2 = c) (q : k < 24 ∨ 27 < k) : ¬ (4 ≤ c2 ∧ c2 ≤ 7) := by unfold kmR at h; omega
theorem lq_o {m0 m m2 : Mm} {S : Int} (k : ¬ (4 ≤ tX m0 0 (rd m 284 11) ∧ tX m0 0 (rd m 284 11) ≤ 7)) (f : ∀ i j : Nat, lqR i j → rd m2 i j = rd m i j) : lqM m0 m m2 S := fun _ => Or.inl ⟨k, f⟩
theorem lq_l {m0 m m403 m408 : Mm} {S x1 : Int} (k : 4 ≤ tX m0 0 (rd m 284 11) ∧ tX m0 0 (rd m 284 11) ≤ 7) (go : goP m m403) (ft : ftRel m m403) (w : lwM (kC m0) (vC m0) m403 m408 x1 S) (ex : x1 = tX m0 0 (rd m 284 11) - 4) (z4 : rd m408 284 13 = 0 → rd m403 284 13 = 0) : lqM m0 m m408 S := fun z => by
  have z403 := z4 z
  have t403 : rd m403 284 11 = rd m 284 11 + 1 := by unfold goP at go; omega
  obtain ⟨a, b, c, d, e⟩ := w z
  have b38 := ft 284 38 (by omega)
  have c44 := ft 284 44 (by omega)
  rw [ex] at a b d
  rw [b38] at a
  rw [b38, c44, t403] at c
  rw [b38, c44] at e
  refine Or.inr ⟨k, a, b, ?_, fun i j p q => (d i j p q).trans (ft i j (by omega)), fun i j p => (e i j p).trans (ft i j (by omega))⟩
  have e2 : rd m 284 11 + 1 + 1 = rd m 284 11 + 2 := by omega
  rw [e2] at c
  exact c
