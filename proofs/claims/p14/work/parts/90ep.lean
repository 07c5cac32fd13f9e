/-! what is counted, of a row F -/
def mkF (F : Nat → Int) : Nat → Int
  | 0 => 0
  | n + 1 => if 0 < F n then orI (mkF F n) (slI 1 (n : Int)) else mkF F n
def smF (F : Nat → Int) : Nat → Int
  | 0 => 0
  | n + 1 => wr (smF F n + F n)
def gmF (F : Nat → Int) : Nat → Int
  | 0 => 0
  | n + 1 => max (gmF F n) (F n)
def fcF (F : Nat → Int) : Nat → Int
  | 0 => 0
  | n + 1 => orI (fcF F n) (slI 1 (F n))
def hdF (F : Nat → Int) : Nat → Int
  | 0 => 0
  | n + 1 => wr (hdF F n + (if F n = 0 then 0 else 1))
def fr4 (Y r : Ro) (c : Int) : Prop := canB Y r c 0 = true ∨ canB Y r c 1 = true ∨ canB Y r c 2 = true ∨ canB Y r c 3 = true
def stF (Y r : Ro) : Nat → Int
  | 0 => 0
  | n + 1 => if canB Y r (n : Int) 0 = true ∨ canB Y r (n : Int) 1 = true ∨ canB Y r (n : Int) 2 = true ∨ canB Y r (n : Int) 3 = true then stF Y r n else orI (stF Y r n) (slI 1 (n : Int))
section CNF
variable {F G : Nat → Int} {x y z w u s : Int}
theorem mkF_s (h : x = mkF F (Int.toNat w)) (hw : 0 ≤ w) (ez : z = w + 1) (e : (F (Int.toNat w) ≤ 0 ∧ y = x) ∨ (¬ F (Int.toNat w) ≤ 0 ∧ y = orI x (slI 1 w))) : y = mkF F (Int.toNat z) := by
  rw [show Int.toNat z = Int.toNat w + 1 by omega]
  show y = if 0 < F (Int.toNat w) then orI (mkF F (Int.toNat w)) (slI 1 ((Int.toNat w : Nat) : Int)) else mkF F (Int.toNat w)
  rw [show ((Int.toNat w : Nat) : Int) = w by omega, ← h]
  rcases e with ⟨a, b⟩ | ⟨a, b⟩
  · rw [if_neg (by omega), b]
  · rw [if_pos (by omega), b]
theorem smF_s (h : x = smF F (Int.toNat w)) (hw : 0 ≤ w) (ez : z = w + 1) (eu : u = F (Int.toNat w)) (ey : y = wr (x + u)) : y = smF F (Int.toNat z) := by
  rw [show Int.toNat z = Int.toNat w + 1 by omega]
  show y = wr (smF F (Int.toNat w) + F (Int.toNat w))
  rw [← h, ← eu, ey]
theorem gmF_s (h : x = gmF F (Int.toNat w)) (hw : 0 ≤ w) (ez : z = w + 1) (eu : u = F (Int.toNat w)) (ey : y = max x u) : y = gmF F (Int.toNat z) := by
  rw [show Int.toNat z = Int.toNat w + 1 by omega]
  show y = max (gmF F (Int.toNat w)) (F (Int.toNat w))
  rw [← h, ← eu, ey]
theorem fcF_s (h : x = fcF F (Int.toNat w)) (hw : 0 ≤ w) (ez : z = w + 1) (ey : y = orI x (slI 1 (F (Int.toNat w)))) : y = fcF F (Int.toNat z) := by
  rw [show Int.toNat z = Int.toNat w + 1 by omega]
  show y = orI (fcF F (Int.toNat w)) (slI 1 (F (Int.toNat w)))
  rw [← h, ey]
theorem hdF_s (h : x = hdF F (Int.toNat w)) (hw : 0 ≤ w) (ez : z = w + 1) (eu : u = F (Int.toNat w)) (es : (u = 0 ∧ s = 0) ∨ (¬ u = 0 ∧ s = 1)) (ey : y = wr (x + s)) : y = hdF F (Int.toNat z) := by
  rw [show Int.toNat z = Int.toNat w + 1 by omega]
  show y = wr (hdF F (Int.toNat w) + (if F (Int.toNat w) = 0 then 0 else 1))
  rw [← h, ← eu, ey]
  rcases es with ⟨a, b⟩ | ⟨a, b⟩
  · rw [if_pos a, b]
  · rw [if_neg a, b]
theorem mkF_cg : ∀ {n : Nat}, (∀ j, j < n → F j = G j) → mkF F n = mkF G n
  | 0, _ => rfl
  | n + 1, h => by
    show (if 0 < F n then orI (mkF F n) (slI 1 (n : Int)) else mkF F n) = (if 0 < G n then orI (mkF G n) (slI 1 (n : Int)) else mkF G n)
    rw [mkF_cg (n := n) (fun j q => h j (by omega)), h n (by omega)]
theorem smF_cg : ∀ {n : Nat}, (∀ j, j < n → F j = G j) → smF F n = smF G n
  | 0, _ => rfl
  | n + 1, h => by
    show wr (smF F n + F n) = wr (smF G n + G n)
    rw [smF_cg (n := n) (fun j q => h j (by omega)), h n (by omega)]
theorem gmF_cg : ∀ {n : Nat}, (∀ j, j < n → F j = G j) → gmF F n = gmF G n
  | 0, _ => rfl
  | n + 1, h => by
    show max (gmF F n) (F n) = max (gmF G n) (G n)
    rw [gmF_cg (n := n) (fun j q => h j (by omega)), h n (by omega)]
theorem fcF_cg : ∀ {n : Nat}, (∀ j, j < n → F j = G j) → fcF F n = fcF G n
  | 0, _ => rfl
  | n + 1, h => by
    show orI (fcF F n) (slI 1 (F n)) = orI (fcF G n) (slI 1 (G n))
    rw [fcF_cg (n := n) (fun j q => h j (by omega)), h n (by omega)]
theorem hdF_cg : ∀ {n : Nat}, (∀ j, j < n → F j = G j) → hdF F n = hdF G n
  | 0, _ => rfl
  | n + 1, h => by
    show wr (hdF F n + (if F n = 0 then 0 else 1)) = wr (hdF G n + (if G n = 0 then 0 else 1))
    rw [hdF_cg (n := n) (fun j q => h j (by omega)), h n (by omega)]
theorem smF_rg : ∀ n : Nat, rg (smF F n)
  | 0 => by show rg 0; unfold rg; decide
  | _ + 1 => wr_rg _
theorem gmF_0 : ∀ n : Nat, 0 ≤ gmF F n
  | 0 => Int.le_refl _
  | n + 1 => by
    have h := gmF_0 n
    show 0 ≤ max (gmF F n) (F n)
    omega
theorem mkF_z {n : Nat} : ∀ {N : Nat}, n ≤ N → (∀ j, n ≤ j → j < N → F j = 0) → mkF F N = mkF F n
  | 0, le, _ => by rw [show n = 0 by omega]
  | N + 1, le, h => by
    by_cases q : n = N + 1
    · rw [q]
    · show (if 0 < F N then orI (mkF F N) (slI 1 (N : Int)) else mkF F N) = mkF F n
      rw [if_neg (by rw [h N (by omega) (by omega)]; decide), mkF_z (N := N) (by omega) (fun j h1 h2 => h j h1 (by omega))]
theorem smF_z {n : Nat} : ∀ {N : Nat}, n ≤ N → (∀ j, n ≤ j → j < N → F j = 0) → smF F N = smF F n
  | 0, le, _ => by rw [show n = 0 by omega]
  | N + 1, le, h => by
    by_cases q : n = N + 1
    · rw [q]
    · show wr (smF F N + F N) = smF F n
      rw [h N (by omega) (by omega), Int.add_zero, wr_i (smF_rg N), smF_z (N := N) (by omega) (fun j h1 h2 => h j h1 (by omega))]
theorem gmF_z {n : Nat} : ∀ {N : Nat}, n ≤ N → (∀ j, n ≤ j → j < N → F j = 0) → gmF F N = gmF F n
  | 0, le, _ => by rw [show n = 0 by omega]
  | N + 1, le, h => by
    by_cases q : n = N + 1
    · rw [q]
    · show max (gmF F N) (F N) = gmF F n
      have g0 := gmF_0 (F := F) N
      rw [h N (by omega) (by omega), Int.max_eq_left g0, gmF_z (N := N) (by omega) (fun j h1 h2 => h j h1 (by omega))]
end CNF
/-- beyond the yard no marks, of crates that are not there none -/
def zR (Y r : Ro) : Prop := (∀ j : Nat, Y 0 * Y 1 ≤ (j : Int) → j < 25 → r j = 0) ∧ ∀ j : Nat, 25 + 6 * Y 3 ≤ (j : Int) → j < 43 → r j = 0
def cn2A (A : Ab) (x : Int) : Int := if x = 6 then mkF A.r (Int.toNat (A.Y 0 * A.Y 1)) else if x = 7 then smF A.r (Int.toNat (A.Y 0 * A.Y 1)) else if x = 12 then wr (wr (A.r 46 + A.r 47) + A.r 48) else if x = 13 then fcF (fun c : Nat => A.r (43 + c)) (Int.toNat (A.Y 3)) else if x = 14 then gmF A.r (Int.toNat (A.Y 0 * A.Y 1)) else if x = 15 then stF A.Y A.r (Int.toNat (A.Y 3)) else if x = 16 then wr (wr (A.r 25 + A.r 31) + A.r 37) else -1
def cntA (A : Ab) (t q x : Int) : Int := if x = 0 then A.Y 0 else if x = 1 then A.Y 1 else if x = 2 then A.Y 3 else if x = 3 then A.r 49 else if x = 4 then A.r 50 else if x = 5 then A.Y 2 else if x = 8 then t else if x = 9 then (A.n : Int) else if x = 10 then q else if x = 11 then hdF A.K 3 else cn2A A x
/-- the ways tried so far of a crate -/
def skW (m : Mm) (x2 x3 x4 : Int) : Prop := (x3 = 0 ∨ x3 = 1) ∧ ∀ A, cA m A → (x3 = 0 ↔ ∀ k : Int, 0 ≤ k → k < x4 → canB A.Y A.r x2 k = false)
theorem sk_a {m : Mm} {x2 x3 x4 v y z : Int} (d : skW m x2 x3 x4) (p : (v = 1 ∧ canT m 274 x2 x4) ∨ (v = 0 ∧ ¬ canT m 274 x2 x4)) (hx : 0 ≤ x2 ∧ x2 < rd m 7 3) (h4 : 0 ≤ x4 ∧ x4 ≤ 3) (ey : y = orI x3 v) (ez : z = x4 + 1) : skW m x2 y z := by
  have hv : v = 0 ∨ v = 1 := by
    rcases p with ⟨a, -⟩ | ⟨a, -⟩
    · exact Or.inr a
    · exact Or.inl a
  have o : (orI x3 v = 0 ∨ orI x3 v = 1) ∧ (orI x3 v = 0 ↔ x3 = 0 ∧ v = 0) := by
    have d1 := d.1
    clear d p ey
    rcases d1 with rfl | rfl <;> rcases hv with rfl | rfl <;> decide
  rw [← ey] at o
  refine ⟨o.1, fun A h => ?_⟩
  have e := d.2 A h
  have c := can_C (m := m) (a := 274) (Y := A.Y) (r := A.r) (E := A.E) ⟨h.1, h.2.2.1.2, h.2.1, h.2.2.1.1⟩ (x2 := x2) (by rw [h.2.2.1.2.1, ← h.1.1.2.2.2.1]; exact hx) (x3 := x4) h4
  have b : v = 0 ↔ canB A.Y A.r x2 x4 = false := ⟨fun w => eq_false_of_ne_true (fun q => or_0 p w (c.mpr (canB_t.mp q))), fun w => hv.resolve_right (fun q => ne_true_of_eq_false w (canB_t.mpr (c.mp (or_1 p (by omega)))))⟩
  constructor
  · intro q k h0 hk
    have t := o.2.mp q
    by_cases q4 : k < x4
    · exact e.mp t.1 k h0 q4
    · rw [show k = x4 by omega]
      exact b.mp t.2
  · intro q
    exact o.2.mpr ⟨e.mpr (fun k h0 hk => q k h0 (by omega)), b.mpr (q x4 h4.1 (by omega))⟩
theorem sk_b {A : Ab} {x1 x2 x3 x4 y z : Int} (d : x1 = stF A.Y A.r (Int.toNat x2)) (e : x3 = 0 ↔ ∀ k : Int, 0 ≤ k → k < x4 → canB A.Y A.r x2 k = false) (p : (¬ x3 = 0 ∧ y = x1) ∨ (x3 = 0 ∧ y = orI x1 (slI 1 x2))) (h4 : x4 = 4) (ez : 0 ≤ x2 ∧ z = x2 + 1) : y = stF A.Y A.r (Int.toNat z) := by
  rw [show Int.toNat z = Int.toNat x2 + 1 by omega]
  show y = if canB A.Y A.r ((Int.toNat x2 : Nat) : Int) 0 = true ∨ canB A.Y A.r ((Int.toNat x2 : Nat) : Int) 1 = true ∨ canB A.Y A.r ((Int.toNat x2 : Nat) : Int) 2 = true ∨ canB A.Y A.r ((Int.toNat x2 : Nat) : Int) 3 = true then stF A.Y A.r (Int.toNat x2) else orI (stF A.Y A.r (Int.toNat x2)) (slI 1 ((Int.toNat x2 : Nat) : Int))
  rw [show ((Int.toNat x2 : Nat) : Int) = x2 by omega, ← d]
  rcases p with ⟨a, b⟩ | ⟨a, b⟩
  · rw [if_pos ?_]
    · exact b
    · apply Decidable.byContradiction
      intro n
      apply a
      apply e.mpr
      intro k h0 hk
      apply eq_false_of_ne_true
      intro w
      apply n
      have hk4 : k = 0 ∨ k = 1 ∨ k = 2 ∨ k = 3 := by omega
      rcases hk4 with rfl | rfl | rfl | rfl
      · exact Or.inl w
      · exact Or.inr (Or.inl w)
      · exact Or.inr (Or.inr (Or.inl w))
      · exact Or.inr (Or.inr (Or.inr w))
  · have w := e.mp a
    rw [if_neg ?_]
    · exact b
    · rw [w 0 (by omega) (by omega), w 1 (by omega) (by omega), w 2 (by omega) (by omega), w 3 (by omega) (by omega)]
      decide
section CNA
variable {m : Mm} {A : Ab} {x v t q : Int}
theorem cn_6 (h : cA m A) (z : zR A.Y A.r) (k : x = 6) (e : v = mkF (rd m 275) 25) : v = cn2A A x := by
  have b := wh_b h.2.1.1 h.2.1.2.1
  unfold cn2A
  rw [if_pos k, e, mkF_cg (fun j hj => h.2.2.1.2.2.1 j hj)]
  exact mkF_z (by omega) (fun j h1 h2 => z.1 j (by omega) h2)
theorem cn_7 (h : cA m A) (z : zR A.Y A.r) (k : x = 7) (e : v = smF (rd m 275) 25) : v = cn2A A x := by
  have b := wh_b h.2.1.1 h.2.1.2.1
  unfold cn2A
  rw [if_neg (by omega), if_pos k, e, smF_cg (fun j hj => h.2.2.1.2.2.1 j hj)]
  exact smF_z (by omega) (fun j h1 h2 => z.1 j (by omega) h2)
theorem cn_14 (h : cA m A) (z : zR A.Y A.r) (k : x = 14) (e : v = gmF (rd m 275) 25) : v = cn2A A x := by
  have b := wh_b h.2.1.1 h.2.1.2.1
  unfold cn2A
  rw [if_neg (by omega), if_neg (by omega), if_neg (by omega), if_neg (by omega), if_pos k, e, gmF_cg (fun j hj => h.2.2.1.2.2.1 j hj)]
  exact gmF_z (by omega) (fun j h1 h2 => z.1 j (by omega) h2)
theorem cn_12 (h : cA m A) (k : x = 12) (e : v = smF (rd m 278) 3) : v = cn2A A x := by
  have T := h.2.2.1.2.2.2.2.2.1
  have t0 : rd m 278 0 = A.r 46 := T 0 (by omega) (by omega)
  have t1 : rd m 278 1 = A.r 47 := T 1 (by omega) (by omega)
  have t2 : rd m 278 2 = A.r 48 := T 2 (by omega) (by omega)
  have e2 : v = wr (wr (wr (0 + rd m 278 0) + rd m 278 1) + rd m 278 2) := e
  unfold cn2A
  rw [if_neg (by omega), if_neg (by omega), if_pos k, e2, Int.zero_add, wr_i (rd_rg m 278 0), t0, t1, t2]
theorem cn_13 (h : cA m A) (k : x = 13) (e : v = fcF (rd m 276) (Int.toNat (rd m 274 4))) : v = cn2A A x := by
  have T := h.2.2.1.2.2.2.1
  rw [h.2.2.1.2.1] at e
  unfold cn2A
  rw [if_neg (by omega), if_neg (by omega), if_neg (by omega), if_pos k, e]
  refine fcF_cg (fun j hj => ?_)
  have w := T (j : Int) (by omega) (by omega)
  rw [show Int.toNat (j : Int) = j by omega] at w
  rw [w]
  exact congrArg A.r (by omega)
theorem cn_15 (k : x = 15) (e : v = stF A.Y A.r (Int.toNat (A.Y 3))) : v = cn2A A x := by
  unfold cn2A
  rw [if_neg (by omega), if_neg (by omega), if_neg (by omega), if_neg (by omega), if_neg (by omega), if_pos k]
  exact e
theorem sm_tp {Y r : Ro} (y : 0 ≤ Y 3 ∧ Y 3 ≤ 3) (z : zR Y r) (g : rg (r 25)) : smF (fun c : Nat => r (25 + 6 * c)) (Int.toNat (Y 3)) = wr (wr (r 25 + r 31) + r 37) := by
  rw [← smF_z (F := fun c : Nat => r (25 + 6 * c)) (n := Int.toNat (Y 3)) (N := 3) (by omega) (fun j h1 h2 => z.2 _ (by omega) (by omega))]
  show wr (wr (wr (0 + r 25) + r 31) + r 37) = _
  rw [Int.zero_add, wr_i g]
theorem cn_16 (h : cA m A) (z : zR A.Y A.r) (k : x = 16) (e : v = smF (fun c : Nat => rd m 277 (6 * c)) (Int.toNat (rd m 274 4))) : v = cn2A A x := by
  have T := h.2.2.1.2.2.2.2.1
  have y3 := h.2.1.2.2
  rw [h.2.2.1.2.1] at e
  unfold cn2A
  rw [if_neg (by omega), if_neg (by omega), if_neg (by omega), if_neg (by omega), if_neg (by omega), if_neg (by omega), if_pos k, e]
  have g : rg (A.r 25) := by
    by_cases q : A.Y 3 = 0
    · rw [z.2 25 (by omega) (by omega)]; unfold rg; decide
    · have w : rd m 277 0 = A.r 25 := T 0 (by omega) (by omega)
      rw [← w]; exact rd_rg _ _ _
  rw [← sm_tp y3 z g]
  refine smF_cg (fun j hj => ?_)
  have w := T (6 * (j : Int)) (by omega) (by omega)
  rw [show Int.toNat (6 * (j : Int)) = 6 * j by omega] at w
  rw [w]
  exact congrArg A.r (by omega)
theorem cn_n (k : x < 6 ∨ (8 ≤ x ∧ x ≤ 11) ∨ 16 < x) : (-1 : Int) = cn2A A x := by
  unfold cn2A
  rw [if_neg (by omega), if_neg (by omega), if_neg (by omega), if_neg (by omega), if_neg (by omega), if_neg (by omega), if_neg (by omega)]
theorem cnt_2 (k : ¬ (0 ≤ x ∧ x ≤ 5) ∧ ¬ (8 ≤ x ∧ x ≤ 11)) : cntA A t q x = cn2A A x := by
  unfold cntA
  rw [if_neg (by omega), if_neg (by omega), if_neg (by omega), if_neg (by omega), if_neg (by omega), if_neg (by omega), if_neg (by omega), if_neg (by omega), if_neg (by omega), if_neg (by omega)]
theorem cnt_0 (k : x = 0) : A.Y 0 = cntA A t q x := by unfold cntA; rw [if_pos k]
theorem cnt_1 (k : x = 1) : A.Y 1 = cntA A t q x := by unfold cntA; rw [if_neg (by omega), if_pos k]
theorem cnt_c (k : x = 2) : A.Y 3 = cntA A t q x := by unfold cntA; rw [if_neg (by omega), if_neg (by omega), if_pos k]
theorem cnt_3 (k : x = 3) : A.r 49 = cntA A t q x := by unfold cntA; rw [if_neg (by omega), if_neg (by omega), if_neg (by omega), if_pos k]
theorem cnt_4 (k : x = 4) : A.r 50 = cntA A t q x := by unfold cntA; rw [if_neg (by omega), if_neg (by omega), if_neg (by omega), if_neg (by omega), if_pos k]
theorem cnt_5 (k : x = 5) : A.Y 2 = cntA A t q x := by unfold cntA; rw [if_neg (by omega), if_neg (by omega), if_neg (by omega), if_neg (by omega), if_neg (by omega), if_pos k]
theorem cnt_8 (k : x = 8) : t = cntA A t q x := by unfold cntA; rw [if_neg (by omega), if_neg (by omega), if_neg (by omega), if_neg (by omega), if_neg (by omega), if_neg (by omega), if_pos k]
theorem cnt_9 (k : x = 9) : (A.n : Int) = cntA A t q x := by unfold cntA; rw [if_neg (by omega), if_neg (by omega), if_neg (by omega), if_neg (by omega), if_neg (by omega), if_neg (by omega), if_neg (by omega), if_pos k]
theorem cnt_10 (k : x = 10) : q = cntA A t q x := by unfold cntA; rw [if_neg (by omega), if_neg (by omega), if_neg (by omega), if_neg (by omega), if_neg (by omega), if_neg (by omega), if_neg (by omega), if_neg (by omega), if_pos k]
theorem cnt_h (k : x = 11) : hdF A.K 3 = cntA A t q x := by unfold cntA; rw [if_neg (by omega), if_neg (by omega), if_neg (by omega), if_neg (by omega), if_neg (by omega), if_neg (by omega), if_neg (by omega), if_neg (by omega), if_neg (by omega), if_pos k]
theorem cnt_11 (h : cA m A) (k : x = 11) (e : v = hdF (rd m 58) 3) : v = cntA A t q x := by
  rw [← cnt_h k, e]
  exact hdF_cg (fun j hj => (h.2.2.2.2.2 j hj).1)
end CNA
-- TippedCrates$State.markedFlags()I
set_option maxRecDepth 20000 in
theorem ey_79 {m : Mm} {a : Nat}  (T_m : Ty m) (h_a : isSt a)  : CK 1 79 [.ref a] m (fun m2 v => m2 = m ∧ ((True) ∧ (v = mkF (rd m (a + 1)) 25))) := by
  refine br_79 h_a ?_
  unfold P_79
  refine ⟨fun x1_4 x2_4 => (0 ≤ x2_4 ∧ x2_4 ≤ 25) ∧ (x1_4 = mkF (rd m (a + 1)) (Int.toNat x2_4)), fun x1_4 x2_4 => Int.toNat (25 - x2_4), ?_, ?_⟩
  · (exact ⟨by first | omega | (refine ⟨?_, ?_⟩ <;> omega) | trivial, by rfl⟩)
  · intro x1_4 x2_4 r_x1_4 r_x2_4 hI_4
    obtain ⟨hI_4, dI_4⟩ := hI_4
    refine ⟨fun hq => ?_, fun hq => ?_⟩
    · skip
      exact ⟨rfl, by exact ⟨by first | trivial | omega | (refine ⟨?_, ?_⟩ <;> omega), by exact dI_4.trans (congrArg (mkF (rd m (a + 1))) (by omega))⟩⟩
    · skip
      refine ⟨⟨by omega, by omega⟩, ?_⟩
      have t1 := ty_sM T_m h_a (Int.toNat x2_4)
      refine ⟨fun y1_25 => (rd m (a + 1) (Int.toNat x2_4) ≤ 0 ∧ y1_25 = x1_4) ∨ (¬ rd m (a + 1) (Int.toNat x2_4) ≤ 0 ∧ y1_25 = orI x1_4 (slI 1 x2_4)), ?_, ?_⟩
      · skip
        refine ⟨fun hq => ?_, fun hq => ?_⟩
        · skip
          (first | exact Or.inl ⟨by assumption, rfl⟩ | exact Or.inr ⟨by assumption, by assumption⟩)
        · skip
          intro z1_24 e_z1_24
          have r_z1_24 : rg z1_24 := by rw [e_z1_24]; exact (io_rg _ _ _)
          (first | exact Or.inl ⟨by assumption, rfl⟩ | exact Or.inr ⟨by assumption, by assumption⟩)
      · intro y1_25 r_y1_25 hR_25
        try have w2 : wr (x2_4 + 1) = x2_4 + 1 := wr_id (by omega) (by omega)
        intro z2_25 e_z2_25
        have r_z2_25 : rg z2_25 := by rw [e_z2_25]; exact wr_rg _
        exact ⟨by exact ⟨by first | omega | (refine ⟨?_, ?_⟩ <;> omega) | trivial, by exact mkF_s dI_4 (by omega) (by omega) hR_25⟩, by (try dsimp only); omega⟩
-- TippedCrates$State.sumOfMarks()I
set_option maxRecDepth 20000 in
theorem ey_80 {m : Mm} {a : Nat}  (T_m : Ty m) (h_a : isSt a)  : CK 1 80 [.ref a] m (fun m2 v => m2 = m ∧ ((True) ∧ (v = smF (rd m (a + 1)) 25))) := by
  refine br_80 h_a ?_
  unfold P_80
  refine ⟨fun x1_13 x4_13 => (0 ≤ x4_13 ∧ x4_13 ≤ 25) ∧ (x1_13 = smF (rd m (a + 1)) (Int.toNat x4_13)), fun x1_13 x4_13 => Int.toNat (25 - x4_13), ?_, ?_⟩
  · (exact ⟨by first | omega | (refine ⟨?_, ?_⟩ <;> omega) | trivial, by rfl⟩)
  · intro x1_13 x4_13 r_x1_13 r_x4_13 hI_13
    obtain ⟨hI_13, dI_13⟩ := hI_13
    refine ⟨fun hq => ?_, fun hq => ?_⟩
    · skip
      exact ⟨rfl, by exact ⟨by first | trivial | omega | (refine ⟨?_, ?_⟩ <;> omega), by exact dI_13.trans (congrArg (smF (rd m (a + 1))) (by omega))⟩⟩
    · skip
      refine ⟨⟨by omega, by omega⟩, ?_⟩
      have t1 := ty_sM T_m h_a (Int.toNat x4_13)
      intro z5_23 e_z5_23
      have r_z5_23 : rg z5_23 := by rw [e_z5_23]; exact (rd_rg _ _ _)
      try have w2 : wr (x1_13 + z5_23) = x1_13 + z5_23 := wr_id (by omega) (by omega)
      intro z1_29 e_z1_29
      have r_z1_29 : rg z1_29 := by rw [e_z1_29]; exact (wr_rg _)
      try have w3 : wr (x4_13 + 1) = x4_13 + 1 := wr_id (by omega) (by omega)
      intro z4_30 e_z4_30
      have r_z4_30 : rg z4_30 := by rw [e_z4_30]; exact wr_rg _
      exact ⟨by exact ⟨by first | omega | (refine ⟨?_, ?_⟩ <;> omega) | trivial, by exact smF_s dI_13 (by omega) (by omega) e_z5_23 e_z1_29⟩, by (try dsimp only); omega⟩
-- TippedCrates$State.greatestMark()I
set_option maxRecDepth 20000 in
theorem ey_81 {m : Mm} {a : Nat}  (T_m : Ty m) (h_a : isSt a)  : CK 1 81 [.ref a] m (fun m2 v => m2 = m ∧ ((True) ∧ (v = gmF (rd m (a + 1)) 25))) := by
  refine br_81 h_a ?_
  unfold P_81
  refine ⟨fun x1_13 x4_13 => (0 ≤ x4_13 ∧ x4_13 ≤ 25) ∧ (x1_13 = gmF (rd m (a + 1)) (Int.toNat x4_13)), fun x1_13 x4_13 => Int.toNat (25 - x4_13), ?_, ?_⟩
  · (exact ⟨by first | omega | (refine ⟨?_, ?_⟩ <;> omega) | trivial, by rfl⟩)
  · intro x1_13 x4_13 r_x1_13 r_x4_13 hI_13
    obtain ⟨hI_13, dI_13⟩ := hI_13
    refine ⟨fun hq => ?_, fun hq => ?_⟩
    · skip
      exact ⟨rfl, by exact ⟨by first | trivial | omega | (refine ⟨?_, ?_⟩ <;> omega), by exact dI_13.trans (congrArg (gmF (rd m (a + 1))) (by omega))⟩⟩
    · skip
      refine ⟨⟨by omega, by omega⟩, ?_⟩
      have t1 := ty_sM T_m h_a (Int.toNat x4_13)
      intro z5_23 e_z5_23
      have r_z5_23 : rg z5_23 := by rw [e_z5_23]; exact (rd_rg _ _ _)
      intro z1_31 e_z1_31
      have r_z1_31 : rg z1_31 := by rw [e_z1_31]; exact (mx_rg r_x1_13 r_z5_23)
      try have w2 : wr (x4_13 + 1) = x4_13 + 1 := wr_id (by omega) (by omega)
      intro z4_32 e_z4_32
      have r_z4_32 : rg z4_32 := by rw [e_z4_32]; exact wr_rg _
      exact ⟨by exact ⟨by first | omega | (refine ⟨?_, ?_⟩ <;> omega) | trivial, by exact gmF_s dI_13 (by omega) (by omega) e_z5_23 e_z1_31⟩, by (try dsimp only); omega⟩
-- TippedCrates$State.allTips()I
set_option maxRecDepth 20000 in
theorem ey_82 {m : Mm} {a : Nat}  (T_m : Ty m) (h_a : isSt a)  : CK 1 82 [.ref a] m (fun m2 v => m2 = m ∧ ((True) ∧ (v = smF (rd m (a + 4)) 3))) := by
  refine br_82 h_a ?_
  unfold P_82
  refine ⟨fun x1_13 x4_13 => (0 ≤ x4_13 ∧ x4_13 ≤ 3) ∧ (x1_13 = smF (rd m (a + 4)) (Int.toNat x4_13)), fun x1_13 x4_13 => Int.toNat (3 - x4_13), ?_, ?_⟩
  · (exact ⟨by first | omega | (refine ⟨?_, ?_⟩ <;> omega) | trivial, by rfl⟩)
  · intro x1_13 x4_13 r_x1_13 r_x4_13 hI_13
    obtain ⟨hI_13, dI_13⟩ := hI_13
    refine ⟨fun hq => ?_, fun hq => ?_⟩
    · skip
      exact ⟨rfl, by exact ⟨by first | trivial | omega | (refine ⟨?_, ?_⟩ <;> omega), by exact dI_13.trans (congrArg (smF (rd m (a + 4))) (by omega))⟩⟩
    · skip
      refine ⟨⟨by omega, by omega⟩, ?_⟩
      intro z5_23 e_z5_23
      have r_z5_23 : rg z5_23 := by rw [e_z5_23]; exact (rd_rg _ _ _)
      try have w2 : wr (x1_13 + z5_23) = x1_13 + z5_23 := wr_id (by omega) (by omega)
      intro z1_29 e_z1_29
      have r_z1_29 : rg z1_29 := by rw [e_z1_29]; exact (wr_rg _)
      try have w3 : wr (x4_13 + 1) = x4_13 + 1 := wr_id (by omega) (by omega)
      intro z4_30 e_z4_30
      have r_z4_30 : rg z4_30 := by rw [e_z4_30]; exact wr_rg _
      exact ⟨by exact ⟨by first | omega | (refine ⟨?_, ?_⟩ <;> omega) | trivial, by exact smF_s dI_13 (by omega) (by omega) e_z5_23 e_z1_29⟩, by (try dsimp only); omega⟩
-- TippedCrates$State.flagsWithCrates()I
set_option maxRecDepth 20000 in
theorem ey_83 {m : Mm} {a : Nat}  (T_m : Ty m) (h_a : isSt a)  : CK 1 83 [.ref a] m (fun m2 v => m2 = m ∧ ((True) ∧ (v = fcF (rd m (a + 2)) (Int.toNat (rd m a 4))))) := by
  refine br_83 h_a ?_
  unfold P_83
  refine ⟨fun x1_4 x2_4 => (0 ≤ x2_4 ∧ x2_4 ≤ 3) ∧ (x2_4 ≤ rd m a 4 ∧ x1_4 = fcF (rd m (a + 2)) (Int.toNat x2_4)), fun x1_4 x2_4 => Int.toNat (3 - x2_4), ?_, ?_⟩
  · (exact ⟨by first | omega | (refine ⟨?_, ?_⟩ <;> omega) | trivial, by exact ⟨(ty_s4 T_m h_a).1, rfl⟩⟩)
  · intro x1_4 x2_4 r_x1_4 r_x2_4 hI_4
    obtain ⟨hI_4, dI_4⟩ := hI_4
    have t1 := ty_s4 T_m h_a
    refine ⟨fun hq => ?_, fun hq => ?_⟩
    · skip
      exact ⟨rfl, by exact ⟨by first | trivial | omega | (refine ⟨?_, ?_⟩ <;> omega), by exact dI_4.2.trans (congrArg (fcF (rd m (a + 2))) (by omega))⟩⟩
    · skip
      refine ⟨⟨by omega, by omega⟩, ?_⟩
      have t2 := ty_sF T_m h_a (Int.toNat x2_4)
      intro z1_22 e_z1_22
      have r_z1_22 : rg z1_22 := by rw [e_z1_22]; exact (io_rg _ _ _)
      try have w3 : wr (x2_4 + 1) = x2_4 + 1 := wr_id (by omega) (by omega)
      intro z2_23 e_z2_23
      have r_z2_23 : rg z2_23 := by rw [e_z2_23]; exact wr_rg _
      exact ⟨by exact ⟨by first | omega | (refine ⟨?_, ?_⟩ <;> omega) | trivial, by exact ⟨by omega, fcF_s dI_4.2 (by omega) (by omega) e_z1_22⟩⟩, by (try dsimp only); omega⟩
-- TippedCrates$State.sumOfTops()I
set_option maxRecDepth 20000 in
theorem ey_84 {m : Mm} {a : Nat}  (T_m : Ty m) (h_a : isSt a)  : CK 2 84 [.ref a] m (fun m2 v => m2 = m ∧ ((True) ∧ (v = smF (fun c : Nat => rd m (a + 3) (6 * c)) (Int.toNat (rd m a 4))))) := by
  refine br_84 h_a ?_
  unfold P_84
  refine ⟨fun x1_4 x2_4 m_4 => m_4 = m ∧ ((0 ≤ x2_4 ∧ x2_4 ≤ 3) ∧ (x2_4 ≤ rd m a 4 ∧ x1_4 = smF (fun c : Nat => rd m (a + 3) (6 * c)) (Int.toNat x2_4))), fun x1_4 x2_4 m_4 => Int.toNat (3 - x2_4), ?_, ?_⟩
  · exact ⟨rfl, by exact ⟨by first | omega | (refine ⟨?_, ?_⟩ <;> omega) | trivial, by exact ⟨(ty_s4 T_m h_a).1, rfl⟩⟩⟩
  · intro x1_4 x2_4 m_4 r_x1_4 r_x2_4 hI_4
    obtain ⟨e_m_4, hI_4⟩ := hI_4
    replace e_m_4 := e_m_4.symm
    subst e_m_4
    obtain ⟨hI_4, dI_4⟩ := hI_4
    have t1 := ty_s4 T_m h_a
    refine ⟨fun hq => ?_, fun hq => ?_⟩
    · skip
      exact ⟨rfl, by exact ⟨by first | trivial | omega | (refine ⟨?_, ?_⟩ <;> omega), by exact dI_4.2.trans (congrArg (smF (fun c : Nat => rd m (a + 3) (6 * c))) (by omega))⟩⟩
    · skip
      refine CK.mono (ct_78   T_m h_a r_x2_4 (by omega)) (by decide) ?_
      rintro m15 v15 r_v15 ⟨e_m15, h_m15⟩
      replace e_m15 := e_m15.symm
      subst e_m15
      try have w2 : wr (x1_4 + v15) = x1_4 + v15 := wr_id (by omega) (by omega)
      intro z1_19 e_z1_19
      have r_z1_19 : rg z1_19 := by rw [e_z1_19]; exact (wr_rg _)
      try have w3 : wr (x2_4 + 1) = x2_4 + 1 := wr_id (by omega) (by omega)
      intro z2_20 e_z2_20
      have r_z2_20 : rg z2_20 := by rw [e_z2_20]; exact wr_rg _
      exact ⟨⟨rfl, by exact ⟨by first | omega | (refine ⟨?_, ?_⟩ <;> omega) | trivial, by exact ⟨by omega, smF_s (F := (fun c : Nat => rd m (a + 3) (6 * c))) dI_4.2 (by omega) (by omega) (h_m15.1.trans (congrArg (rd m (a + 3)) (by omega))) e_z1_19⟩⟩⟩, by (try dsimp only); omega⟩
-- TippedCrates$Past.slotsHeld()I
set_option maxRecDepth 20000 in
theorem ey_25 {m : Mm}   (T_m : Ty m)   : CK 1 25 [.ref 55] m (fun m2 v => m2 = m ∧ ((True) ∧ (v = hdF (rd m 58) 3))) := by
  refine br_25  ?_
  unfold P_25
  refine ⟨fun x1_13 x4_13 => (0 ≤ x4_13 ∧ x4_13 ≤ 3) ∧ (x1_13 = hdF (rd m 58) (Int.toNat x4_13)), fun x1_13 x4_13 => Int.toNat (3 - x4_13), ?_, ?_⟩
  · (exact ⟨by first | omega | (refine ⟨?_, ?_⟩ <;> omega) | trivial, by rfl⟩)
  · intro x1_13 x4_13 r_x1_13 r_x4_13 hI_13
    obtain ⟨hI_13, dI_13⟩ := hI_13
    refine ⟨fun hq => ?_, fun hq => ?_⟩
    · skip
      exact ⟨rfl, by exact ⟨by first | trivial | omega | (refine ⟨?_, ?_⟩ <;> omega), by exact dI_13.trans (congrArg (hdF (rd m 58)) (by omega))⟩⟩
    · skip
      refine ⟨⟨by omega, by omega⟩, ?_⟩
      intro z5_23 e_z5_23
      have r_z5_23 : rg z5_23 := by rw [e_z5_23]; exact (rd_rg _ _ _)
      refine ⟨fun s1_36 => (z5_23 = 0 ∧ s1_36 = 0) ∨ (¬ z5_23 = 0 ∧ s1_36 = 1), ?_, ?_⟩
      · skip
        refine ⟨fun hq => ?_, fun hq => ?_⟩
        · skip
          (first | exact Or.inl ⟨by assumption, rfl⟩ | exact Or.inr ⟨by assumption, rfl⟩)
        · skip
          (first | exact Or.inl ⟨by assumption, rfl⟩ | exact Or.inr ⟨by assumption, rfl⟩)
      · intro s1_36 r_s1_36 hR_36
        try have w2 : wr (x1_13 + s1_36) = x1_13 + s1_36 := wr_id (by omega) (by omega)
        intro z1_37 e_z1_37
        have r_z1_37 : rg z1_37 := by rw [e_z1_37]; exact (wr_rg _)
        try have w3 : wr (x4_13 + 1) = x4_13 + 1 := wr_id (by omega) (by omega)
        intro z4_38 e_z4_38
        have r_z4_38 : rg z4_38 := by rw [e_z4_38]; exact wr_rg _
        exact ⟨by exact ⟨by first | omega | (refine ⟨?_, ?_⟩ <;> omega) | trivial, by exact hdF_s dI_13 (by omega) (by omega) e_z5_23 hR_36 e_z1_37⟩, by (try dsimp only); omega⟩
-- TippedCrates.stuckCrates()I
set_option maxRecDepth 20000 in
theorem ey_159 {m : Mm}   (T_m : Ty m)  (p0 : okS m 274) : CK 3 159 [.ref 0] m (fun m2 v => m2 = m ∧ ((True) ∧ (∀ A, cA m A → v = stF A.Y A.r (Int.toNat (A.Y 3))))) := by
  refine br_159  ?_
  unfold P_159
  have ok := p0
  have okn := p0.1
  have t73 := ty_7_3 T_m
  refine ⟨fun x1_4 x2_4 m_4 => m_4 = m ∧ ((0 ≤ x2_4 ∧ x2_4 ≤ 3) ∧ (x2_4 ≤ rd m 7 3 ∧ ∀ A, cA m A → x1_4 = stF A.Y A.r (Int.toNat x2_4))), fun x1_4 x2_4 m_4 => Int.toNat (3 - x2_4), ?_, ?_⟩
  · exact ⟨rfl, by exact ⟨by first | omega | (refine ⟨?_, ?_⟩ <;> omega) | trivial, by exact ⟨t73.1, fun A _ => rfl⟩⟩⟩
  · intro x1_4 x2_4 m_4 r_x1_4 r_x2_4 hI_4
    obtain ⟨e_m_4, hI_4⟩ := hI_4
    replace e_m_4 := e_m_4.symm
    subst e_m_4
    obtain ⟨hI_4, dI_4⟩ := hI_4
    have t1 := ty_7_3 T_m
    refine ⟨fun hq => ?_, fun hq => ?_⟩
    · skip
      exact ⟨rfl, by exact ⟨by first | trivial | omega | (refine ⟨?_, ?_⟩ <;> omega), by exact fun A h => by rw [dI_4.2 A h, ← h.1.1.2.2.2.1]; exact congrArg (stF A.Y A.r) (by omega)⟩⟩
    · skip
      refine ⟨fun x3_20 x4_20 m_20 => m_20 = m ∧ ((0 ≤ x4_20 ∧ x4_20 ≤ 4) ∧ (skW m x2_4 x3_20 x4_20)), fun x3_20 x4_20 m_20 => Int.toNat (4 - x4_20), ?_, ?_⟩
      · exact ⟨rfl, by exact ⟨by first | omega | (refine ⟨?_, ?_⟩ <;> omega) | trivial, by exact ⟨Or.inl rfl, fun A _ => ⟨fun _ k h0 h1 => by omega, fun _ => rfl⟩⟩⟩⟩
      · intro x3_20 x4_20 m_20 r_x3_20 r_x4_20 hI_20
        obtain ⟨e_m_20, hI_20⟩ := hI_20
        replace e_m_20 := e_m_20.symm
        subst e_m_20
        obtain ⟨hI_20, dI_20⟩ := hI_20
        refine ⟨fun hq => ?_, fun hq => ?_⟩
        · skip
          refine ⟨fun y1_59 => (¬ x3_20 = 0 ∧ y1_59 = x1_4) ∨ (x3_20 = 0 ∧ y1_59 = orI x1_4 (slI 1 x2_4)), ?_, ?_⟩
          · skip
            refine ⟨fun hq => ?_, fun hq => ?_⟩
            · skip
              (first | exact Or.inl ⟨by assumption, rfl⟩ | exact Or.inr ⟨by assumption, by assumption⟩)
            · skip
              intro z1_58 e_z1_58
              have r_z1_58 : rg z1_58 := by rw [e_z1_58]; exact (io_rg _ _ _)
              (first | exact Or.inl ⟨by assumption, rfl⟩ | exact Or.inr ⟨by assumption, by assumption⟩)
          · intro y1_59 r_y1_59 hR_59
            try have w2 : wr (x2_4 + 1) = x2_4 + 1 := wr_id (by omega) (by omega)
            intro z2_59 e_z2_59
            have r_z2_59 : rg z2_59 := by rw [e_z2_59]; exact wr_rg _
            exact ⟨⟨rfl, by exact ⟨by first | omega | (refine ⟨?_, ?_⟩ <;> omega) | trivial, by exact ⟨by omega, fun A h => sk_b (dI_4.2 A h) (dI_20.2 A h) hR_59 (by omega) (by omega)⟩⟩⟩, by (try dsimp only); omega⟩
        · skip
          refine CK.mono (ct_1   T_m st_274 r_x2_4 r_x4_20 (by omega) (by omega) (ok.2.1 _ (by omega))) (by decide) ?_
          rintro m38 v38 r_v38 ⟨e_m38, h_m38⟩
          replace e_m38 := e_m38.symm
          subst e_m38
          intro z3_42 e_z3_42
          have r_z3_42 : rg z3_42 := by rw [e_z3_42]; exact (io_rg _ _ _)
          try have w3 : wr (x4_20 + 1) = x4_20 + 1 := wr_id (by omega) (by omega)
          intro z4_43 e_z4_43
          have r_z4_43 : rg z4_43 := by rw [e_z4_43]; exact wr_rg _
          exact ⟨⟨rfl, by exact ⟨by first | omega | (refine ⟨?_, ?_⟩ <;> omega) | trivial, by exact sk_a dI_20 h_m38 (by omega) (by omega) e_z3_42 (by omega)⟩⟩, by (try dsimp only); omega⟩
-- TippedCrates.countCratesAndFlags(I)I
set_option maxRecDepth 20000 in
theorem ey_158 {m : Mm} {x1 : Int}  (T_m : Ty m) (r_x1 : rg x1) (p0 : okS m 274) : CK 4 158 [.ref 0, iv x1] m (fun m2 v => m2 = m ∧ ((True) ∧ (∀ A, cA m A → zR A.Y A.r → v = cn2A A x1))) := by
  refine br_158 r_x1 ?_
  unfold P_158
  refine ⟨fun hq => ?_, fun hq => ?_, fun hq => ?_, fun hq => ?_, fun hq => ?_, fun hq => ?_, fun hq => ?_, fun hq => ?_, fun hq => ?_, fun hq => ?_, fun hq => ?_, fun hq => ?_⟩
  · skip
    refine CK.mono (ey_79   T_m st_274) (by decide) ?_
    rintro m64 v64 r_v64 ⟨e_m64, h_m64⟩
    replace e_m64 := e_m64.symm
    subst e_m64
    exact ⟨rfl, by exact ⟨by first | trivial | omega | (refine ⟨?_, ?_⟩ <;> omega), by first | (have u := h_m64; exact fun A h z => cn_6 h z (by omega) h_m64.2) | (have u := h_m72; exact fun A h z => cn_7 h z (by omega) h_m72.2) | (have u := h_m80; exact fun A h z => cn_12 h (by omega) h_m80.2) | (have u := h_m88; exact fun A h z => cn_13 h (by omega) h_m88.2) | (have u := h_m96; exact fun A h z => cn_14 h z (by omega) h_m96.2) | (have u := h_m101; exact fun A h z => cn_15 (by omega) (h_m101.2 A h)) | (have u := h_m109; exact fun A h z => cn_16 h z (by omega) h_m109.2) | exact fun A h z => cn_n (by omega)⟩⟩
  · skip
    refine CK.mono (ey_80   T_m st_274) (by decide) ?_
    rintro m72 v72 r_v72 ⟨e_m72, h_m72⟩
    replace e_m72 := e_m72.symm
    subst e_m72
    exact ⟨rfl, by exact ⟨by first | trivial | omega | (refine ⟨?_, ?_⟩ <;> omega), by first | (have u := h_m64; exact fun A h z => cn_6 h z (by omega) h_m64.2) | (have u := h_m72; exact fun A h z => cn_7 h z (by omega) h_m72.2) | (have u := h_m80; exact fun A h z => cn_12 h (by omega) h_m80.2) | (have u := h_m88; exact fun A h z => cn_13 h (by omega) h_m88.2) | (have u := h_m96; exact fun A h z => cn_14 h z (by omega) h_m96.2) | (have u := h_m101; exact fun A h z => cn_15 (by omega) (h_m101.2 A h)) | (have u := h_m109; exact fun A h z => cn_16 h z (by omega) h_m109.2) | exact fun A h z => cn_n (by omega)⟩⟩
  · skip
    exact ⟨rfl, by exact ⟨by first | trivial | omega | (refine ⟨?_, ?_⟩ <;> omega), by first | (have u := h_m64; exact fun A h z => cn_6 h z (by omega) h_m64.2) | (have u := h_m72; exact fun A h z => cn_7 h z (by omega) h_m72.2) | (have u := h_m80; exact fun A h z => cn_12 h (by omega) h_m80.2) | (have u := h_m88; exact fun A h z => cn_13 h (by omega) h_m88.2) | (have u := h_m96; exact fun A h z => cn_14 h z (by omega) h_m96.2) | (have u := h_m101; exact fun A h z => cn_15 (by omega) (h_m101.2 A h)) | (have u := h_m109; exact fun A h z => cn_16 h z (by omega) h_m109.2) | exact fun A h z => cn_n (by omega)⟩⟩
  · skip
    exact ⟨rfl, by exact ⟨by first | trivial | omega | (refine ⟨?_, ?_⟩ <;> omega), by first | (have u := h_m64; exact fun A h z => cn_6 h z (by omega) h_m64.2) | (have u := h_m72; exact fun A h z => cn_7 h z (by omega) h_m72.2) | (have u := h_m80; exact fun A h z => cn_12 h (by omega) h_m80.2) | (have u := h_m88; exact fun A h z => cn_13 h (by omega) h_m88.2) | (have u := h_m96; exact fun A h z => cn_14 h z (by omega) h_m96.2) | (have u := h_m101; exact fun A h z => cn_15 (by omega) (h_m101.2 A h)) | (have u := h_m109; exact fun A h z => cn_16 h z (by omega) h_m109.2) | exact fun A h z => cn_n (by omega)⟩⟩
  · skip
    exact ⟨rfl, by exact ⟨by first | trivial | omega | (refine ⟨?_, ?_⟩ <;> omega), by first | (have u := h_m64; exact fun A h z => cn_6 h z (by omega) h_m64.2) | (have u := h_m72; exact fun A h z => cn_7 h z (by omega) h_m72.2) | (have u := h_m80; exact fun A h z => cn_12 h (by omega) h_m80.2) | (have u := h_m88; exact fun A h z => cn_13 h (by omega) h_m88.2) | (have u := h_m96; exact fun A h z => cn_14 h z (by omega) h_m96.2) | (have u := h_m101; exact fun A h z => cn_15 (by omega) (h_m101.2 A h)) | (have u := h_m109; exact fun A h z => cn_16 h z (by omega) h_m109.2) | exact fun A h z => cn_n (by omega)⟩⟩
  · skip
    exact ⟨rfl, by exact ⟨by first | trivial | omega | (refine ⟨?_, ?_⟩ <;> omega), by first | (have u := h_m64; exact fun A h z => cn_6 h z (by omega) h_m64.2) | (have u := h_m72; exact fun A h z => cn_7 h z (by omega) h_m72.2) | (have u := h_m80; exact fun A h z => cn_12 h (by omega) h_m80.2) | (have u := h_m88; exact fun A h z => cn_13 h (by omega) h_m88.2) | (have u := h_m96; exact fun A h z => cn_14 h z (by omega) h_m96.2) | (have u := h_m101; exact fun A h z => cn_15 (by omega) (h_m101.2 A h)) | (have u := h_m109; exact fun A h z => cn_16 h z (by omega) h_m109.2) | exact fun A h z => cn_n (by omega)⟩⟩
  · skip
    refine CK.mono (ey_82   T_m st_274) (by decide) ?_
    rintro m80 v80 r_v80 ⟨e_m80, h_m80⟩
    replace e_m80 := e_m80.symm
    subst e_m80
    exact ⟨rfl, by exact ⟨by first | trivial | omega | (refine ⟨?_, ?_⟩ <;> omega), by first | (have u := h_m64; exact fun A h z => cn_6 h z (by omega) h_m64.2) | (have u := h_m72; exact fun A h z => cn_7 h z (by omega) h_m72.2) | (have u := h_m80; exact fun A h z => cn_12 h (by omega) h_m80.2) | (have u := h_m88; exact fun A h z => cn_13 h (by omega) h_m88.2) | (have u := h_m96; exact fun A h z => cn_14 h z (by omega) h_m96.2) | (have u := h_m101; exact fun A h z => cn_15 (by omega) (h_m101.2 A h)) | (have u := h_m109; exact fun A h z => cn_16 h z (by omega) h_m109.2) | exact fun A h z => cn_n (by omega)⟩⟩
  · skip
    refine CK.mono (ey_83   T_m st_274) (by decide) ?_
    rintro m88 v88 r_v88 ⟨e_m88, h_m88⟩
    replace e_m88 := e_m88.symm
    subst e_m88
    exact ⟨rfl, by exact ⟨by first | trivial | omega | (refine ⟨?_, ?_⟩ <;> omega), by first | (have u := h_m64; exact fun A h z => cn_6 h z (by omega) h_m64.2) | (have u := h_m72; exact fun A h z => cn_7 h z (by omega) h_m72.2) | (have u := h_m80; exact fun A h z => cn_12 h (by omega) h_m80.2) | (have u := h_m88; exact fun A h z => cn_13 h (by omega) h_m88.2) | (have u := h_m96; exact fun A h z => cn_14 h z (by omega) h_m96.2) | (have u := h_m101; exact fun A h z => cn_15 (by omega) (h_m101.2 A h)) | (have u := h_m109; exact fun A h z => cn_16 h z (by omega) h_m109.2) | exact fun A h z => cn_n (by omega)⟩⟩
  · skip
    refine CK.mono (ey_81   T_m st_274) (by decide) ?_
    rintro m96 v96 r_v96 ⟨e_m96, h_m96⟩
    replace e_m96 := e_m96.symm
    subst e_m96
    exact ⟨rfl, by exact ⟨by first | trivial | omega | (refine ⟨?_, ?_⟩ <;> omega), by first | (have u := h_m64; exact fun A h z => cn_6 h z (by omega) h_m64.2) | (have u := h_m72; exact fun A h z => cn_7 h z (by omega) h_m72.2) | (have u := h_m80; exact fun A h z => cn_12 h (by omega) h_m80.2) | (have u := h_m88; exact fun A h z => cn_13 h (by omega) h_m88.2) | (have u := h_m96; exact fun A h z => cn_14 h z (by omega) h_m96.2) | (have u := h_m101; exact fun A h z => cn_15 (by omega) (h_m101.2 A h)) | (have u := h_m109; exact fun A h z => cn_16 h z (by omega) h_m109.2) | exact fun A h z => cn_n (by omega)⟩⟩
  · skip
    refine CK.mono (ey_159   T_m p0) (by decide) ?_
    rintro m101 v101 r_v101 ⟨e_m101, h_m101⟩
    replace e_m101 := e_m101.symm
    subst e_m101
    exact ⟨rfl, by exact ⟨by first | trivial | omega | (refine ⟨?_, ?_⟩ <;> omega), by first | (have u := h_m64; exact fun A h z => cn_6 h z (by omega) h_m64.2) | (have u := h_m72; exact fun A h z => cn_7 h z (by omega) h_m72.2) | (have u := h_m80; exact fun A h z => cn_12 h (by omega) h_m80.2) | (have u := h_m88; exact fun A h z => cn_13 h (by omega) h_m88.2) | (have u := h_m96; exact fun A h z => cn_14 h z (by omega) h_m96.2) | (have u := h_m101; exact fun A h z => cn_15 (by omega) (h_m101.2 A h)) | (have u := h_m109; exact fun A h z => cn_16 h z (by omega) h_m109.2) | exact fun A h z => cn_n (by omega)⟩⟩
  · skip
    refine CK.mono (ey_84   T_m st_274) (by decide) ?_
    rintro m109 v109 r_v109 ⟨e_m109, h_m109⟩
    replace e_m109 := e_m109.symm
    subst e_m109
    exact ⟨rfl, by exact ⟨by first | trivial | omega | (refine ⟨?_, ?_⟩ <;> omega), by first | (have u := h_m64; exact fun A h z => cn_6 h z (by omega) h_m64.2) | (have u := h_m72; exact fun A h z => cn_7 h z (by omega) h_m72.2) | (have u := h_m80; exact fun A h z => cn_12 h (by omega) h_m80.2) | (have u := h_m88; exact fun A h z => cn_13 h (by omega) h_m88.2) | (have u := h_m96; exact fun A h z => cn_14 h z (by omega) h_m96.2) | (have u := h_m101; exact fun A h z => cn_15 (by omega) (h_m101.2 A h)) | (have u := h_m109; exact fun A h z => cn_16 h z (by omega) h_m109.2) | exact fun A h z => cn_n (by omega)⟩⟩
  · skip
    exact ⟨rfl, by exact ⟨by first | trivial | omega | (refine ⟨?_, ?_⟩ <;> omega), by first | (have u := h_m64; exact fun A h z => cn_6 h z (by omega) h_m64.2) | (have u := h_m72; exact fun A h z => cn_7 h z (by omega) h_m72.2) | (have u := h_m80; exact fun A h z => cn_12 h (by omega) h_m80.2) | (have u := h_m88; exact fun A h z => cn_13 h (by omega) h_m88.2) | (have u := h_m96; exact fun A h z => cn_14 h z (by omega) h_m96.2) | (have u := h_m101; exact fun A h z => cn_15 (by omega) (h_m101.2 A h)) | (have u := h_m109; exact fun A h z => cn_16 h z (by omega) h_m109.2) | exact fun A h z => cn_n (by omega)⟩⟩
-- TippedCrates.count(I)I
set_option maxRecDepth 20000 in
theorem ey_157 {m : Mm} {x1 : Int}  (T_m : Ty m) (r_x1 : rg x1) (p0 : okS m 274) : CK 5 157 [.ref 0, iv x1] m (fun m2 v => m2 = m ∧ ((True) ∧ (∀ A, cA m A → zR A.Y A.r → v = cntA A (rd m 1 0) (rd m 49 0) x1))) := by
  refine br_157 r_x1 ?_
  unfold P_157
  refine ⟨fun hq => ?_, fun hq => ?_, fun hq => ?_, fun hq => ?_, fun hq => ?_, fun hq => ?_, fun hq => ?_, fun hq => ?_, fun hq => ?_, fun hq => ?_, fun hq => ?_, fun hq => ?_, fun hq => ?_⟩
  · skip
    have t1 := ty_7_0 T_m
    exact ⟨rfl, by exact ⟨by first | trivial | omega | (refine ⟨?_, ?_⟩ <;> omega), by first | (have u := h_m146; exact fun A h z => (h_m146.2 A h z).trans (cnt_2 (by omega)).symm) | (have u := h_m140; exact fun A h z => cnt_11 h (by omega) h_m140.2) | exact fun A h z => h.1.1.1.trans (cnt_0 (by omega)) | exact fun A h z => h.1.1.2.1.trans (cnt_1 (by omega)) | exact fun A h z => h.1.1.2.2.2.1.trans (cnt_c (by omega)) | exact fun A h z => h.2.2.1.2.2.2.2.2.2.1.trans (cnt_3 (by omega)) | exact fun A h z => h.2.2.1.2.2.2.2.2.2.2.trans (cnt_4 (by omega)) | exact fun A h z => h.1.1.2.2.1.trans (cnt_5 (by omega)) | exact fun A h z => cnt_8 (by omega) | exact fun A h z => h.2.2.2.1.1.trans (cnt_9 (by omega)) | exact fun A h z => cnt_10 (by omega)⟩⟩
  · skip
    have t2 := ty_7_1 T_m
    exact ⟨rfl, by exact ⟨by first | trivial | omega | (refine ⟨?_, ?_⟩ <;> omega), by first | (have u := h_m146; exact fun A h z => (h_m146.2 A h z).trans (cnt_2 (by omega)).symm) | (have u := h_m140; exact fun A h z => cnt_11 h (by omega) h_m140.2) | exact fun A h z => h.1.1.1.trans (cnt_0 (by omega)) | exact fun A h z => h.1.1.2.1.trans (cnt_1 (by omega)) | exact fun A h z => h.1.1.2.2.2.1.trans (cnt_c (by omega)) | exact fun A h z => h.2.2.1.2.2.2.2.2.2.1.trans (cnt_3 (by omega)) | exact fun A h z => h.2.2.1.2.2.2.2.2.2.2.trans (cnt_4 (by omega)) | exact fun A h z => h.1.1.2.2.1.trans (cnt_5 (by omega)) | exact fun A h z => cnt_8 (by omega) | exact fun A h z => h.2.2.2.1.1.trans (cnt_9 (by omega)) | exact fun A h z => cnt_10 (by omega)⟩⟩
  · skip
    have t3 := ty_7_3 T_m
    exact ⟨rfl, by exact ⟨by first | trivial | omega | (refine ⟨?_, ?_⟩ <;> omega), by first | (have u := h_m146; exact fun A h z => (h_m146.2 A h z).trans (cnt_2 (by omega)).symm) | (have u := h_m140; exact fun A h z => cnt_11 h (by omega) h_m140.2) | exact fun A h z => h.1.1.1.trans (cnt_0 (by omega)) | exact fun A h z => h.1.1.2.1.trans (cnt_1 (by omega)) | exact fun A h z => h.1.1.2.2.2.1.trans (cnt_c (by omega)) | exact fun A h z => h.2.2.1.2.2.2.2.2.2.1.trans (cnt_3 (by omega)) | exact fun A h z => h.2.2.1.2.2.2.2.2.2.2.trans (cnt_4 (by omega)) | exact fun A h z => h.1.1.2.2.1.trans (cnt_5 (by omega)) | exact fun A h z => cnt_8 (by omega) | exact fun A h z => h.2.2.2.1.1.trans (cnt_9 (by omega)) | exact fun A h z => cnt_10 (by omega)⟩⟩
  · skip
    exact ⟨rfl, by exact ⟨by first | trivial | omega | (refine ⟨?_, ?_⟩ <;> omega), by first | (have u := h_m146; exact fun A h z => (h_m146.2 A h z).trans (cnt_2 (by omega)).symm) | (have u := h_m140; exact fun A h z => cnt_11 h (by omega) h_m140.2) | exact fun A h z => h.1.1.1.trans (cnt_0 (by omega)) | exact fun A h z => h.1.1.2.1.trans (cnt_1 (by omega)) | exact fun A h z => h.1.1.2.2.2.1.trans (cnt_c (by omega)) | exact fun A h z => h.2.2.1.2.2.2.2.2.2.1.trans (cnt_3 (by omega)) | exact fun A h z => h.2.2.1.2.2.2.2.2.2.2.trans (cnt_4 (by omega)) | exact fun A h z => h.1.1.2.2.1.trans (cnt_5 (by omega)) | exact fun A h z => cnt_8 (by omega) | exact fun A h z => h.2.2.2.1.1.trans (cnt_9 (by omega)) | exact fun A h z => cnt_10 (by omega)⟩⟩
  · skip
    exact ⟨rfl, by exact ⟨by first | trivial | omega | (refine ⟨?_, ?_⟩ <;> omega), by first | (have u := h_m146; exact fun A h z => (h_m146.2 A h z).trans (cnt_2 (by omega)).symm) | (have u := h_m140; exact fun A h z => cnt_11 h (by omega) h_m140.2) | exact fun A h z => h.1.1.1.trans (cnt_0 (by omega)) | exact fun A h z => h.1.1.2.1.trans (cnt_1 (by omega)) | exact fun A h z => h.1.1.2.2.2.1.trans (cnt_c (by omega)) | exact fun A h z => h.2.2.1.2.2.2.2.2.2.1.trans (cnt_3 (by omega)) | exact fun A h z => h.2.2.1.2.2.2.2.2.2.2.trans (cnt_4 (by omega)) | exact fun A h z => h.1.1.2.2.1.trans (cnt_5 (by omega)) | exact fun A h z => cnt_8 (by omega) | exact fun A h z => h.2.2.2.1.1.trans (cnt_9 (by omega)) | exact fun A h z => cnt_10 (by omega)⟩⟩
  · skip
    exact ⟨rfl, by exact ⟨by first | trivial | omega | (refine ⟨?_, ?_⟩ <;> omega), by first | (have u := h_m146; exact fun A h z => (h_m146.2 A h z).trans (cnt_2 (by omega)).symm) | (have u := h_m140; exact fun A h z => cnt_11 h (by omega) h_m140.2) | exact fun A h z => h.1.1.1.trans (cnt_0 (by omega)) | exact fun A h z => h.1.1.2.1.trans (cnt_1 (by omega)) | exact fun A h z => h.1.1.2.2.2.1.trans (cnt_c (by omega)) | exact fun A h z => h.2.2.1.2.2.2.2.2.2.1.trans (cnt_3 (by omega)) | exact fun A h z => h.2.2.1.2.2.2.2.2.2.2.trans (cnt_4 (by omega)) | exact fun A h z => h.1.1.2.2.1.trans (cnt_5 (by omega)) | exact fun A h z => cnt_8 (by omega) | exact fun A h z => h.2.2.2.1.1.trans (cnt_9 (by omega)) | exact fun A h z => cnt_10 (by omega)⟩⟩
  · skip
    refine CK.mono (ey_158   T_m r_x1 p0) (by decide) ?_
    rintro m146 v146 r_v146 ⟨e_m146, h_m146⟩
    replace e_m146 := e_m146.symm
    subst e_m146
    exact ⟨rfl, by exact ⟨by first | trivial | omega | (refine ⟨?_, ?_⟩ <;> omega), by first | (have u := h_m146; exact fun A h z => (h_m146.2 A h z).trans (cnt_2 (by omega)).symm) | (have u := h_m140; exact fun A h z => cnt_11 h (by omega) h_m140.2) | exact fun A h z => h.1.1.1.trans (cnt_0 (by omega)) | exact fun A h z => h.1.1.2.1.trans (cnt_1 (by omega)) | exact fun A h z => h.1.1.2.2.2.1.trans (cnt_c (by omega)) | exact fun A h z => h.2.2.1.2.2.2.2.2.2.1.trans (cnt_3 (by omega)) | exact fun A h z => h.2.2.1.2.2.2.2.2.2.2.trans (cnt_4 (by omega)) | exact fun A h z => h.1.1.2.2.1.trans (cnt_5 (by omega)) | exact fun A h z => cnt_8 (by omega) | exact fun A h z => h.2.2.2.1.1.trans (cnt_9 (by omega)) | exact fun A h z => cnt_10 (by omega)⟩⟩
  · skip
    refine CK.mono (ey_158   T_m r_x1 p0) (by decide) ?_
    rintro m146 v146 r_v146 ⟨e_m146, h_m146⟩
    replace e_m146 := e_m146.symm
    subst e_m146
    exact ⟨rfl, by exact ⟨by first | trivial | omega | (refine ⟨?_, ?_⟩ <;> omega), by first | (have u := h_m146; exact fun A h z => (h_m146.2 A h z).trans (cnt_2 (by omega)).symm) | (have u := h_m140; exact fun A h z => cnt_11 h (by omega) h_m140.2) | exact fun A h z => h.1.1.1.trans (cnt_0 (by omega)) | exact fun A h z => h.1.1.2.1.trans (cnt_1 (by omega)) | exact fun A h z => h.1.1.2.2.2.1.trans (cnt_c (by omega)) | exact fun A h z => h.2.2.1.2.2.2.2.2.2.1.trans (cnt_3 (by omega)) | exact fun A h z => h.2.2.1.2.2.2.2.2.2.2.trans (cnt_4 (by omega)) | exact fun A h z => h.1.1.2.2.1.trans (cnt_5 (by omega)) | exact fun A h z => cnt_8 (by omega) | exact fun A h z => h.2.2.2.1.1.trans (cnt_9 (by omega)) | exact fun A h z => cnt_10 (by omega)⟩⟩
  · skip
    have t7 := ty_1_0 T_m
    exact ⟨rfl, by exact ⟨by first | trivial | omega | (refine ⟨?_, ?_⟩ <;> omega), by first | (have u := h_m146; exact fun A h z => (h_m146.2 A h z).trans (cnt_2 (by omega)).symm) | (have u := h_m140; exact fun A h z => cnt_11 h (by omega) h_m140.2) | exact fun A h z => h.1.1.1.trans (cnt_0 (by omega)) | exact fun A h z => h.1.1.2.1.trans (cnt_1 (by omega)) | exact fun A h z => h.1.1.2.2.2.1.trans (cnt_c (by omega)) | exact fun A h z => h.2.2.1.2.2.2.2.2.2.1.trans (cnt_3 (by omega)) | exact fun A h z => h.2.2.1.2.2.2.2.2.2.2.trans (cnt_4 (by omega)) | exact fun A h z => h.1.1.2.2.1.trans (cnt_5 (by omega)) | exact fun A h z => cnt_8 (by omega) | exact fun A h z => h.2.2.2.1.1.trans (cnt_9 (by omega)) | exact fun A h z => cnt_10 (by omega)⟩⟩
  · skip
    have t8 := ty_55_0 T_m
    exact ⟨rfl, by exact ⟨by first | trivial | omega | (refine ⟨?_, ?_⟩ <;> omega), by first | (have u := h_m146; exact fun A h z => (h_m146.2 A h z).trans (cnt_2 (by omega)).symm) | (have u := h_m140; exact fun A h z => cnt_11 h (by omega) h_m140.2) | exact fun A h z => h.1.1.1.trans (cnt_0 (by omega)) | exact fun A h z => h.1.1.2.1.trans (cnt_1 (by omega)) | exact fun A h z => h.1.1.2.2.2.1.trans (cnt_c (by omega)) | exact fun A h z => h.2.2.1.2.2.2.2.2.2.1.trans (cnt_3 (by omega)) | exact fun A h z => h.2.2.1.2.2.2.2.2.2.2.trans (cnt_4 (by omega)) | exact fun A h z => h.1.1.2.2.1.trans (cnt_5 (by omega)) | exact fun A h z => cnt_8 (by omega) | exact fun A h z => h.2.2.2.1.1.trans (cnt_9 (by omega)) | exact fun A h z => cnt_10 (by omega)⟩⟩
  · skip
    have t9 := ty_49_0 T_m
    exact ⟨rfl, by exact ⟨by first | trivial | omega | (refine ⟨?_, ?_⟩ <;> omega), by first | (have u := h_m146; exact fun A h z => (h_m146.2 A h z).trans (cnt_2 (by omega)).symm) | (have u := h_m140; exact fun A h z => cnt_11 h (by omega) h_m140.2) | exact fun A h z => h.1.1.1.trans (cnt_0 (by omega)) | exact fun A h z => h.1.1.2.1.trans (cnt_1 (by omega)) | exact fun A h z => h.1.1.2.2.2.1.trans (cnt_c (by omega)) | exact fun A h z => h.2.2.1.2.2.2.2.2.2.1.trans (cnt_3 (by omega)) | exact fun A h z => h.2.2.1.2.2.2.2.2.2.2.trans (cnt_4 (by omega)) | exact fun A h z => h.1.1.2.2.1.trans (cnt_5 (by omega)) | exact fun A h z => cnt_8 (by omega) | exact fun A h z => h.2.2.2.1.1.trans (cnt_9 (by omega)) | exact fun A h z => cnt_10 (by omega)⟩⟩
  · skip
    refine CK.mono (ey_25   T_m) (by decide) ?_
    rintro m140 v140 r_v140 ⟨e_m140, h_m140⟩
    replace e_m140 := e_m140.symm
    subst e_m140
    exact ⟨rfl, by exact ⟨by first | trivial | omega | (refine ⟨?_, ?_⟩ <;> omega), by first | (have u := h_m146; exact fun A h z => (h_m146.2 A h z).trans (cnt_2 (by omega)).symm) | (have u := h_m140; exact fun A h z => cnt_11 h (by omega) h_m140.2) | exact fun A h z => h.1.1.1.trans (cnt_0 (by omega)) | exact fun A h z => h.1.1.2.1.trans (cnt_1 (by omega)) | exact fun A h z => h.1.1.2.2.2.1.trans (cnt_c (by omega)) | exact fun A h z => h.2.2.1.2.2.2.2.2.2.1.trans (cnt_3 (by omega)) | exact fun A h z => h.2.2.1.2.2.2.2.2.2.2.trans (cnt_4 (by omega)) | exact fun A h z => h.1.1.2.2.1.trans (cnt_5 (by omega)) | exact fun A h z => cnt_8 (by omega) | exact fun A h z => h.2.2.2.1.1.trans (cnt_9 (by omega)) | exact fun A h z => cnt_10 (by omega)⟩⟩
  · skip
    refine CK.mono (ey_158   T_m r_x1 p0) (by decide) ?_
    rintro m146 v146 r_v146 ⟨e_m146, h_m146⟩
    replace e_m146 := e_m146.symm
    subst e_m146
    exact ⟨rfl, by exact ⟨by first | trivial | omega | (refine ⟨?_, ?_⟩ <;> omega), by first | (have u := h_m146; exact fun A h z => (h_m146.2 A h z).trans (cnt_2 (by omega)).symm) | (have u := h_m140; exact fun A h z => cnt_11 h (by omega) h_m140.2) | exact fun A h z => h.1.1.1.trans (cnt_0 (by omega)) | exact fun A h z => h.1.1.2.1.trans (cnt_1 (by omega)) | exact fun A h z => h.1.1.2.2.2.1.trans (cnt_c (by omega)) | exact fun A h z => h.2.2.1.2.2.2.2.2.2.1.trans (cnt_3 (by omega)) | exact fun A h z => h.2.2.1.2.2.2.2.2.2.2.trans (cnt_4 (by omega)) | exact fun A h z => h.1.1.2.2.1.trans (cnt_5 (by omega)) | exact fun A h z => cnt_8 (by omega) | exact fun A h z => h.2.2.2.1.1.trans (cnt_9 (by omega)) | exact fun A h z => cnt_10 (by omega)⟩⟩
