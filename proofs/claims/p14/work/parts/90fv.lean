/-! Rows of ways: the tree that the class climbs is the numbers that the model counts -/
def pn : Nat → Nat
  | 0 => 1
  | r + 1 => pn r + pn r + pn r + pn r
theorem pn_p : ∀ r : Nat, 0 < pn r
  | 0 => by decide
  | r + 1 => by
    have h := pn_p r
    show 0 < pn r + pn r + pn r + pn r
    omega
/-- whether the r ways of x can be gone from s and read as known; d: how many are gone -/
def fitB (mv : Int → Int → Int) (mk : Int → Int) (ok : Nat → Int → Bool) : Nat → Nat → Int → Nat → Bool
  | 0, _, _, _ => true
  | r + 1, d, s, x => bif decide (mv s ((x / pn r : Nat) : Int) = -1) then false else (ok (d + 1) (mk (mv s ((x / pn r : Nat) : Int))) && fitB mv mk ok r (d + 1) (mv s ((x / pn r : Nat) : Int)) (x % pn r))
/-- what is heard on the way -/
def herF (mv : Int → Int → Int) (mk : Int → Int) : Nat → Int → Nat → Nat → Int
  | 0, _, _, _ => 0
  | r + 1, s, x, i => if i = 0 then mk (mv s ((x / pn r : Nat) : Int)) else herF mv mk r (mv s ((x / pn r : Nat) : Int)) (x % pn r) (i - 1)
/-- n numbers from a on, those that P takes -/
def blF {α : Type} (P : Nat → Bool) (G : α → Nat → α) : Nat → Nat → α → α
  | 0, _, acc => acc
  | n + 1, a, acc => blF P G n (a + 1) (bif P a then G acc a else acc)
theorem blF_add {α : Type} {P : Nat → Bool} {G : α → Nat → α} : ∀ (m n a : Nat) (acc : α), blF P G (m + n) a acc = blF P G n (a + m) (blF P G m a acc)
  | 0, n, a, acc => by
    rw [Nat.zero_add, Nat.add_zero]
    rfl
  | m + 1, n, a, acc => by
    rw [show m + 1 + n = (m + n) + 1 by omega]
    show blF P G (m + n) (a + 1) (bif P a then G acc a else acc) = blF P G n (a + (m + 1)) (blF P G m (a + 1) (bif P a then G acc a else acc))
    rw [blF_add m n (a + 1), show a + 1 + m = a + (m + 1) by omega]
theorem blF_cg {α : Type} {P P2 : Nat → Bool} {G G2 : α → Nat → α} : ∀ (n a b : Nat) (acc : α), (∀ i, i < n → P (a + i) = P2 (b + i)) → (∀ i, i < n → ∀ acc, G acc (a + i) = G2 acc (b + i)) → blF P G n a acc = blF P2 G2 n b acc
  | 0, _, _, _, _, _ => rfl
  | n + 1, a, b, acc, h, k => by
    show blF P G n (a + 1) (bif P a then G acc a else acc) = blF P2 G2 n (b + 1) (bif P2 b then G2 acc b else acc)
    have h0 : P a = P2 b := h 0 (by omega)
    have k0 : G acc a = G2 acc b := k 0 (by omega) acc
    rw [h0, k0]
    refine blF_cg n (a + 1) (b + 1) _ (fun i hi => ?_) (fun i hi c => ?_)
    · have e := h (i + 1) (by omega)
      rw [show a + (i + 1) = a + 1 + i by omega, show b + (i + 1) = b + 1 + i by omega] at e
      exact e
    · have e := k (i + 1) (by omega) c
      rw [show a + (i + 1) = a + 1 + i by omega, show b + (i + 1) = b + 1 + i by omega] at e
      exact e
theorem blF_no {α : Type} {P : Nat → Bool} {G : α → Nat → α} : ∀ (n a : Nat) (acc : α), (∀ i, i < n → P (a + i) = false) → blF P G n a acc = acc
  | 0, _, _, _ => rfl
  | n + 1, a, acc, h => by
    show blF P G n (a + 1) (bif P a then G acc a else acc) = acc
    have h0 : P a = false := h 0 (by omega)
    rw [h0]
    exact blF_no n (a + 1) acc (fun i hi => by
      have e := h (i + 1) (by omega)
      rw [show a + (i + 1) = a + 1 + i by omega] at e
      exact e)
def jnF (h : Nat → Int) (d : Nat) (g : Nat → Int) : Nat → Int := fun i => if i < d then h i else g (i - d)
def upF (h : Nat → Int) (d : Nat) (v : Int) : Nat → Int := fun i => if i = d then v else h i
section TREE
variable {α : Type} (mv : Int → Int → Int) (mk : Int → Int) (ok : Nat → Int → Bool) (G : α → Nat → (Nat → Int) → α)
/-- one way more: k -/
def stpT (sub : Nat → Int → Nat → (Nat → Int) → α → α) (d : Nat) (s : Int) (D : Nat) (h : Nat → Int) (k : Nat) (acc : α) : α := if mv s (k : Int) = -1 then acc else bif ok (d + 1) (mk (mv s (k : Int))) then sub (d + 1) (mv s (k : Int)) (4 * D + k) (upF h d (mk (mv s (k : Int)))) acc else acc
def k4T (sub : Nat → Int → Nat → (Nat → Int) → α → α) (d : Nat) (s : Int) (D : Nat) (h : Nat → Int) : Nat → α → α
  | 0, acc => acc
  | k + 1, acc => stpT mv mk ok sub d s D h k (k4T sub d s D h k acc)
def trF : Nat → Nat → Int → Nat → (Nat → Int) → α → α
  | 0 => fun _ _ D h acc => G acc D h
  | r + 1 => fun d s D h acc => k4T mv mk ok (trF r) d s D h 4 acc
end TREE
theorem pn_div {p k i : Nat} (h : i < p) : (k * p + i) / p = k ∧ (k * p + i) % p = i := by
  have hp : 0 < p := by omega
  constructor
  · rw [Nat.mul_comm, Nat.mul_add_div hp, Nat.div_eq_of_lt h, Nat.add_zero]
  · rw [Nat.mul_comm, Nat.mul_add_mod, Nat.mod_eq_of_lt h]
theorem tr_bl {α : Type} {mv : Int → Int → Int} {mk : Int → Int} {ok : Nat → Int → Bool} {G : α → Nat → (Nat → Int) → α} {n : Nat} (cg : ∀ (acc : α) (D : Nat) (h h2 : Nat → Int), (∀ i, i < n → h i = h2 i) → G acc D h = G acc D h2) : ∀ (r d : Nat) (s : Int) (D : Nat) (h : Nat → Int) (acc : α), d + r = n → trF mv mk ok G r d s D h acc = blF (fun x => fitB mv mk ok r d s x) (fun acc x => G acc (D * pn r + x) (jnF h d (herF mv mk r s x))) (pn r) 0 acc
  | 0, d, s, D, h, acc, hn => by
    show G acc D h = G acc (D * 1 + 0) (jnF h d (herF mv mk 0 s 0))
    rw [Nat.mul_one, Nat.add_zero]
    refine cg acc D _ _ (fun i hi => ?_)
    unfold jnF
    rw [if_pos (by omega)]
  | r + 1, d, s, D, h, acc, hn => by
    have ih := tr_bl (mv := mv) (mk := mk) (ok := ok) cg r
    have block : ∀ (k : Nat) (acc : α), stpT mv mk ok (trF mv mk ok G r) d s D h k acc = blF (fun x => fitB mv mk ok (r + 1) d s x) (fun acc x => G acc (D * pn (r + 1) + x) (jnF h d (herF mv mk (r + 1) s x))) (pn r) (k * pn r) acc := by
      intro k acc
      have eP : ∀ i, i < pn r → fitB mv mk ok (r + 1) d s (k * pn r + i) = bif decide (mv s (k : Int) = -1) then false else (ok (d + 1) (mk (mv s (k : Int))) && fitB mv mk ok r (d + 1) (mv s (k : Int)) i) := fun i hi => by
        have e := pn_div (k := k) hi
        show (bif decide (mv s (((k * pn r + i) / pn r : Nat) : Int) = -1) then false else (ok (d + 1) (mk (mv s (((k * pn r + i) / pn r : Nat) : Int))) && fitB mv mk ok r (d + 1) (mv s (((k * pn r + i) / pn r : Nat) : Int)) ((k * pn r + i) % pn r))) = _
        rw [e.1, e.2]
      unfold stpT
      by_cases q : mv s (k : Int) = -1
      · rw [if_pos q]
        refine (blF_no (pn r) (k * pn r) acc (fun i hi => ?_)).symm
        show fitB mv mk ok (r + 1) d s (k * pn r + i) = false
        rw [eP i hi, decide_eq_true q]
        rfl
      · rw [if_neg q]
        cases w : ok (d + 1) (mk (mv s (k : Int))) with
        | false =>
          refine (blF_no (pn r) (k * pn r) acc (fun i hi => ?_)).symm
          show fitB mv mk ok (r + 1) d s (k * pn r + i) = false
          rw [eP i hi, decide_eq_false q, w]
          rfl
        | true =>
          show trF mv mk ok G r (d + 1) (mv s (k : Int)) (4 * D + k) (upF h d (mk (mv s (k : Int)))) acc = _
          rw [ih (d + 1) (mv s (k : Int)) (4 * D + k) (upF h d (mk (mv s (k : Int)))) acc (by omega)]
          refine blF_cg (pn r) 0 (k * pn r) acc (fun i hi => ?_) (fun i hi c => ?_)
          · show fitB mv mk ok r (d + 1) (mv s (k : Int)) (0 + i) = fitB mv mk ok (r + 1) d s (k * pn r + i)
            rw [eP i hi, decide_eq_false q, w, Nat.zero_add]
            rfl
          · have e := pn_div (k := k) hi
            show G c ((4 * D + k) * pn r + (0 + i)) (jnF (upF h d (mk (mv s (k : Int)))) (d + 1) (herF mv mk r (mv s (k : Int)) (0 + i))) = G c (D * (pn r + pn r + pn r + pn r) + (k * pn r + i)) (jnF h d (herF mv mk (r + 1) s (k * pn r + i)))
            rw [show (4 * D + k) * pn r + (0 + i) = D * (pn r + pn r + pn r + pn r) + (k * pn r + i) by
              rw [Nat.add_mul, Nat.mul_add, Nat.mul_add, Nat.mul_add, show 4 * D = D + D + D + D by omega, Nat.add_mul, Nat.add_mul, Nat.add_mul]
              omega, Nat.zero_add]
            refine cg c _ _ _ (fun j hj => ?_)
            have f : ∀ z : Nat, herF mv mk (r + 1) s (k * pn r + i) z = if z = 0 then mk (mv s (k : Int)) else herF mv mk r (mv s (k : Int)) i (z - 1) := fun z => by
              show (if z = 0 then mk (mv s (((k * pn r + i) / pn r : Nat) : Int)) else herF mv mk r (mv s (((k * pn r + i) / pn r : Nat) : Int)) ((k * pn r + i) % pn r) (z - 1)) = _
              rw [e.1, e.2]
            unfold jnF upF
            by_cases j1 : j < d
            · rw [if_pos (by omega), if_neg (by omega), if_pos j1]
            · rw [if_neg j1, f]
              by_cases j2 : j = d
              · rw [if_pos (by omega), if_pos j2, if_pos (by omega)]
              · rw [if_neg (by omega), if_neg (by omega), show j - (d + 1) = j - d - 1 by omega]
    show stpT mv mk ok (trF mv mk ok G r) d s D h 3 (stpT mv mk ok (trF mv mk ok G r) d s D h 2 (stpT mv mk ok (trF mv mk ok G r) d s D h 1 (stpT mv mk ok (trF mv mk ok G r) d s D h 0 acc))) = blF (fun x => fitB mv mk ok (r + 1) d s x) (fun acc x => G acc (D * pn (r + 1) + x) (jnF h d (herF mv mk (r + 1) s x))) (pn r + pn r + pn r + pn r) 0 acc
    rw [block, block, block, block, blF_add (pn r + pn r + pn r) (pn r), blF_add (pn r + pn r) (pn r), blF_add (pn r) (pn r), show 0 * pn r = 0 by omega, show 1 * pn r = 0 + pn r by omega, show 2 * pn r = 0 + (pn r + pn r) by omega, show 3 * pn r = 0 + (pn r + pn r + pn r) by omega]
