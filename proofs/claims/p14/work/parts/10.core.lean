/-! THE SMALL MACHINE: cells by number, values as the machine's own, a method's code a function from pc to an act; 'mm_run' runs a method, 'mm_exec' runs calls too. What it computes, the machine does (part 03). -/
abbrev mm_C : Type := (Nat × List Value) ⊕ (FieldType × List Value)
/-- cells 0 .. 2^d - 1 -/
def mm_T : Nat → Type
  | 0 => Option mm_C
  | d + 1 => mm_T d × mm_T d
def mm_no : (d : Nat) → mm_T d
  | 0 => (none : Option mm_C)
  | d + 1 => ((mm_no d, mm_no d) : mm_T d × mm_T d)
def mm_get : (d : Nat) → mm_T d → Nat → Option mm_C
  | 0, t, _ => (t : Option mm_C)
  | d + 1, t, i => bif Nat.blt i (2 ^ d) then mm_get d (Prod.fst (α := mm_T d) (β := mm_T d) t) i else mm_get d (Prod.snd (α := mm_T d) (β := mm_T d) t) (i - 2 ^ d)
def mm_set : (d : Nat) → mm_T d → Nat → mm_C → mm_T d
  | 0, _, _, c => (some c : Option mm_C)
  | d + 1, t, i, c => bif Nat.blt i (2 ^ d) then ((mm_set d (Prod.fst (α := mm_T d) (β := mm_T d) t) i c, Prod.snd (α := mm_T d) (β := mm_T d) t) : mm_T d × mm_T d) else ((Prod.fst (α := mm_T d) (β := mm_T d) t, mm_set d (Prod.snd (α := mm_T d) (β := mm_T d) t) (i - 2 ^ d) c) : mm_T d × mm_T d)
/-- the same, laid out at once -/
def mm_setK {α : Type} : (d : Nat) → mm_T d → Nat → mm_C → (mm_T d → α) → α
  | 0, _, _, c, k => k (some c : Option mm_C)
  | d + 1, t, i, c, k => match (t : mm_T d × mm_T d) with
    | (a, b) => bif Nat.blt i (2 ^ d) then mm_setK d a i c (fun a2 => k ((a2, b) : mm_T d × mm_T d)) else mm_setK d b (i - 2 ^ d) c (fun b2 => k ((a, b2) : mm_T d × mm_T d))
theorem mm_setK_eq {α : Type} : ∀ (d : Nat) (t : mm_T d) (i : Nat) (c : mm_C) (k : mm_T d → α), mm_setK d t i c k = k (mm_set d t i c) := by
  intro d
  induction d with
  | zero => intro t i c k; rfl
  | succ d ih =>
    intro t i c k
    obtain ⟨a, b⟩ : mm_T d × mm_T d := t
    show (bif Nat.blt i (2 ^ d) then mm_setK d a i c (fun a2 => k ((a2, b) : mm_T d × mm_T d)) else mm_setK d b (i - 2 ^ d) c (fun b2 => k ((a, b2) : mm_T d × mm_T d))) = k (bif Nat.blt i (2 ^ d) then ((mm_set d a i c, b) : mm_T d × mm_T d) else ((a, mm_set d b (i - 2 ^ d) c) : mm_T d × mm_T d))
    rw [ih, ih]
    cases Nat.blt i (2 ^ d) <;> rfl
theorem mm_get_set : ∀ (d : Nat) (t : mm_T d) (i j : Nat) (c : mm_C), i < 2 ^ d → j < 2 ^ d → mm_get d (mm_set d t i c) j = if j = i then some c else mm_get d t j := by
  intro d
  induction d with
  | zero =>
    intro t i j c hi hj
    have : j = i := by omega
    rw [if_pos this]
    rfl
  | succ d ih =>
    intro t i j c hi hj
    obtain ⟨a, b⟩ : mm_T d × mm_T d := t
    have h2 : 2 ^ (d + 1) = 2 ^ d + 2 ^ d := by rw [Nat.pow_succ]; omega
    rw [h2] at hi hj
    have e1 : ∀ (u v : mm_T d) (z : Nat), mm_get (d + 1) ((u, v) : mm_T d × mm_T d) z = bif Nat.blt z (2 ^ d) then mm_get d u z else mm_get d v (z - 2 ^ d) := fun _ _ _ => rfl
    have e2 : mm_set (d + 1) ((a, b) : mm_T d × mm_T d) i c = bif Nat.blt i (2 ^ d) then ((mm_set d a i c, b) : mm_T d × mm_T d) else ((a, mm_set d b (i - 2 ^ d) c) : mm_T d × mm_T d) := rfl
    have hb : ∀ z : Nat, Nat.blt z (2 ^ d) = decide (z < 2 ^ d) := fun z => by
      by_cases h : z < 2 ^ d
      · simp [h, Nat.blt_eq]
      · have : Nat.blt z (2 ^ d) = false := by
          cases hq : Nat.blt z (2 ^ d) with
          | false => rfl
          | true => exact absurd (Nat.blt_eq.mp hq) h
        simp [h, this]
    show mm_get (d + 1) (mm_set (d + 1) ((a, b) : mm_T d × mm_T d) i c) j = _
    rw [e2, hb]
    by_cases hi' : i < 2 ^ d
    · simp only [hi', decide_true, cond_true]
      rw [e1, hb]
      show _ = if j = i then some c else mm_get (d + 1) ((a, b) : mm_T d × mm_T d) j
      rw [e1, hb]
      by_cases hj' : j < 2 ^ d
      · simp only [hj', decide_true, cond_true]
        exact ih a i j c hi' hj'
      · simp only [hj', decide_false, cond_false]
        rw [if_neg (by omega)]
    · simp only [hi', decide_false, cond_false]
      rw [e1, hb]
      show _ = if j = i then some c else mm_get (d + 1) ((a, b) : mm_T d × mm_T d) j
      rw [e1, hb]
      by_cases hj' : j < 2 ^ d
      · simp only [hj', decide_true, cond_true]
        rw [if_neg (by omega)]
      · simp only [hj', decide_false, cond_false]
        rw [ih b (i - 2 ^ d) (j - 2 ^ d) c (by omega) (by omega)]
        by_cases hji : j = i
        · subst hji; simp
        · rw [if_neg hji, if_neg (by omega)]
/-- cells made, slots made, cells -/
abbrev mm_H : Type := Nat × Nat × mm_T 9
def mm_hg (h : mm_H) (i : Nat) : Option mm_C := bif Nat.blt i h.1 then mm_get 9 h.2.2 i else none
def mm_hs {α : Type} (h : mm_H) (i : Nat) (c : mm_C) (k : mm_H → α) : α := mm_setK 9 h.2.2 i c (fun t => k (h.1, h.2.1, t))
/-- numbers laid out at once -/
def mm_fN {α : Type} (n : Nat) (k : Nat → α) : α := match n with
  | 0 => k 0
  | m + 1 => k (m + 1)
theorem mm_fN_eq {α : Type} (n : Nat) (k : Nat → α) : mm_fN n k = k n := by cases n <;> rfl
def mm_fI {α : Type} (x : Int32) (k : Int32 → α) : α := mm_fN x.toBitVec.toNat (fun n => k (Int32.ofNat n))
def mm_fL {α : Type} (x : Int64) (k : Int64 → α) : α := mm_fN x.toBitVec.toNat (fun n => k (Int64.ofNat n))
theorem mm_fI_eq {α : Type} (x : Int32) (k : Int32 → α) : mm_fI x k = k x := by
  have e : Int32.ofNat x.toBitVec.toNat = x := by
    apply Int32.toBitVec_inj.mp
    simp
  unfold mm_fI
  rw [mm_fN_eq, e]
theorem mm_fL_eq {α : Type} (x : Int64) (k : Int64 → α) : mm_fL x k = k x := by
  have e : Int64.ofNat x.toBitVec.toNat = x := by
    apply Int64.toBitVec_inj.mp
    simp
  unfold mm_fL
  rw [mm_fN_eq, e]
def mm_lK {α β : Type} : List α → Nat → α → (List α → β) → β
  | [], _, _, k => k []
  | _ :: xs, 0, v, k => k (v :: xs)
  | x :: xs, i + 1, v, k => mm_lK xs i v (fun ys => k (x :: ys))
theorem mm_lK_eq {α β : Type} : ∀ (l : List α) (i : Nat) (v : α) (k : List α → β), mm_lK l i v k = k (l.set i v) := by
  intro l
  induction l with
  | nil => intro i v k; rfl
  | cons x xs ih =>
    intro i v k
    cases i with
    | zero => rfl
    | succ i => exact ih i v (fun ys => k (x :: ys))
