/-! Heaps by what each cell holds -/
def mm_tr (V : Nat → mm_C) : (d : Nat) → Nat → mm_T d
  | 0, i => (if i < 341 then some (V i) else none : Option mm_C)
  | d + 1, i => ((mm_tr V d i, mm_tr V d (i + 2 ^ d)) : mm_T d × mm_T d)
def mm_up (V : Nat → mm_C) (i : Nat) (c : mm_C) : Nat → mm_C := fun j => if j = i then c else V j
theorem mm_up_eq {V : Nat → mm_C} {i : Nat} {c : mm_C} : mm_up V i c i = c := if_pos rfl
theorem mm_up_ne {V : Nat → mm_C} {i j : Nat} {c : mm_C} (h : j ≠ i) : mm_up V i c j = V j := if_neg h
theorem mm_blt (z n : Nat) : Nat.blt z n = decide (z < n) := by
  by_cases h : z < n
  · rw [decide_eq_true h]; exact Nat.blt_eq.mpr h
  · rw [decide_eq_false h]
    cases hq : Nat.blt z n with
    | false => rfl
    | true => exact absurd (Nat.blt_eq.mp hq) h
theorem mm_tr_same {V U : Nat → mm_C} : ∀ (d b : Nat), (∀ j, b ≤ j → j < b + 2 ^ d → V j = U j) → mm_tr V d b = mm_tr U d b := by
  intro d
  induction d with
  | zero =>
    intro b h
    show (if b < 341 then some (V b) else none : Option mm_C) = (if b < 341 then some (U b) else none)
    rw [h b (Nat.le_refl b) (by omega)]
  | succ d ih =>
    intro b h
    have e : 2 ^ (d + 1) = 2 ^ d + 2 ^ d := by rw [Nat.pow_succ]; omega
    show ((mm_tr V d b, mm_tr V d (b + 2 ^ d)) : mm_T d × mm_T d) = (mm_tr U d b, mm_tr U d (b + 2 ^ d))
    rw [ih b (fun j h1 h2 => h j h1 (by omega)), ih (b + 2 ^ d) (fun j h1 h2 => h j (by omega) (by omega))]
theorem mm_tr_get (V : Nat → mm_C) : ∀ (d b i : Nat), i < 2 ^ d → b + i < 341 → mm_get d (mm_tr V d b) i = some (V (b + i)) := by
  intro d
  induction d with
  | zero =>
    intro b i hi hb
    have : i = 0 := by omega
    subst this
    show (if b < 341 then some (V b) else none : Option mm_C) = some (V (b + 0))
    rw [if_pos (by omega)]
    rfl
  | succ d ih =>
    intro b i hi hb
    have e : 2 ^ (d + 1) = 2 ^ d + 2 ^ d := by rw [Nat.pow_succ]; omega
    show (bif Nat.blt i (2 ^ d) then mm_get d (mm_tr V d b) i else mm_get d (mm_tr V d (b + 2 ^ d)) (i - 2 ^ d)) = _
    rw [mm_blt]
    by_cases h : i < 2 ^ d
    · rw [decide_eq_true h]
      exact ih b i h hb
    · rw [decide_eq_false h]
      show mm_get d (mm_tr V d (b + 2 ^ d)) (i - 2 ^ d) = _
      rw [ih (b + 2 ^ d) (i - 2 ^ d) (by omega) (by omega)]
      rw [show b + 2 ^ d + (i - 2 ^ d) = b + i by omega]
theorem mm_tr_set (V : Nat → mm_C) (c : mm_C) : ∀ (d b i : Nat), i < 2 ^ d → b + i < 341 → mm_set d (mm_tr V d b) i c = mm_tr (mm_up V (b + i) c) d b := by
  intro d
  induction d with
  | zero =>
    intro b i hi hb
    have : i = 0 := by omega
    subst this
    show (some c : Option mm_C) = (if b < 341 then some (mm_up V (b + 0) c b) else none)
    rw [if_pos (by omega)]
    show some c = some (mm_up V b c b)
    rw [mm_up_eq]
  | succ d ih =>
    intro b i hi hb
    have e : 2 ^ (d + 1) = 2 ^ d + 2 ^ d := by rw [Nat.pow_succ]; omega
    show (bif Nat.blt i (2 ^ d) then ((mm_set d (mm_tr V d b) i c, mm_tr V d (b + 2 ^ d)) : mm_T d × mm_T d) else ((mm_tr V d b, mm_set d (mm_tr V d (b + 2 ^ d)) (i - 2 ^ d) c) : mm_T d × mm_T d)) = ((mm_tr (mm_up V (b + i) c) d b, mm_tr (mm_up V (b + i) c) d (b + 2 ^ d)) : mm_T d × mm_T d)
    rw [mm_blt]
    by_cases h : i < 2 ^ d
    · rw [decide_eq_true h]
      show ((mm_set d (mm_tr V d b) i c, mm_tr V d (b + 2 ^ d)) : mm_T d × mm_T d) = _
      rw [ih b i h hb, mm_tr_same (V := V) (U := mm_up V (b + i) c) d (b + 2 ^ d) (fun j h1 h2 => (mm_up_ne (by omega)).symm)]
    · rw [decide_eq_false h]
      show ((mm_tr V d b, mm_set d (mm_tr V d (b + 2 ^ d)) (i - 2 ^ d) c) : mm_T d × mm_T d) = _
      rw [ih (b + 2 ^ d) (i - 2 ^ d) (by omega) (by omega), show b + 2 ^ d + (i - 2 ^ d) = b + i by omega, mm_tr_same (V := V) (U := mm_up V (b + i) c) d b (fun j h1 h2 => (mm_up_ne (by omega)).symm)]
def mm_hp (V : Nat → mm_C) : mm_H := (341, 33469, mm_tr V 9 0)
theorem hp_get {V : Nat → mm_C} {i : Nat} (h : i < 341) : mm_hg (mm_hp V) i = some (V i) := by
  show (bif Nat.blt i 341 then mm_get 9 (mm_tr V 9 0) i else none) = _
  rw [mm_blt, decide_eq_true h]
  show mm_get 9 (mm_tr V 9 0) i = _
  rw [mm_tr_get V 9 0 i (by omega) (by omega), Nat.zero_add]
theorem hp_put {V : Nat → mm_C} {i : Nat} {c : mm_C} (h : i < 341) {α : Type} (k : mm_H → α) : mm_hs (mm_hp V) i c k = k (mm_hp (mm_up V i c)) := by
  show mm_setK 9 (mm_tr V 9 0) i c (fun t => k (341, 33469, t)) = _
  rw [mm_setK_eq, mm_tr_set V c 9 0 i (by omega) (by omega), Nat.zero_add]
  rfl
