/-! What a law tells: its codes by a pile -/
def ap (c a b : Int) : Int := if c = 4 then wr (a + b) else if c = 5 then wr (a - b) else if c = 6 then wr (a * b) else dvI a b
def ev (va : Int → Int) : Rp → List Int → Option (List Int)
  | [], st => some st
  | x :: L, st => if x.1 < 2 then ev va L ((if x.1 = 0 then x.2 else va x.2) :: st) else match st with
    | b :: a :: r => if x.1 = 7 ∧ b = 0 then none else ev va L (ap x.1 a b :: r)
    | _ => none
def rvC (va : Int → Int) (L : Rp) (st : List Int) : Int := match ev va L st with
  | some [w] => w
  | _ => 0
def lval (va : Int → Int) : List (Rp × Rp × Rp) → Rp → Int
  | [], L => rvC va L []
  | x :: r, L => match ev va (x.1 ++ x.2.1) [] with
    | some [v, u] => if u < v then rvC va x.2.2 [] else lval va r L
    | _ => 0
def rvT (va : Int → Int) (L : Rp) (st : List Int) (C : Rp) (r : List (Rp × Rp × Rp)) (L2 : Rp) : Int := match ev va L st with
  | some [v, u] => if u < v then rvC va C [] else lval va r L2
  | _ => 0
theorem ev_p {va : Int → Int} {x : Int × Int} {L : Rp} {st : List Int} (c : x.1 < 2) : ev va (x :: L) st = ev va L ((if x.1 = 0 then x.2 else va x.2) :: st) := by
  show (if x.1 < 2 then _ else _) = _
  rw [if_pos c]
theorem ev_o {va : Int → Int} {x : Int × Int} {L : Rp} {a b : Int} {r : List Int} (c : ¬ x.1 < 2) (z : ¬ (x.1 = 7 ∧ b = 0)) : ev va (x :: L) (b :: a :: r) = ev va L (ap x.1 a b :: r) := by
  show (if x.1 < 2 then _ else (if x.1 = 7 ∧ b = 0 then _ else _)) = _
  rw [if_neg c, if_neg z]
theorem ev_z {va : Int → Int} {x : Int × Int} {L : Rp} {a b : Int} {r : List Int} (c : ¬ x.1 < 2) (z : x.1 = 7 ∧ b = 0) : ev va (x :: L) (b :: a :: r) = none := by
  show (if x.1 < 2 then _ else (if x.1 = 7 ∧ b = 0 then _ else _)) = _
  rw [if_neg c, if_pos z]
theorem wf_c {k : Int} {h e : Int} {x : Int × Int} {L : Rp} (w : wf k h (x :: L) e) : (0 ≤ x.2 ∧ x.2 ≤ 9999) ∧ ((x.1 < 2 ∧ 0 ≤ x.1 ∧ h + 1 ≤ k ∧ (x.1 = 1 → x.2 ≤ 8) ∧ wf k (h + 1) L e) ∨ ((4 ≤ x.1 ∧ x.1 ≤ 7) ∧ x.2 = 0 ∧ 2 ≤ h ∧ wf k (h - 1) L e)) := by
  refine ⟨w.1, ?_⟩
  have q := w.2
  split at q
  · next c => exact Or.inl ⟨c, q⟩
  · exact Or.inr q
theorem ev_len {k : Int} {va : Int → Int} : ∀ {L : Rp} {st s2 : List Int} {e : Int}, wf k (st.length : Int) L e → ev va L st = some s2 → (s2.length : Int) = e
  | [], st, s2, e, w, h => by
    have : some st = some s2 := h
    have e2 : e = (st.length : Int) := w
    rw [e2, Option.some.inj this]
  | x :: L, st, s2, e, w, h => by
    rcases (wf_c w).2 with ⟨c, -, -, -, r⟩ | ⟨c, -, l, r⟩
    · rw [ev_p c] at h
      exact ev_len (by simpa using r) h
    · match st, l, r, h with
      | [], l, _, _ => exact absurd l (by simp)
      | [_], l, _, _ => exact absurd l (by simp)
      | b :: a :: t, _, r, h =>
        by_cases z : x.1 = 7 ∧ b = 0
        · rw [ev_z (by omega) z] at h
          exact absurd h (by simp)
        · rw [ev_o (by omega) z] at h
          refine ev_len (k := k) ?_ h
          have n : (((b :: a :: t).length : Nat) : Int) - 1 = (((ap x.1 a b) :: t).length : Int) := by simp
          rw [← n]
          exact r
theorem ev_app {va : Int → Int} {L2 : Rp} : ∀ {L : Rp} {st : List Int}, ev va (L ++ L2) st = (ev va L st).bind (fun s => ev va L2 s)
  | [], st => rfl
  | x :: L, st => by
    show ev va (x :: (L ++ L2)) st = _
    by_cases c : x.1 < 2
    · rw [ev_p c, ev_p c]
      exact ev_app
    · match st with
      | [] =>
        show (if x.1 < 2 then _ else none) = Option.bind (if x.1 < 2 then _ else none) _
        rw [if_neg c, if_neg c]; rfl
      | [_] =>
        show (if x.1 < 2 then _ else none) = Option.bind (if x.1 < 2 then _ else none) _
        rw [if_neg c, if_neg c]; rfl
      | b :: a :: t =>
        by_cases z : x.1 = 7 ∧ b = 0
        · rw [ev_z c z, ev_z c z]; rfl
        · rw [ev_o c z, ev_o c z]
          exact ev_app
theorem ev_base {k : Int} {va : Int → Int} {bs : List Int} : ∀ {L : Rp} {st : List Int} {e : Int}, wf k (st.length : Int) L e → ev va L (st ++ bs) = (ev va L st).map (fun s => s ++ bs)
  | [], st, e, _ => rfl
  | x :: L, st, e, w => by
    rcases (wf_c w).2 with ⟨c, -, -, -, r⟩ | ⟨c, -, l, r⟩
    · rw [ev_p c, ev_p c]
      exact ev_base (st := (if x.1 = 0 then x.2 else va x.2) :: st) (by simpa using r)
    · match st, l, r with
      | [], l, _ => exact absurd l (by simp)
      | [_], l, _ => exact absurd l (by simp)
      | b :: a :: t, _, r =>
        show ev va (x :: L) (b :: a :: (t ++ bs)) = _
        by_cases z : x.1 = 7 ∧ b = 0
        · rw [ev_z (by omega) z, ev_z (by omega) z]; rfl
        · rw [ev_o (by omega) z, ev_o (by omega) z]
          refine ev_base (k := k) (st := ap x.1 a b :: t) (e := e) ?_
          have n : (((b :: a :: t).length : Nat) : Int) - 1 = (((ap x.1 a b) :: t).length : Int) := by simp
          rw [← n]
          exact r
theorem ev_one {k : Int} {va : Int → Int} {L : Rp} (w : wf k 0 L 1) : ev va L [] = none ∨ ∃ u, ev va L [] = some [u] := by
  cases h : ev va L [] with
  | none => exact Or.inl rfl
  | some s =>
    have n := ev_len (st := []) w h
    match s, n with
    | [], n => exact absurd n (by simp)
    | [u], _ => exact Or.inr ⟨u, rfl⟩
    | _ :: _ :: _, n => exact absurd n (by simp; omega)
/-- two terms, one behind the other -/
theorem ev_two {k : Int} {va : Int → Int} {A B : Rp} (wA : wf k 0 A 1) (wB : wf k 0 B 1) : (ev va (A ++ B) [] = none ∧ (ev va A [] = none ∨ ev va B [] = none)) ∨ ∃ u v, ev va (A ++ B) [] = some [v, u] ∧ ev va A [] = some [u] ∧ ev va B [] = some [v] := by
  rw [ev_app]
  rcases ev_one (va := va) wA with hA | ⟨u, hA⟩
  · rw [hA]; exact Or.inl ⟨rfl, Or.inl rfl⟩
  · rw [hA]
    have eb : ev va B ([] ++ [u]) = (ev va B []).map (fun s => s ++ [u]) := ev_base (st := []) wB
    rcases ev_one (va := va) wB with hB | ⟨v, hB⟩
    · rw [hB] at eb ⊢
      exact Or.inl ⟨eb, Or.inr rfl⟩
    · rw [hB] at eb ⊢
      exact Or.inr ⟨u, v, eb, rfl, rfl⟩
theorem rvC_p {va : Int → Int} {x : Int × Int} {L : Rp} {st : List Int} (c : x.1 < 2) : rvC va (x :: L) st = rvC va L ((if x.1 = 0 then x.2 else va x.2) :: st) := by unfold rvC; rw [ev_p c]
theorem rvC_o {va : Int → Int} {x : Int × Int} {L : Rp} {a b : Int} {r : List Int} (c : ¬ x.1 < 2) (z : ¬ (x.1 = 7 ∧ b = 0)) : rvC va (x :: L) (b :: a :: r) = rvC va L (ap x.1 a b :: r) := by unfold rvC; rw [ev_o c z]
theorem rvC_z {va : Int → Int} {x : Int × Int} {L : Rp} {a b : Int} {r : List Int} (c : ¬ x.1 < 2) (z : x.1 = 7 ∧ b = 0) : rvC va (x :: L) (b :: a :: r) = 0 := by unfold rvC; rw [ev_z c z]
theorem rvT_p {va : Int → Int} {x : Int × Int} {L : Rp} {st : List Int} {C : Rp} {r : List (Rp × Rp × Rp)} {L2 : Rp} (c : x.1 < 2) : rvT va (x :: L) st C r L2 = rvT va L ((if x.1 = 0 then x.2 else va x.2) :: st) C r L2 := by unfold rvT; rw [ev_p c]
theorem rvT_o {va : Int → Int} {x : Int × Int} {L : Rp} {a b : Int} {t : List Int} {C : Rp} {r : List (Rp × Rp × Rp)} {L2 : Rp} (c : ¬ x.1 < 2) (z : ¬ (x.1 = 7 ∧ b = 0)) : rvT va (x :: L) (b :: a :: t) C r L2 = rvT va L (ap x.1 a b :: t) C r L2 := by unfold rvT; rw [ev_o c z]
theorem rvT_z {va : Int → Int} {x : Int × Int} {L : Rp} {a b : Int} {t : List Int} {C : Rp} {r : List (Rp × Rp × Rp)} {L2 : Rp} (c : ¬ x.1 < 2) (z : x.1 = 7 ∧ b = 0) : rvT va (x :: L) (b :: a :: t) C r L2 = 0 := by unfold rvT; rw [ev_z c z]
/-- every sum of a told law is well formed -/
def wfT (x : Rp × Rp × Rp) : Prop := wf 15 0 x.1 1 ∧ wf 15 0 x.2.1 1 ∧ wf 15 0 x.2.2 1
def wfE (E : List (Rp × Rp × Rp) × Rp) : Prop := (∀ x, x ∈ E.1 → wfT x) ∧ wf 15 0 E.2 1
