/-! What codes a sum of a law becomes, as a function of the tokens: K kinds, V values; the waiting signs are a list -/
abbrev Rp : Type := List (Int × Int)
def opc (w : Int) : Int := if w = 43 then 4 else if w = 45 then 5 else if w = 42 then 6 else 7
def fl (P : List Int) : Rp := P.map (fun w => (opc w, 0))
theorem fl_app (P Q : List Int) : fl (P ++ Q) = fl P ++ fl Q := List.map_append
def po (st : Bool) : List Int → List Int × Rp
  | [] => ([], [])
  | w :: W => if w = 40 ∨ (st = true ∧ (w = 43 ∨ w = 45)) then (w :: W, []) else ((po st W).1, (opc w, 0) :: (po st W).2)
def stg (k : Int) : Bool := decide (k = 42 ∨ k = 47)
def uc (K V : Int → Int) (t : Int) : Int × Int := if K t = 22 then (0, V t) else (1, K t - 12)
def em (K V : Int → Int) : Nat → Int → Int → Int → List Int → Rp
  | 0, _, _, _, _ => []
  | n + 1, t, d, s, W => if s = 0 then (if K t = 40 then em K V n (t + 1) (d + 1) 0 (40 :: W) else uc K V t :: em K V n (t + 1) d 1 W) else (if K t = 41 ∧ 0 < d then (po false W).2 ++ em K V n (t + 1) (d - 1) 1 (po false W).1.tail else if isOp (K t) then (po (stg (K t)) W).2 ++ em K V n (t + 1) d 0 (K t :: (po (stg (K t)) W).1) else (po false W).2)
def EM (K V : Int → Int) (t d s : Int) (W : List Int) : Rp := em K V (Int.toNat (402 - t)) t d s W
section EMT
variable {K V : Int → Int} {t d s : Int} {W : List Int}
theorem EM_st (h : t ≤ 400) : EM K V t d s W = if s = 0 then (if K t = 40 then EM K V (t + 1) (d + 1) 0 (40 :: W) else uc K V t :: EM K V (t + 1) d 1 W) else (if K t = 41 ∧ 0 < d then (po false W).2 ++ EM K V (t + 1) (d - 1) 1 (po false W).1.tail else if isOp (K t) then (po (stg (K t)) W).2 ++ EM K V (t + 1) d 0 (K t :: (po (stg (K t)) W).1) else (po false W).2) := by
  unfold EM
  rw [show Int.toNat (402 - t) = Int.toNat (402 - (t + 1)) + 1 by omega]
  rfl
theorem EM_o (h : t ≤ 400) (k : K t = 40) : EM K V t d 0 W = EM K V (t + 1) (d + 1) 0 (40 :: W) := by rw [EM_st h, if_pos rfl, if_pos k]
theorem EM_u (h : t ≤ 400) (k : isU (K t)) : EM K V t d 0 W = uc K V t :: EM K V (t + 1) d 1 W := by rw [EM_st h, if_pos rfl, if_neg (by unfold isU at k; omega)]
theorem EM_c (h : t ≤ 400) (k : K t = 41) (hd : 0 < d) : EM K V t d 1 W = (po false W).2 ++ EM K V (t + 1) (d - 1) 1 (po false W).1.tail := by rw [EM_st h, if_neg (by omega), if_pos ⟨k, hd⟩]
theorem EM_p (h : t ≤ 400) (k : isOp (K t)) : EM K V t d 1 W = (po (stg (K t)) W).2 ++ EM K V (t + 1) d 0 (K t :: (po (stg (K t)) W).1) := by rw [EM_st h, if_neg (by omega), if_neg (by unfold isOp at k; omega), if_pos k]
theorem EM_z (h : t ≤ 400) (k : ¬ (K t = 41 ∧ 0 < d)) (u : ¬ isOp (K t)) : EM K V t d 1 W = (po false W).2 := by rw [EM_st h, if_neg (by omega), if_neg k, if_neg u]
end EMT
def topS (W : List Int) : Prop := W = [] ∨ ∃ X, W = 40 :: X
def topP (W : List Int) : Prop := W = [] ∨ ∃ x X, W = x :: X ∧ (x = 40 ∨ x = 43 ∨ x = 45)
def allO (P : List Int) : Prop := ∀ w, w ∈ P → isOp w
def allS (P : List Int) : Prop := ∀ w, w ∈ P → w = 42 ∨ w = 47
theorem po_app {W : List Int} (hW : topS W) : ∀ {P : List Int}, allO P → po false (P ++ W) = (W, fl P)
  | [], _ => by
    rcases hW with rfl | ⟨X, rfl⟩
    · rfl
    · show po false (40 :: X) = _
      unfold po
      rw [if_pos (Or.inl rfl)]
      rfl
  | w :: P, hP => by
    have hw : isOp w := hP w List.mem_cons_self
    have ih := po_app hW (P := P) (fun x hx => hP x (List.mem_cons_of_mem _ hx))
    show po false (w :: (P ++ W)) = _
    unfold po
    rw [if_neg (by unfold isOp at hw; simp; omega), ih]
    rfl
theorem po_str {W : List Int} (hW : topP W) : ∀ {P : List Int}, allS P → po true (P ++ W) = (W, fl P)
  | [], _ => by
    rcases hW with rfl | ⟨x, X, rfl, hx⟩
    · rfl
    · show po true (x :: X) = _
      unfold po
      rw [if_pos (by simp; omega)]
      rfl
  | w :: P, hP => by
    have hw := hP w List.mem_cons_self
    have ih := po_str hW (P := P) (fun x hx => hP x (List.mem_cons_of_mem _ hx))
    show po true (w :: (P ++ W)) = _
    unfold po
    rw [if_neg (by simp; omega), ih]
    rfl
theorem topS_P {W : List Int} (h : topS W) : topP W := by
  rcases h with rfl | ⟨X, rfl⟩
  · exact Or.inl rfl
  · exact Or.inr ⟨40, X, rfl, Or.inl rfl⟩
theorem allS_O {P : List Int} (h : allS P) : allO P := fun w hw => by have := h w hw; unfold isOp; omega
theorem allO_nil : allO [] := fun _ h => absurd h List.not_mem_nil
theorem allS_nil : allS [] := fun _ h => absurd h List.not_mem_nil
theorem allO_app {P : List Int} {w : Int} (h : allO P) (hw : isOp w) : allO (P ++ [w]) := fun x hx => by
  rcases List.mem_append.mp hx with q | q
  · exact h x q
  · rw [List.mem_singleton.mp q]; exact hw
theorem allS_one {w : Int} (hw : w = 42 ∨ w = 47) : allS [w] := fun x hx => by rw [List.mem_singleton.mp hx]; exact hw
/-- in row r, from a on, the codes stand as the class keeps them -/
def sgC (m : Mm) (r : Nat) : Int → Rp → Prop
  | _, [] => True
  | a, x :: L => rd m r (Int.toNat a) = x.2 * 8 + x.1 ∧ sgC m r (a + 1) L
theorem sg_app {m : Mm} {r : Nat} : ∀ {L L2 : Rp} {a : Int}, sgC m r a (L ++ L2) ↔ sgC m r a L ∧ sgC m r (a + L.length) L2
  | [], L2, a => by
    show sgC m r a L2 ↔ True ∧ sgC m r (a + ((0 : Nat) : Int)) L2
    rw [show a + ((0 : Nat) : Int) = a by omega]
    exact ⟨fun h => ⟨trivial, h⟩, fun h => h.2⟩
  | x :: L, L2, a => by
    show (rd m r (Int.toNat a) = x.2 * 8 + x.1 ∧ sgC m r (a + 1) (L ++ L2)) ↔ (rd m r (Int.toNat a) = x.2 * 8 + x.1 ∧ sgC m r (a + 1) L) ∧ sgC m r (a + ((L.length + 1 : Nat) : Int)) L2
    rw [sg_app (L := L) (L2 := L2) (a := a + 1), show a + ((L.length + 1 : Nat) : Int) = a + 1 + (L.length : Int) by omega]
    exact ⟨fun h => ⟨⟨h.1, h.2.1⟩, h.2.2⟩, fun h => ⟨h.1.1, h.1.2, h.2⟩⟩
theorem sg_fr {m m2 : Mm} {r r2 : Nat} : ∀ {L : Rp} {a : Int}, (0 ≤ a) → (∀ j : Nat, a ≤ j → (j : Int) < a + L.length → rd m2 r2 j = rd m r j) → sgC m r a L → sgC m2 r2 a L
  | [], _, _, _, _ => trivial
  | x :: L, a, ha, f, h => by
    have fl : ((x :: L).length : Int) = L.length + 1 := by simp
    exact ⟨(f (Int.toNat a) (by omega) (by omega)).trans h.1, sg_fr (a := a + 1) (by omega) (fun j h1 h2 => f j (by omega) (by omega)) h.2⟩
theorem uc_i {K V : Int → Int} {t x : Int} (k : K t = 22) (v : x = V t) : uc K V t = (0, x) := by unfold uc; rw [if_pos k, v]
theorem uc_v {K V : Int → Int} {t x : Int} (k : ¬ K t = 22) (v : x = K t - 12) : uc K V t = (1, x) := by unfold uc; rw [if_neg k, v]
