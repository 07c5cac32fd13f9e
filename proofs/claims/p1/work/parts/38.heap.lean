/-! Heaps that are alike, reckoned -/
def mm_eV (a b : Value) : Bool := match a, b with
  | .int x, .int y => Nat.beq x.toBitVec.toNat y.toBitVec.toNat
  | .long x, .long y => Nat.beq x.toBitVec.toNat y.toBitVec.toNat
  | .null, .null => true
  | .ref x, .ref y => Nat.beq x y
  | _, _ => false
theorem mm_eV_eq {a b : Value} (h : mm_eV a b = true) : a = b := by
  unfold mm_eV at h
  split at h
  · next x y =>
    have := Nat.eq_of_beq_eq_true h
    rw [Int32.toBitVec_inj.mp (BitVec.eq_of_toNat_eq this)]
  · next x y =>
    have := Nat.eq_of_beq_eq_true h
    rw [Int64.toBitVec_inj.mp (BitVec.eq_of_toNat_eq this)]
  · rfl
  · next x y => rw [Nat.eq_of_beq_eq_true h]
  · cases h
def mm_eL : List Value → List Value → Bool
  | [], [] => true
  | x :: xs, y :: ys => mm_eV x y && mm_eL xs ys
  | _, _ => false
theorem mm_eL_eq : ∀ {a b : List Value}, mm_eL a b = true → a = b := by
  intro a
  induction a with
  | nil => intro b h; cases b with
    | nil => rfl
    | cons y ys => cases h
  | cons x xs ih => intro b h; cases b with
    | nil => cases h
    | cons y ys =>
      have h : (mm_eV x y && mm_eL xs ys) = true := h
      rw [Bool.and_eq_true] at h
      rw [mm_eV_eq h.1, ih h.2]
def mm_eC (a b : mm_C) : Bool := match a, b with
  | .inl (c, xs), .inl (d, ys) => Nat.beq c d && mm_eL xs ys
  | .inr (t, xs), .inr (u, ys) => decide (t = u) && mm_eL xs ys
  | _, _ => false
theorem mm_eC_eq {a b : mm_C} (h : mm_eC a b = true) : a = b := by
  unfold mm_eC at h
  split at h
  · rw [Bool.and_eq_true] at h
    rw [Nat.eq_of_beq_eq_true h.1, mm_eL_eq h.2]
  · rw [Bool.and_eq_true, decide_eq_true_eq] at h
    rw [h.1, mm_eL_eq h.2]
  · cases h
def mm_eO (a b : Option mm_C) : Bool := match a, b with
  | none, none => true
  | some x, some y => mm_eC x y
  | _, _ => false
theorem mm_eO_eq {a b : Option mm_C} (h : mm_eO a b = true) : a = b := by
  unfold mm_eO at h
  split at h
  · rfl
  · rw [mm_eC_eq h]
  · cases h
def mm_eT : (d : Nat) → mm_T d → mm_T d → Bool
  | 0, a, b => mm_eO a b
  | d + 1, t, u => mm_eT d (Prod.fst (α := mm_T d) (β := mm_T d) t) (Prod.fst (α := mm_T d) (β := mm_T d) u) && mm_eT d (Prod.snd (α := mm_T d) (β := mm_T d) t) (Prod.snd (α := mm_T d) (β := mm_T d) u)
theorem mm_eT_eq : ∀ (d : Nat) (t u : mm_T d), mm_eT d t u = true → t = u := by
  intro d
  induction d with
  | zero => intro t u h; exact mm_eO_eq h
  | succ d ih =>
    intro t u h
    obtain ⟨a, b⟩ : mm_T d × mm_T d := t
    obtain ⟨a2, b2⟩ : mm_T d × mm_T d := u
    have h : (mm_eT d a a2 && mm_eT d b b2) = true := h
    rw [Bool.and_eq_true] at h
    rw [ih _ _ h.1, ih _ _ h.2]
def mm_eH (h g : mm_H) : Bool := Nat.beq h.1 g.1 && Nat.beq h.2.1 g.2.1 && mm_eT 9 h.2.2 g.2.2
theorem mm_eH_eq {h g : mm_H} (e : mm_eH h g = true) : h = g := by
  unfold mm_eH at e
  rw [Bool.and_eq_true, Bool.and_eq_true] at e
  obtain ⟨a, b, c⟩ := h
  obtain ⟨a2, b2, c2⟩ := g
  rw [show a = a2 from Nat.eq_of_beq_eq_true e.1.1, show b = b2 from Nat.eq_of_beq_eq_true e.1.2, show c = c2 from mm_eT_eq 9 _ _ e.2]
/-- a call without an answer comes to that heap -/
def mm_is (o : Option (mm_H × Option Value)) (g : mm_H) : Bool := match o with
  | some (h, none) => mm_eH h g
  | _ => false
theorem mm_is_eq {o : Option (mm_H × Option Value)} {g : mm_H} (e : mm_is o g = true) : o = some (g, none) := by
  unfold mm_is at e
  split at e
  · rw [mm_eH_eq e]
  · cases e
def hA_0 : mm_C := .inl (11, List.replicate 11 (.null))
def hA : mm_H := (1, 11, ((((((((((some hA_0 : Option mm_C), mm_no 0), mm_no 1), mm_no 2), mm_no 3), mm_no 4), mm_no 5), mm_no 6), mm_no 7), mm_no 8))
def hX_0 : mm_C := .inl (11, [.ref 1, .ref 7, .ref 19, .ref 30, .ref 31, .ref 36, .ref 39, .ref 49, .ref 55, .ref 274, .ref 279])
def hX_1 : mm_C := .inl (8, [.int 0, .ref 2, .ref 3, .ref 4, .ref 5, .ref 6, .int 0])
def hX_2 : mm_C := .inr (.int, [.int 23] ++ List.replicate 400 (.int 0))
def hX_3 : mm_C := .inr (.int, List.replicate 401 (.int 0))
def hX_4 : mm_C := .inr (.long, List.replicate 401 (.long 0))
def hX_5 : mm_C := .inr (.byte, List.replicate 2000 (.int 0))
def hX_6 : mm_C := .inr (.long, [.long 493294, .long 380396, .long 8529698, .long 1949891, .long 239336362, .long 10656676, .long 1903978, .long 10340587, .long 377761, .long 249, .long 399641, .long 107681, .long 240023, .long 15001, .long 126880, .long 311436, .long 854125379, .long 400672, .long 191610176, .long 12387257, .long 16819])
def hX_7 : mm_C := .inl (3, [.int 4, .int 4, .int 0, .int 0, .int 0, .ref 8, .ref 9, .ref 10, .ref 11, .ref 16, .ref 17, .ref 18])
def hX_8 : mm_C := .inr (.int, List.replicate 25 (.int 0))
def hX_9 : mm_C := .inr (.int, [.int (-1), .int (-1), .int (-1)])
def hX_10 : mm_C := .inr (.int, List.replicate 18 (.int 0))
def hX_11 : mm_C := .inl (1, [.ref 12, .ref 13, .ref 14, .ref 15, .int 8])
def hX_12 : mm_C := .inr (.int, List.replicate 9 (.int 0))
def hX_13 : mm_C := .inr (.int, [.int 8, .int 2, .int 0, .int 2, .int 8, .int 2, .int 0, .int 2] ++ List.replicate 412 (.int 0))
def hX_14 : mm_C := .inr (.int, [.int 0, .int 2, .int 4, .int 6])
def hX_15 : mm_C := .inr (.int, List.replicate 24 (.int 0))
def hX_16 : mm_C := .inr (.int, [.int 0, .int 1, .int 2, .int 3, .int 0, .int 1, .int 2, .int 3, .int 0, .int 1, .int 2, .int 3, .int 0, .int 1, .int 2, .int 3] ++ List.replicate 9 (.int 0))
def hX_17 : mm_C := .inr (.int, [.int 0, .int 0, .int 0, .int 0, .int 1, .int 1, .int 1, .int 1, .int 2, .int 2, .int 2, .int 2, .int 3, .int 3, .int 3, .int 3] ++ List.replicate 9 (.int 0))
def hX_18 : mm_C := .inr (.int, [.int 1, .int 4, .int (-1), .int (-1), .int 2, .int 5, .int 0, .int (-1), .int 3, .int 6, .int 1, .int (-1), .int (-1), .int 7, .int 2, .int (-1), .int 5, .int 8, .int (-1), .int 0, .int 6, .int 9, .int 4, .int 1, .int 7, .int 10, .int 5, .int 2, .int (-1), .int 11, .int 6, .int 3, .int 9, .int 12, .int (-1), .int 4, .int 10, .int 13, .int 8, .int 5, .int 11, .int 14, .int 9, .int 6, .int (-1), .int 15, .int 10, .int 7, .int 13, .int (-1), .int (-1), .int 8, .int 14, .int (-1), .int 12, .int 9, .int 15, .int (-1), .int 13, .int 10, .int (-1), .int (-1), .int 14, .int 11] ++ List.replicate 36 (.int 0))
def hX_19 : mm_C := .inl (4, [.int (-1), .ref 1, .ref 7, .ref 20, .int 0, .int 0, .int 0, .int (-1), .int 4, .int 4, .int 0, .int 0, .int 0, .int 0, .ref 25, .ref 26, .ref 27, .ref 28, .ref 29])
def hX_20 : mm_C := .inl (1, [.ref 21, .ref 22, .ref 23, .ref 24, .int 8])
def hX_21 : mm_C := .inr (.int, List.replicate 9 (.int 0))
def hX_22 : mm_C := .inr (.int, [.int 8, .int 2, .int 0, .int 2, .int 8, .int 2, .int 0, .int 2] ++ List.replicate 412 (.int 0))
def hX_23 : mm_C := .inr (.int, [.int 0, .int 2, .int 4, .int 6])
def hX_24 : mm_C := .inr (.int, List.replicate 24 (.int 0))
def hX_25 : mm_C := .inr (.int, List.replicate 16 (.int 0))
def hX_26 : mm_C := .inr (.int, List.replicate 30 (.int 0))
def hX_27 : mm_C := .inr (.int, [.int 0, .int 0, .int 0, .int 0, .int 0, .int 0])
def hX_28 : mm_C := .inr (.int, List.replicate 18 (.int 0))
def hX_29 : mm_C := .inr (.long, [.long 0, .long 0, .long 0])
def hX_30 : mm_C := .inl (0, [.ref 7])
def hX_31 : mm_C := .inl (9, [.ref 32, .ref 33, .ref 34, .ref 35])
def hX_32 : mm_C := .inr (.int, [.int 0, .int 1, .int 2, .int 3, .int 4, .int 5, .int 4, .int 5, .int 2, .int 3, .int 1, .int 0, .int 2, .int 3, .int 1, .int 0, .int 4, .int 5, .int 5, .int 4, .int 2, .int 3, .int 0, .int 1, .int 3, .int 2, .int 0, .int 1, .int 4, .int 5, .int 1, .int 0, .int 2, .int 3, .int 5, .int 4, .int 2, .int 3, .int 5, .int 4, .int 1, .int 0, .int 3, .int 2, .int 4, .int 5, .int 1, .int 0, .int 4, .int 5, .int 1, .int 0, .int 3, .int 2, .int 1, .int 0, .int 3, .int 2, .int 4, .int 5, .int 5, .int 4, .int 1, .int 0, .int 2, .int 3, .int 2, .int 3, .int 4, .int 5, .int 0, .int 1, .int 3, .int 2, .int 5, .int 4, .int 0, .int 1, .int 4, .int 5, .int 0, .int 1, .int 2, .int 3, .int 5, .int 4, .int 0, .int 1, .int 3, .int 2, .int 2, .int 3, .int 0, .int 1, .int 5, .int 4, .int 3, .int 2, .int 1, .int 0, .int 5, .int 4, .int 1, .int 0, .int 5, .int 4, .int 3, .int 2, .int 5, .int 4, .int 3, .int 2, .int 1, .int 0, .int 0, .int 1, .int 5, .int 4, .int 2, .int 3, .int 1, .int 0, .int 4, .int 5, .int 2, .int 3, .int 0, .int 1, .int 4, .int 5, .int 3, .int 2, .int 4, .int 5, .int 3, .int 2, .int 0, .int 1, .int 0, .int 1, .int 3, .int 2, .int 5, .int 4])
def hX_33 : mm_C := .inr (.int, [.int 1, .int 2, .int 3, .int 4, .int 5, .int 6, .int 0, .int 7, .int 8, .int 9, .int 10, .int 0, .int 0, .int 11, .int 5, .int 12, .int 13, .int 0, .int 14, .int 9, .int 3, .int 15, .int 1, .int 16, .int 17, .int 18, .int 19, .int 1, .int 20, .int 1, .int 21, .int 18, .int 16, .int 17, .int 2, .int 21, .int 22, .int 4, .int 18, .int 2, .int 2, .int 20, .int 16, .int 19, .int 21, .int 22, .int 20, .int 3, .int 19, .int 3, .int 17, .int 22, .int 15, .int 19, .int 4, .int 20, .int 4, .int 21, .int 15, .int 17, .int 14, .int 23, .int 13, .int 5, .int 10, .int 5, .int 8, .int 23, .int 12, .int 14, .int 6, .int 8, .int 9, .int 7, .int 23, .int 6, .int 6, .int 10, .int 12, .int 13, .int 11, .int 13, .int 7, .int 10, .int 7, .int 8, .int 11, .int 14, .int 23, .int 12, .int 9, .int 11, .int 18, .int 16, .int 22, .int 15])
def hX_34 : mm_C := .inr (.int, [.int 2, .int 3, .int 0, .int 1, .int 5, .int 4])
def hX_35 : mm_C := .inr (.int, List.replicate 24 (.int 0))
def hX_36 : mm_C := .inl (6, [.ref 7, .int 0, .ref 31, .ref 37, .ref 38])
def hX_37 : mm_C := .inr (.int, List.replicate 100 (.int 0))
def hX_38 : mm_C := .inr (.int, [.int 0, .int 0, .int 0, .int 0, .int 0, .int 0])
def hX_39 : mm_C := .inl (10, [.int 0, .ref 36, .ref 30, .ref 40, .ref 41, .ref 42, .ref 43, .ref 44, .ref 45, .ref 46, .ref 47, .ref 48, .int 0])
def hX_40 : mm_C := .inr (.int, List.replicate 600 (.int 0))
def hX_41 : mm_C := .inr (.int, List.replicate 600 (.int 0))
def hX_42 : mm_C := .inr (.int, List.replicate 600 (.int 0))
def hX_43 : mm_C := .inr (.int, List.replicate 600 (.int 0))
def hX_44 : mm_C := .inr (.int, List.replicate 600 (.int 0))
def hX_45 : mm_C := .inr (.int, List.replicate 600 (.int 0))
def hX_46 : mm_C := .inr (.int, List.replicate 100 (.int 0))
def hX_47 : mm_C := .inr (.int, List.replicate 600 (.int 0))
def hX_48 : mm_C := .inr (.int, List.replicate 600 (.int 0))
def hX_49 : mm_C := .inl (5, [.int 0, .int 0, .int 0, .ref 36, .ref 50, .ref 51, .ref 52, .ref 53, .ref 54, .int 0, .int 0])
def hX_50 : mm_C := .inr (.int, List.replicate 20 (.int 0))
def hX_51 : mm_C := .inr (.int, List.replicate 20 (.int 0))
def hX_52 : mm_C := .inr (.boolean, List.replicate 20 (.int 0))
def hX_53 : mm_C := .inr (.int, [.int 0, .int 0, .int 0, .int 0, .int 0])
def hX_54 : mm_C := .inr (.int, List.replicate 50 (.int 0))
def hX_55 : mm_C := .inl (2, [.int 0, .ref 56, .ref 57, .ref 58, .int 0])
def hX_56 : mm_C := .inr ((.object "TippedCrates$State"), [.ref 59, .ref 64, .ref 69, .ref 74, .ref 79, .ref 84, .ref 89, .ref 94, .ref 99, .ref 104, .ref 109, .ref 114, .ref 119, .ref 124, .ref 129, .ref 134, .ref 139, .ref 144, .ref 149, .ref 154, .ref 159, .ref 164, .ref 169, .ref 174, .ref 179, .ref 184, .ref 189, .ref 194, .ref 199, .ref 204, .ref 209, .ref 214, .ref 219, .ref 224, .ref 229, .ref 234, .ref 239, .ref 244, .ref 249, .ref 254])
def hX_57 : mm_C := .inr ((.object "TippedCrates$State"), [.ref 259, .ref 264, .ref 269])
def hX_58 : mm_C := .inr (.boolean, [.int 0, .int 0, .int 0])
def hX_59 : mm_C := .inl (7, [.ref 60, .ref 61, .ref 62, .ref 63, .int 0, .int 0, .int 0])
def hX_60 : mm_C := .inr (.int, List.replicate 25 (.int 0))
def hX_61 : mm_C := .inr (.int, [.int 0, .int 0, .int 0])
def hX_62 : mm_C := .inr (.int, List.replicate 18 (.int 0))
def hX_63 : mm_C := .inr (.int, [.int 0, .int 0, .int 0])
def hX_64 : mm_C := .inl (7, [.ref 65, .ref 66, .ref 67, .ref 68, .int 0, .int 0, .int 0])
def hX_65 : mm_C := .inr (.int, List.replicate 25 (.int 0))
def hX_66 : mm_C := .inr (.int, [.int 0, .int 0, .int 0])
def hX_67 : mm_C := .inr (.int, List.replicate 18 (.int 0))
def hX_68 : mm_C := .inr (.int, [.int 0, .int 0, .int 0])
def hX_69 : mm_C := .inl (7, [.ref 70, .ref 71, .ref 72, .ref 73, .int 0, .int 0, .int 0])
def hX_70 : mm_C := .inr (.int, List.replicate 25 (.int 0))
def hX_71 : mm_C := .inr (.int, [.int 0, .int 0, .int 0])
def hX_72 : mm_C := .inr (.int, List.replicate 18 (.int 0))
def hX_73 : mm_C := .inr (.int, [.int 0, .int 0, .int 0])
def hX_74 : mm_C := .inl (7, [.ref 75, .ref 76, .ref 77, .ref 78, .int 0, .int 0, .int 0])
def hX_75 : mm_C := .inr (.int, List.replicate 25 (.int 0))
def hX_76 : mm_C := .inr (.int, [.int 0, .int 0, .int 0])
def hX_77 : mm_C := .inr (.int, List.replicate 18 (.int 0))
def hX_78 : mm_C := .inr (.int, [.int 0, .int 0, .int 0])
def hX_79 : mm_C := .inl (7, [.ref 80, .ref 81, .ref 82, .ref 83, .int 0, .int 0, .int 0])
def hX_80 : mm_C := .inr (.int, List.replicate 25 (.int 0))
def hX_81 : mm_C := .inr (.int, [.int 0, .int 0, .int 0])
def hX_82 : mm_C := .inr (.int, List.replicate 18 (.int 0))
def hX_83 : mm_C := .inr (.int, [.int 0, .int 0, .int 0])
def hX_84 : mm_C := .inl (7, [.ref 85, .ref 86, .ref 87, .ref 88, .int 0, .int 0, .int 0])
def hX_85 : mm_C := .inr (.int, List.replicate 25 (.int 0))
def hX_86 : mm_C := .inr (.int, [.int 0, .int 0, .int 0])
def hX_87 : mm_C := .inr (.int, List.replicate 18 (.int 0))
def hX_88 : mm_C := .inr (.int, [.int 0, .int 0, .int 0])
def hX_89 : mm_C := .inl (7, [.ref 90, .ref 91, .ref 92, .ref 93, .int 0, .int 0, .int 0])
def hX_90 : mm_C := .inr (.int, List.replicate 25 (.int 0))
def hX_91 : mm_C := .inr (.int, [.int 0, .int 0, .int 0])
def hX_92 : mm_C := .inr (.int, List.replicate 18 (.int 0))
def hX_93 : mm_C := .inr (.int, [.int 0, .int 0, .int 0])
def hX_94 : mm_C := .inl (7, [.ref 95, .ref 96, .ref 97, .ref 98, .int 0, .int 0, .int 0])
def hX_95 : mm_C := .inr (.int, List.replicate 25 (.int 0))
def hX_96 : mm_C := .inr (.int, [.int 0, .int 0, .int 0])
def hX_97 : mm_C := .inr (.int, List.replicate 18 (.int 0))
def hX_98 : mm_C := .inr (.int, [.int 0, .int 0, .int 0])
def hX_99 : mm_C := .inl (7, [.ref 100, .ref 101, .ref 102, .ref 103, .int 0, .int 0, .int 0])
def hX_100 : mm_C := .inr (.int, List.replicate 25 (.int 0))
def hX_101 : mm_C := .inr (.int, [.int 0, .int 0, .int 0])
def hX_102 : mm_C := .inr (.int, List.replicate 18 (.int 0))
def hX_103 : mm_C := .inr (.int, [.int 0, .int 0, .int 0])
def hX_104 : mm_C := .inl (7, [.ref 105, .ref 106, .ref 107, .ref 108, .int 0, .int 0, .int 0])
def hX_105 : mm_C := .inr (.int, List.replicate 25 (.int 0))
def hX_106 : mm_C := .inr (.int, [.int 0, .int 0, .int 0])
def hX_107 : mm_C := .inr (.int, List.replicate 18 (.int 0))
def hX_108 : mm_C := .inr (.int, [.int 0, .int 0, .int 0])
def hX_109 : mm_C := .inl (7, [.ref 110, .ref 111, .ref 112, .ref 113, .int 0, .int 0, .int 0])
def hX_110 : mm_C := .inr (.int, List.replicate 25 (.int 0))
def hX_111 : mm_C := .inr (.int, [.int 0, .int 0, .int 0])
def hX_112 : mm_C := .inr (.int, List.replicate 18 (.int 0))
def hX_113 : mm_C := .inr (.int, [.int 0, .int 0, .int 0])
def hX_114 : mm_C := .inl (7, [.ref 115, .ref 116, .ref 117, .ref 118, .int 0, .int 0, .int 0])
def hX_115 : mm_C := .inr (.int, List.replicate 25 (.int 0))
def hX_116 : mm_C := .inr (.int, [.int 0, .int 0, .int 0])
def hX_117 : mm_C := .inr (.int, List.replicate 18 (.int 0))
def hX_118 : mm_C := .inr (.int, [.int 0, .int 0, .int 0])
def hX_119 : mm_C := .inl (7, [.ref 120, .ref 121, .ref 122, .ref 123, .int 0, .int 0, .int 0])
def hX_120 : mm_C := .inr (.int, List.replicate 25 (.int 0))
def hX_121 : mm_C := .inr (.int, [.int 0, .int 0, .int 0])
def hX_122 : mm_C := .inr (.int, List.replicate 18 (.int 0))
def hX_123 : mm_C := .inr (.int, [.int 0, .int 0, .int 0])
def hX_124 : mm_C := .inl (7, [.ref 125, .ref 126, .ref 127, .ref 128, .int 0, .int 0, .int 0])
def hX_125 : mm_C := .inr (.int, List.replicate 25 (.int 0))
def hX_126 : mm_C := .inr (.int, [.int 0, .int 0, .int 0])
def hX_127 : mm_C := .inr (.int, List.replicate 18 (.int 0))
def hX_128 : mm_C := .inr (.int, [.int 0, .int 0, .int 0])
def hX_129 : mm_C := .inl (7, [.ref 130, .ref 131, .ref 132, .ref 133, .int 0, .int 0, .int 0])
def hX_130 : mm_C := .inr (.int, List.replicate 25 (.int 0))
def hX_131 : mm_C := .inr (.int, [.int 0, .int 0, .int 0])
def hX_132 : mm_C := .inr (.int, List.replicate 18 (.int 0))
def hX_133 : mm_C := .inr (.int, [.int 0, .int 0, .int 0])
def hX_134 : mm_C := .inl (7, [.ref 135, .ref 136, .ref 137, .ref 138, .int 0, .int 0, .int 0])
def hX_135 : mm_C := .inr (.int, List.replicate 25 (.int 0))
def hX_136 : mm_C := .inr (.int, [.int 0, .int 0, .int 0])
def hX_137 : mm_C := .inr (.int, List.replicate 18 (.int 0))
def hX_138 : mm_C := .inr (.int, [.int 0, .int 0, .int 0])
def hX_139 : mm_C := .inl (7, [.ref 140, .ref 141, .ref 142, .ref 143, .int 0, .int 0, .int 0])
def hX_140 : mm_C := .inr (.int, List.replicate 25 (.int 0))
def hX_141 : mm_C := .inr (.int, [.int 0, .int 0, .int 0])
def hX_142 : mm_C := .inr (.int, List.replicate 18 (.int 0))
def hX_143 : mm_C := .inr (.int, [.int 0, .int 0, .int 0])
def hX_144 : mm_C := .inl (7, [.ref 145, .ref 146, .ref 147, .ref 148, .int 0, .int 0, .int 0])
def hX_145 : mm_C := .inr (.int, List.replicate 25 (.int 0))
def hX_146 : mm_C := .inr (.int, [.int 0, .int 0, .int 0])
def hX_147 : mm_C := .inr (.int, List.replicate 18 (.int 0))
def hX_148 : mm_C := .inr (.int, [.int 0, .int 0, .int 0])
def hX_149 : mm_C := .inl (7, [.ref 150, .ref 151, .ref 152, .ref 153, .int 0, .int 0, .int 0])
def hX_150 : mm_C := .inr (.int, List.replicate 25 (.int 0))
def hX_151 : mm_C := .inr (.int, [.int 0, .int 0, .int 0])
def hX_152 : mm_C := .inr (.int, List.replicate 18 (.int 0))
def hX_153 : mm_C := .inr (.int, [.int 0, .int 0, .int 0])
def hX_154 : mm_C := .inl (7, [.ref 155, .ref 156, .ref 157, .ref 158, .int 0, .int 0, .int 0])
def hX_155 : mm_C := .inr (.int, List.replicate 25 (.int 0))
def hX_156 : mm_C := .inr (.int, [.int 0, .int 0, .int 0])
def hX_157 : mm_C := .inr (.int, List.replicate 18 (.int 0))
def hX_158 : mm_C := .inr (.int, [.int 0, .int 0, .int 0])
def hX_159 : mm_C := .inl (7, [.ref 160, .ref 161, .ref 162, .ref 163, .int 0, .int 0, .int 0])
def hX_160 : mm_C := .inr (.int, List.replicate 25 (.int 0))
def hX_161 : mm_C := .inr (.int, [.int 0, .int 0, .int 0])
def hX_162 : mm_C := .inr (.int, List.replicate 18 (.int 0))
def hX_163 : mm_C := .inr (.int, [.int 0, .int 0, .int 0])
def hX_164 : mm_C := .inl (7, [.ref 165, .ref 166, .ref 167, .ref 168, .int 0, .int 0, .int 0])
def hX_165 : mm_C := .inr (.int, List.replicate 25 (.int 0))
def hX_166 : mm_C := .inr (.int, [.int 0, .int 0, .int 0])
def hX_167 : mm_C := .inr (.int, List.replicate 18 (.int 0))
def hX_168 : mm_C := .inr (.int, [.int 0, .int 0, .int 0])
def hX_169 : mm_C := .inl (7, [.ref 170, .ref 171, .ref 172, .ref 173, .int 0, .int 0, .int 0])
def hX_170 : mm_C := .inr (.int, List.replicate 25 (.int 0))
def hX_171 : mm_C := .inr (.int, [.int 0, .int 0, .int 0])
def hX_172 : mm_C := .inr (.int, List.replicate 18 (.int 0))
def hX_173 : mm_C := .inr (.int, [.int 0, .int 0, .int 0])
def hX_174 : mm_C := .inl (7, [.ref 175, .ref 176, .ref 177, .ref 178, .int 0, .int 0, .int 0])
def hX_175 : mm_C := .inr (.int, List.replicate 25 (.int 0))
def hX_176 : mm_C := .inr (.int, [.int 0, .int 0, .int 0])
def hX_177 : mm_C := .inr (.int, List.replicate 18 (.int 0))
def hX_178 : mm_C := .inr (.int, [.int 0, .int 0, .int 0])
def hX_179 : mm_C := .inl (7, [.ref 180, .ref 181, .ref 182, .ref 183, .int 0, .int 0, .int 0])
def hX_180 : mm_C := .inr (.int, List.replicate 25 (.int 0))
def hX_181 : mm_C := .inr (.int, [.int 0, .int 0, .int 0])
def hX_182 : mm_C := .inr (.int, List.replicate 18 (.int 0))
def hX_183 : mm_C := .inr (.int, [.int 0, .int 0, .int 0])
def hX_184 : mm_C := .inl (7, [.ref 185, .ref 186, .ref 187, .ref 188, .int 0, .int 0, .int 0])
def hX_185 : mm_C := .inr (.int, List.replicate 25 (.int 0))
def hX_186 : mm_C := .inr (.int, [.int 0, .int 0, .int 0])
def hX_187 : mm_C := .inr (.int, List.replicate 18 (.int 0))
def hX_188 : mm_C := .inr (.int, [.int 0, .int 0, .int 0])
def hX_189 : mm_C := .inl (7, [.ref 190, .ref 191, .ref 192, .ref 193, .int 0, .int 0, .int 0])
def hX_190 : mm_C := .inr (.int, List.replicate 25 (.int 0))
def hX_191 : mm_C := .inr (.int, [.int 0, .int 0, .int 0])
def hX_192 : mm_C := .inr (.int, List.replicate 18 (.int 0))
def hX_193 : mm_C := .inr (.int, [.int 0, .int 0, .int 0])
def hX_194 : mm_C := .inl (7, [.ref 195, .ref 196, .ref 197, .ref 198, .int 0, .int 0, .int 0])
def hX_195 : mm_C := .inr (.int, List.replicate 25 (.int 0))
def hX_196 : mm_C := .inr (.int, [.int 0, .int 0, .int 0])
def hX_197 : mm_C := .inr (.int, List.replicate 18 (.int 0))
def hX_198 : mm_C := .inr (.int, [.int 0, .int 0, .int 0])
def hX_199 : mm_C := .inl (7, [.ref 200, .ref 201, .ref 202, .ref 203, .int 0, .int 0, .int 0])
def hX_200 : mm_C := .inr (.int, List.replicate 25 (.int 0))
def hX_201 : mm_C := .inr (.int, [.int 0, .int 0, .int 0])
def hX_202 : mm_C := .inr (.int, List.replicate 18 (.int 0))
def hX_203 : mm_C := .inr (.int, [.int 0, .int 0, .int 0])
def hX_204 : mm_C := .inl (7, [.ref 205, .ref 206, .ref 207, .ref 208, .int 0, .int 0, .int 0])
def hX_205 : mm_C := .inr (.int, List.replicate 25 (.int 0))
def hX_206 : mm_C := .inr (.int, [.int 0, .int 0, .int 0])
def hX_207 : mm_C := .inr (.int, List.replicate 18 (.int 0))
def hX_208 : mm_C := .inr (.int, [.int 0, .int 0, .int 0])
def hX_209 : mm_C := .inl (7, [.ref 210, .ref 211, .ref 212, .ref 213, .int 0, .int 0, .int 0])
def hX_210 : mm_C := .inr (.int, List.replicate 25 (.int 0))
def hX_211 : mm_C := .inr (.int, [.int 0, .int 0, .int 0])
def hX_212 : mm_C := .inr (.int, List.replicate 18 (.int 0))
def hX_213 : mm_C := .inr (.int, [.int 0, .int 0, .int 0])
def hX_214 : mm_C := .inl (7, [.ref 215, .ref 216, .ref 217, .ref 218, .int 0, .int 0, .int 0])
def hX_215 : mm_C := .inr (.int, List.replicate 25 (.int 0))
def hX_216 : mm_C := .inr (.int, [.int 0, .int 0, .int 0])
def hX_217 : mm_C := .inr (.int, List.replicate 18 (.int 0))
def hX_218 : mm_C := .inr (.int, [.int 0, .int 0, .int 0])
def hX_219 : mm_C := .inl (7, [.ref 220, .ref 221, .ref 222, .ref 223, .int 0, .int 0, .int 0])
def hX_220 : mm_C := .inr (.int, List.replicate 25 (.int 0))
def hX_221 : mm_C := .inr (.int, [.int 0, .int 0, .int 0])
def hX_222 : mm_C := .inr (.int, List.replicate 18 (.int 0))
def hX_223 : mm_C := .inr (.int, [.int 0, .int 0, .int 0])
def hX_224 : mm_C := .inl (7, [.ref 225, .ref 226, .ref 227, .ref 228, .int 0, .int 0, .int 0])
def hX_225 : mm_C := .inr (.int, List.replicate 25 (.int 0))
def hX_226 : mm_C := .inr (.int, [.int 0, .int 0, .int 0])
def hX_227 : mm_C := .inr (.int, List.replicate 18 (.int 0))
def hX_228 : mm_C := .inr (.int, [.int 0, .int 0, .int 0])
def hX_229 : mm_C := .inl (7, [.ref 230, .ref 231, .ref 232, .ref 233, .int 0, .int 0, .int 0])
def hX_230 : mm_C := .inr (.int, List.replicate 25 (.int 0))
def hX_231 : mm_C := .inr (.int, [.int 0, .int 0, .int 0])
def hX_232 : mm_C := .inr (.int, List.replicate 18 (.int 0))
def hX_233 : mm_C := .inr (.int, [.int 0, .int 0, .int 0])
def hX_234 : mm_C := .inl (7, [.ref 235, .ref 236, .ref 237, .ref 238, .int 0, .int 0, .int 0])
def hX_235 : mm_C := .inr (.int, List.replicate 25 (.int 0))
def hX_236 : mm_C := .inr (.int, [.int 0, .int 0, .int 0])
def hX_237 : mm_C := .inr (.int, List.replicate 18 (.int 0))
def hX_238 : mm_C := .inr (.int, [.int 0, .int 0, .int 0])
def hX_239 : mm_C := .inl (7, [.ref 240, .ref 241, .ref 242, .ref 243, .int 0, .int 0, .int 0])
def hX_240 : mm_C := .inr (.int, List.replicate 25 (.int 0))
def hX_241 : mm_C := .inr (.int, [.int 0, .int 0, .int 0])
def hX_242 : mm_C := .inr (.int, List.replicate 18 (.int 0))
def hX_243 : mm_C := .inr (.int, [.int 0, .int 0, .int 0])
def hX_244 : mm_C := .inl (7, [.ref 245, .ref 246, .ref 247, .ref 248, .int 0, .int 0, .int 0])
def hX_245 : mm_C := .inr (.int, List.replicate 25 (.int 0))
def hX_246 : mm_C := .inr (.int, [.int 0, .int 0, .int 0])
def hX_247 : mm_C := .inr (.int, List.replicate 18 (.int 0))
def hX_248 : mm_C := .inr (.int, [.int 0, .int 0, .int 0])
def hX_249 : mm_C := .inl (7, [.ref 250, .ref 251, .ref 252, .ref 253, .int 0, .int 0, .int 0])
def hX_250 : mm_C := .inr (.int, List.replicate 25 (.int 0))
def hX_251 : mm_C := .inr (.int, [.int 0, .int 0, .int 0])
def hX_252 : mm_C := .inr (.int, List.replicate 18 (.int 0))
def hX_253 : mm_C := .inr (.int, [.int 0, .int 0, .int 0])
def hX_254 : mm_C := .inl (7, [.ref 255, .ref 256, .ref 257, .ref 258, .int 0, .int 0, .int 0])
def hX_255 : mm_C := .inr (.int, List.replicate 25 (.int 0))
def hX_256 : mm_C := .inr (.int, [.int 0, .int 0, .int 0])
def hX_257 : mm_C := .inr (.int, List.replicate 18 (.int 0))
def hX_258 : mm_C := .inr (.int, [.int 0, .int 0, .int 0])
def hX_259 : mm_C := .inl (7, [.ref 260, .ref 261, .ref 262, .ref 263, .int 0, .int 0, .int 0])
def hX_260 : mm_C := .inr (.int, List.replicate 25 (.int 0))
def hX_261 : mm_C := .inr (.int, [.int 0, .int 0, .int 0])
def hX_262 : mm_C := .inr (.int, List.replicate 18 (.int 0))
def hX_263 : mm_C := .inr (.int, [.int 0, .int 0, .int 0])
def hX_264 : mm_C := .inl (7, [.ref 265, .ref 266, .ref 267, .ref 268, .int 0, .int 0, .int 0])
def hX_265 : mm_C := .inr (.int, List.replicate 25 (.int 0))
def hX_266 : mm_C := .inr (.int, [.int 0, .int 0, .int 0])
def hX_267 : mm_C := .inr (.int, List.replicate 18 (.int 0))
def hX_268 : mm_C := .inr (.int, [.int 0, .int 0, .int 0])
def hX_269 : mm_C := .inl (7, [.ref 270, .ref 271, .ref 272, .ref 273, .int 0, .int 0, .int 0])
def hX_270 : mm_C := .inr (.int, List.replicate 25 (.int 0))
def hX_271 : mm_C := .inr (.int, [.int 0, .int 0, .int 0])
def hX_272 : mm_C := .inr (.int, List.replicate 18 (.int 0))
def hX_273 : mm_C := .inr (.int, [.int 0, .int 0, .int 0])
def hX_274 : mm_C := .inl (7, [.ref 275, .ref 276, .ref 277, .ref 278, .int 0, .int 0, .int 0])
def hX_275 : mm_C := .inr (.int, List.replicate 25 (.int 0))
def hX_276 : mm_C := .inr (.int, [.int (-1), .int (-1), .int (-1)])
def hX_277 : mm_C := .inr (.int, List.replicate 18 (.int 0))
def hX_278 : mm_C := .inr (.int, [.int 0, .int 0, .int 0])
def hX_279 : mm_C := .inl (7, [.ref 280, .ref 281, .ref 282, .ref 283, .int 0, .int 0, .int 0])
def hX_280 : mm_C := .inr (.int, List.replicate 25 (.int 0))
def hX_281 : mm_C := .inr (.int, [.int 0, .int 0, .int 0])
def hX_282 : mm_C := .inr (.int, List.replicate 18 (.int 0))
def hX_283 : mm_C := .inr (.int, [.int 0, .int 0, .int 0])
def hX : mm_H := (284, 12462, ((((((((((some hX_0 : Option mm_C), (some hX_1 : Option mm_C)), ((some hX_2 : Option mm_C), (some hX_3 : Option mm_C))), (((some hX_4 : Option mm_C), (some hX_5 : Option mm_C)), ((some hX_6 : Option mm_C), (some hX_7 : Option mm_C)))), ((((some hX_8 : Option mm_C), (some hX_9 : Option mm_C)), ((some hX_10 : Option mm_C), (some hX_11 : Option mm_C))), (((some hX_12 : Option mm_C), (some hX_13 : Option mm_C)), ((some hX_14 : Option mm_C), (some hX_15 : Option mm_C))))), (((((some hX_16 : Option mm_C), (some hX_17 : Option mm_C)), ((some hX_18 : Option mm_C), (some hX_19 : Option mm_C))), (((some hX_20 : Option mm_C), (some hX_21 : Option mm_C)), ((some hX_22 : Option mm_C), (some hX_23 : Option mm_C)))), ((((some hX_24 : Option mm_C), (some hX_25 : Option mm_C)), ((some hX_26 : Option mm_C), (some hX_27 : Option mm_C))), (((some hX_28 : Option mm_C), (some hX_29 : Option mm_C)), ((some hX_30 : Option mm_C), (some hX_31 : Option mm_C)))))), ((((((some hX_32 : Option mm_C), (some hX_33 : Option mm_C)), ((some hX_34 : Option mm_C), (some hX_35 : Option mm_C))), (((some hX_36 : Option mm_C), (some hX_37 : Option mm_C)), ((some hX_38 : Option mm_C), (some hX_39 : Option mm_C)))), ((((some hX_40 : Option mm_C), (some hX_41 : Option mm_C)), ((some hX_42 : Option mm_C), (some hX_43 : Option mm_C))), (((some hX_44 : Option mm_C), (some hX_45 : Option mm_C)), ((some hX_46 : Option mm_C), (some hX_47 : Option mm_C))))), (((((some hX_48 : Option mm_C), (some hX_49 : Option mm_C)), ((some hX_50 : Option mm_C), (some hX_51 : Option mm_C))), (((some hX_52 : Option mm_C), (some hX_53 : Option mm_C)), ((some hX_54 : Option mm_C), (some hX_55 : Option mm_C)))), ((((some hX_56 : Option mm_C), (some hX_57 : Option mm_C)), ((some hX_58 : Option mm_C), (some hX_59 : Option mm_C))), (((some hX_60 : Option mm_C), (some hX_61 : Option mm_C)), ((some hX_62 : Option mm_C), (some hX_63 : Option mm_C))))))), (((((((some hX_64 : Option mm_C), (some hX_65 : Option mm_C)), ((some hX_66 : Option mm_C), (some hX_67 : Option mm_C))), (((some hX_68 : Option mm_C), (some hX_69 : Option mm_C)), ((some hX_70 : Option mm_C), (some hX_71 : Option mm_C)))), ((((some hX_72 : Option mm_C), (some hX_73 : Option mm_C)), ((some hX_74 : Option mm_C), (some hX_75 : Option mm_C))), (((some hX_76 : Option mm_C), (some hX_77 : Option mm_C)), ((some hX_78 : Option mm_C), (some hX_79 : Option mm_C))))), (((((some hX_80 : Option mm_C), (some hX_81 : Option mm_C)), ((some hX_82 : Option mm_C), (some hX_83 : Option mm_C))), (((some hX_84 : Option mm_C), (some hX_85 : Option mm_C)), ((some hX_86 : Option mm_C), (some hX_87 : Option mm_C)))), ((((some hX_88 : Option mm_C), (some hX_89 : Option mm_C)), ((some hX_90 : Option mm_C), (some hX_91 : Option mm_C))), (((some hX_92 : Option mm_C), (some hX_93 : Option mm_C)), ((some hX_94 : Option mm_C), (some hX_95 : Option mm_C)))))), ((((((some hX_96 : Option mm_C), (some hX_97 : Option mm_C)), ((some hX_98 : Option mm_C), (some hX_99 : Option mm_C))), (((some hX_100 : Option mm_C), (some hX_101 : Option mm_C)), ((some hX_102 : Option mm_C), (some hX_103 : Option mm_C)))), ((((some hX_104 : Option mm_C), (some hX_105 : Option mm_C)), ((some hX_106 : Option mm_C), (some hX_107 : Option mm_C))), (((some hX_108 : Option mm_C), (some hX_109 : Option mm_C)), ((some hX_110 : Option mm_C), (some hX_111 : Option mm_C))))), (((((some hX_112 : Option mm_C), (some hX_113 : Option mm_C)), ((some hX_114 : Option mm_C), (some hX_115 : Option mm_C))), (((some hX_116 : Option mm_C), (some hX_117 : Option mm_C)), ((some hX_118 : Option mm_C), (some hX_119 : Option mm_C)))), ((((some hX_120 : Option mm_C), (some hX_121 : Option mm_C)), ((some hX_122 : Option mm_C), (some hX_123 : Option mm_C))), (((some hX_124 : Option mm_C), (some hX_125 : Option mm_C)), ((some hX_126 : Option mm_C), (some hX_127 : Option mm_C)))))))), ((((((((some hX_128 : Option mm_C), (some hX_129 : Option mm_C)), ((some hX_130 : Option mm_C), (some hX_131 : Option mm_C))), (((some hX_132 : Option mm_C), (some hX_133 : Option mm_C)), ((some hX_134 : Option mm_C), (some hX_135 : Option mm_C)))), ((((some hX_136 : Option mm_C), (some hX_137 : Option mm_C)), ((some hX_138 : Option mm_C), (some hX_139 : Option mm_C))), (((some hX_140 : Option mm_C), (some hX_141 : Option mm_C)), ((some hX_142 : Option mm_C), (some hX_143 : Option mm_C))))), (((((some hX_144 : Option mm_C), (some hX_145 : Option mm_C)), ((some hX_146 : Option mm_C), (some hX_147 : Option mm_C))), (((some hX_148 : Option mm_C), (some hX_149 : Option mm_C)), ((some hX_150 : Option mm_C), (some hX_151 : Option mm_C)))), ((((some hX_152 : Option mm_C), (some hX_153 : Option mm_C)), ((some hX_154 : Option mm_C), (some hX_155 : Option mm_C))), (((some hX_156 : Option mm_C), (some hX_157 : Option mm_C)), ((some hX_158 : Option mm_C), (some hX_159 : Option mm_C)))))), ((((((some hX_160 : Option mm_C), (some hX_161 : Option mm_C)), ((some hX_162 : Option mm_C), (some hX_163 : Option mm_C))), (((some hX_164 : Option mm_C), (some hX_165 : Option mm_C)), ((some hX_166 : Option mm_C), (some hX_167 : Option mm_C)))), ((((some hX_168 : Option mm_C), (some hX_169 : Option mm_C)), ((some hX_170 : Option mm_C), (some hX_171 : Option mm_C))), (((some hX_172 : Option mm_C), (some hX_173 : Option mm_C)), ((some hX_174 : Option mm_C), (some hX_175 : Option mm_C))))), (((((some hX_176 : Option mm_C), (some hX_177 : Option mm_C)), ((some hX_178 : Option mm_C), (some hX_179 : Option mm_C))), (((some hX_180 : Option mm_C), (some hX_181 : Option mm_C)), ((some hX_182 : Option mm_C), (some hX_183 : Option mm_C)))), ((((some hX_184 : Option mm_C), (some hX_185 : Option mm_C)), ((some hX_186 : Option mm_C), (some hX_187 : Option mm_C))), (((some hX_188 : Option mm_C), (some hX_189 : Option mm_C)), ((some hX_190 : Option mm_C), (some hX_191 : Option mm_C))))))), (((((((some hX_192 : Option mm_C), (some hX_193 : Option mm_C)), ((some hX_194 : Option mm_C), (some hX_195 : Option mm_C))), (((some hX_196 : Option mm_C), (some hX_197 : Option mm_C)), ((some hX_198 : Option mm_C), (some hX_199 : Option mm_C)))), ((((some hX_200 : Option mm_C), (some hX_201 : Option mm_C)), ((some hX_202 : Option mm_C), (some hX_203 : Option mm_C))), (((some hX_204 : Option mm_C), (some hX_205 : Option mm_C)), ((some hX_206 : Option mm_C), (some hX_207 : Option mm_C))))), (((((some hX_208 : Option mm_C), (some hX_209 : Option mm_C)), ((some hX_210 : Option mm_C), (some hX_211 : Option mm_C))), (((some hX_212 : Option mm_C), (some hX_213 : Option mm_C)), ((some hX_214 : Option mm_C), (some hX_215 : Option mm_C)))), ((((some hX_216 : Option mm_C), (some hX_217 : Option mm_C)), ((some hX_218 : Option mm_C), (some hX_219 : Option mm_C))), (((some hX_220 : Option mm_C), (some hX_221 : Option mm_C)), ((some hX_222 : Option mm_C), (some hX_223 : Option mm_C)))))), ((((((some hX_224 : Option mm_C), (some hX_225 : Option mm_C)), ((some hX_226 : Option mm_C), (some hX_227 : Option mm_C))), (((some hX_228 : Option mm_C), (some hX_229 : Option mm_C)), ((some hX_230 : Option mm_C), (some hX_231 : Option mm_C)))), ((((some hX_232 : Option mm_C), (some hX_233 : Option mm_C)), ((some hX_234 : Option mm_C), (some hX_235 : Option mm_C))), (((some hX_236 : Option mm_C), (some hX_237 : Option mm_C)), ((some hX_238 : Option mm_C), (some hX_239 : Option mm_C))))), (((((some hX_240 : Option mm_C), (some hX_241 : Option mm_C)), ((some hX_242 : Option mm_C), (some hX_243 : Option mm_C))), (((some hX_244 : Option mm_C), (some hX_245 : Option mm_C)), ((some hX_246 : Option mm_C), (some hX_247 : Option mm_C)))), ((((some hX_248 : Option mm_C), (some hX_249 : Option mm_C)), ((some hX_250 : Option mm_C), (some hX_251 : Option mm_C))), (((some hX_252 : Option mm_C), (some hX_253 : Option mm_C)), ((some hX_254 : Option mm_C), (some hX_255 : Option mm_C))))))))), (((((((((some hX_256 : Option mm_C), (some hX_257 : Option mm_C)), ((some hX_258 : Option mm_C), (some hX_259 : Option mm_C))), (((some hX_260 : Option mm_C), (some hX_261 : Option mm_C)), ((some hX_262 : Option mm_C), (some hX_263 : Option mm_C)))), ((((some hX_264 : Option mm_C), (some hX_265 : Option mm_C)), ((some hX_266 : Option mm_C), (some hX_267 : Option mm_C))), (((some hX_268 : Option mm_C), (some hX_269 : Option mm_C)), ((some hX_270 : Option mm_C), (some hX_271 : Option mm_C))))), (((((some hX_272 : Option mm_C), (some hX_273 : Option mm_C)), ((some hX_274 : Option mm_C), (some hX_275 : Option mm_C))), (((some hX_276 : Option mm_C), (some hX_277 : Option mm_C)), ((some hX_278 : Option mm_C), (some hX_279 : Option mm_C)))), ((((some hX_280 : Option mm_C), (some hX_281 : Option mm_C)), ((some hX_282 : Option mm_C), (some hX_283 : Option mm_C))), mm_no 2))), mm_no 5), mm_no 6), mm_no 7)))
def hB_284 : mm_C := .inl (12, [.int 0, .null, .int 0, .null, .int 0, .null, .null, .null, .null, .null, .int 0, .int 0, .int 0, .int 0, .int 0, .int 0, .int 0, .int 0, .int 0, .int 0, .int 0, .null, .null, .null, .null, .null, .null, .null, .null, .null, .null, .null, .null, .null, .null, .null, .null, .null, .int 0, .null, .null, .null, .null, .null, .int 0, .null, .null, .null, .int 0, .null, .null, .int 0, .null, .null, .null, .int 0, .null, .null, .int 0, .int 0, .int 0, .null, .null, .null, .null, .null, .null, .int 0, .null, .null, .null, .null, .int 0, .null, .null, .null, .null, .null, .null, .null])
def hB : mm_H := (285, 12542, ((((((((((some hX_0 : Option mm_C), (some hX_1 : Option mm_C)), ((some hX_2 : Option mm_C), (some hX_3 : Option mm_C))), (((some hX_4 : Option mm_C), (some hX_5 : Option mm_C)), ((some hX_6 : Option mm_C), (some hX_7 : Option mm_C)))), ((((some hX_8 : Option mm_C), (some hX_9 : Option mm_C)), ((some hX_10 : Option mm_C), (some hX_11 : Option mm_C))), (((some hX_12 : Option mm_C), (some hX_13 : Option mm_C)), ((some hX_14 : Option mm_C), (some hX_15 : Option mm_C))))), (((((some hX_16 : Option mm_C), (some hX_17 : Option mm_C)), ((some hX_18 : Option mm_C), (some hX_19 : Option mm_C))), (((some hX_20 : Option mm_C), (some hX_21 : Option mm_C)), ((some hX_22 : Option mm_C), (some hX_23 : Option mm_C)))), ((((some hX_24 : Option mm_C), (some hX_25 : Option mm_C)), ((some hX_26 : Option mm_C), (some hX_27 : Option mm_C))), (((some hX_28 : Option mm_C), (some hX_29 : Option mm_C)), ((some hX_30 : Option mm_C), (some hX_31 : Option mm_C)))))), ((((((some hX_32 : Option mm_C), (some hX_33 : Option mm_C)), ((some hX_34 : Option mm_C), (some hX_35 : Option mm_C))), (((some hX_36 : Option mm_C), (some hX_37 : Option mm_C)), ((some hX_38 : Option mm_C), (some hX_39 : Option mm_C)))), ((((some hX_40 : Option mm_C), (some hX_41 : Option mm_C)), ((some hX_42 : Option mm_C), (some hX_43 : Option mm_C))), (((some hX_44 : Option mm_C), (some hX_45 : Option mm_C)), ((some hX_46 : Option mm_C), (some hX_47 : Option mm_C))))), (((((some hX_48 : Option mm_C), (some hX_49 : Option mm_C)), ((some hX_50 : Option mm_C), (some hX_51 : Option mm_C))), (((some hX_52 : Option mm_C), (some hX_53 : Option mm_C)), ((some hX_54 : Option mm_C), (some hX_55 : Option mm_C)))), ((((some hX_56 : Option mm_C), (some hX_57 : Option mm_C)), ((some hX_58 : Option mm_C), (some hX_59 : Option mm_C))), (((some hX_60 : Option mm_C), (some hX_61 : Option mm_C)), ((some hX_62 : Option mm_C), (some hX_63 : Option mm_C))))))), (((((((some hX_64 : Option mm_C), (some hX_65 : Option mm_C)), ((some hX_66 : Option mm_C), (some hX_67 : Option mm_C))), (((some hX_68 : Option mm_C), (some hX_69 : Option mm_C)), ((some hX_70 : Option mm_C), (some hX_71 : Option mm_C)))), ((((some hX_72 : Option mm_C), (some hX_73 : Option mm_C)), ((some hX_74 : Option mm_C), (some hX_75 : Option mm_C))), (((some hX_76 : Option mm_C), (some hX_77 : Option mm_C)), ((some hX_78 : Option mm_C), (some hX_79 : Option mm_C))))), (((((some hX_80 : Option mm_C), (some hX_81 : Option mm_C)), ((some hX_82 : Option mm_C), (some hX_83 : Option mm_C))), (((some hX_84 : Option mm_C), (some hX_85 : Option mm_C)), ((some hX_86 : Option mm_C), (some hX_87 : Option mm_C)))), ((((some hX_88 : Option mm_C), (some hX_89 : Option mm_C)), ((some hX_90 : Option mm_C), (some hX_91 : Option mm_C))), (((some hX_92 : Option mm_C), (some hX_93 : Option mm_C)), ((some hX_94 : Option mm_C), (some hX_95 : Option mm_C)))))), ((((((some hX_96 : Option mm_C), (some hX_97 : Option mm_C)), ((some hX_98 : Option mm_C), (some hX_99 : Option mm_C))), (((some hX_100 : Option mm_C), (some hX_101 : Option mm_C)), ((some hX_102 : Option mm_C), (some hX_103 : Option mm_C)))), ((((some hX_104 : Option mm_C), (some hX_105 : Option mm_C)), ((some hX_106 : Option mm_C), (some hX_107 : Option mm_C))), (((some hX_108 : Option mm_C), (some hX_109 : Option mm_C)), ((some hX_110 : Option mm_C), (some hX_111 : Option mm_C))))), (((((some hX_112 : Option mm_C), (some hX_113 : Option mm_C)), ((some hX_114 : Option mm_C), (some hX_115 : Option mm_C))), (((some hX_116 : Option mm_C), (some hX_117 : Option mm_C)), ((some hX_118 : Option mm_C), (some hX_119 : Option mm_C)))), ((((some hX_120 : Option mm_C), (some hX_121 : Option mm_C)), ((some hX_122 : Option mm_C), (some hX_123 : Option mm_C))), (((some hX_124 : Option mm_C), (some hX_125 : Option mm_C)), ((some hX_126 : Option mm_C), (some hX_127 : Option mm_C)))))))), ((((((((some hX_128 : Option mm_C), (some hX_129 : Option mm_C)), ((some hX_130 : Option mm_C), (some hX_131 : Option mm_C))), (((some hX_132 : Option mm_C), (some hX_133 : Option mm_C)), ((some hX_134 : Option mm_C), (some hX_135 : Option mm_C)))), ((((some hX_136 : Option mm_C), (some hX_137 : Option mm_C)), ((some hX_138 : Option mm_C), (some hX_139 : Option mm_C))), (((some hX_140 : Option mm_C), (some hX_141 : Option mm_C)), ((some hX_142 : Option mm_C), (some hX_143 : Option mm_C))))), (((((some hX_144 : Option mm_C), (some hX_145 : Option mm_C)), ((some hX_146 : Option mm_C), (some hX_147 : Option mm_C))), (((some hX_148 : Option mm_C), (some hX_149 : Option mm_C)), ((some hX_150 : Option mm_C), (some hX_151 : Option mm_C)))), ((((some hX_152 : Option mm_C), (some hX_153 : Option mm_C)), ((some hX_154 : Option mm_C), (some hX_155 : Option mm_C))), (((some hX_156 : Option mm_C), (some hX_157 : Option mm_C)), ((some hX_158 : Option mm_C), (some hX_159 : Option mm_C)))))), ((((((some hX_160 : Option mm_C), (some hX_161 : Option mm_C)), ((some hX_162 : Option mm_C), (some hX_163 : Option mm_C))), (((some hX_164 : Option mm_C), (some hX_165 : Option mm_C)), ((some hX_166 : Option mm_C), (some hX_167 : Option mm_C)))), ((((some hX_168 : Option mm_C), (some hX_169 : Option mm_C)), ((some hX_170 : Option mm_C), (some hX_171 : Option mm_C))), (((some hX_172 : Option mm_C), (some hX_173 : Option mm_C)), ((some hX_174 : Option mm_C), (some hX_175 : Option mm_C))))), (((((some hX_176 : Option mm_C), (some hX_177 : Option mm_C)), ((some hX_178 : Option mm_C), (some hX_179 : Option mm_C))), (((some hX_180 : Option mm_C), (some hX_181 : Option mm_C)), ((some hX_182 : Option mm_C), (some hX_183 : Option mm_C)))), ((((some hX_184 : Option mm_C), (some hX_185 : Option mm_C)), ((some hX_186 : Option mm_C), (some hX_187 : Option mm_C))), (((some hX_188 : Option mm_C), (some hX_189 : Option mm_C)), ((some hX_190 : Option mm_C), (some hX_191 : Option mm_C))))))), (((((((some hX_192 : Option mm_C), (some hX_193 : Option mm_C)), ((some hX_194 : Option mm_C), (some hX_195 : Option mm_C))), (((some hX_196 : Option mm_C), (some hX_197 : Option mm_C)), ((some hX_198 : Option mm_C), (some hX_199 : Option mm_C)))), ((((some hX_200 : Option mm_C), (some hX_201 : Option mm_C)), ((some hX_202 : Option mm_C), (some hX_203 : Option mm_C))), (((some hX_204 : Option mm_C), (some hX_205 : Option mm_C)), ((some hX_206 : Option mm_C), (some hX_207 : Option mm_C))))), (((((some hX_208 : Option mm_C), (some hX_209 : Option mm_C)), ((some hX_210 : Option mm_C), (some hX_211 : Option mm_C))), (((some hX_212 : Option mm_C), (some hX_213 : Option mm_C)), ((some hX_214 : Option mm_C), (some hX_215 : Option mm_C)))), ((((some hX_216 : Option mm_C), (some hX_217 : Option mm_C)), ((some hX_218 : Option mm_C), (some hX_219 : Option mm_C))), (((some hX_220 : Option mm_C), (some hX_221 : Option mm_C)), ((some hX_222 : Option mm_C), (some hX_223 : Option mm_C)))))), ((((((some hX_224 : Option mm_C), (some hX_225 : Option mm_C)), ((some hX_226 : Option mm_C), (some hX_227 : Option mm_C))), (((some hX_228 : Option mm_C), (some hX_229 : Option mm_C)), ((some hX_230 : Option mm_C), (some hX_231 : Option mm_C)))), ((((some hX_232 : Option mm_C), (some hX_233 : Option mm_C)), ((some hX_234 : Option mm_C), (some hX_235 : Option mm_C))), (((some hX_236 : Option mm_C), (some hX_237 : Option mm_C)), ((some hX_238 : Option mm_C), (some hX_239 : Option mm_C))))), (((((some hX_240 : Option mm_C), (some hX_241 : Option mm_C)), ((some hX_242 : Option mm_C), (some hX_243 : Option mm_C))), (((some hX_244 : Option mm_C), (some hX_245 : Option mm_C)), ((some hX_246 : Option mm_C), (some hX_247 : Option mm_C)))), ((((some hX_248 : Option mm_C), (some hX_249 : Option mm_C)), ((some hX_250 : Option mm_C), (some hX_251 : Option mm_C))), (((some hX_252 : Option mm_C), (some hX_253 : Option mm_C)), ((some hX_254 : Option mm_C), (some hX_255 : Option mm_C))))))))), (((((((((some hX_256 : Option mm_C), (some hX_257 : Option mm_C)), ((some hX_258 : Option mm_C), (some hX_259 : Option mm_C))), (((some hX_260 : Option mm_C), (some hX_261 : Option mm_C)), ((some hX_262 : Option mm_C), (some hX_263 : Option mm_C)))), ((((some hX_264 : Option mm_C), (some hX_265 : Option mm_C)), ((some hX_266 : Option mm_C), (some hX_267 : Option mm_C))), (((some hX_268 : Option mm_C), (some hX_269 : Option mm_C)), ((some hX_270 : Option mm_C), (some hX_271 : Option mm_C))))), (((((some hX_272 : Option mm_C), (some hX_273 : Option mm_C)), ((some hX_274 : Option mm_C), (some hX_275 : Option mm_C))), (((some hX_276 : Option mm_C), (some hX_277 : Option mm_C)), ((some hX_278 : Option mm_C), (some hX_279 : Option mm_C)))), ((((some hX_280 : Option mm_C), (some hX_281 : Option mm_C)), ((some hX_282 : Option mm_C), (some hX_283 : Option mm_C))), (((some hB_284 : Option mm_C), mm_no 0), mm_no 1)))), mm_no 5), mm_no 6), mm_no 7)))
def hM_284 : mm_C := .inl (12, [.int 0, .ref 285, .int 0, .ref 286, .int 0, .ref 287, .ref 288, .ref 289, .ref 290, .ref 291, .int 0, .int 0, .int 0, .int 0, .int 0, .int 0, .int 0, .int (-1), .int 0, .int 0, .int 0, .ref 292, .ref 293, .ref 294, .ref 295, .ref 296, .ref 297, .ref 298, .ref 299, .ref 300, .ref 301, .ref 302, .ref 303, .ref 304, .ref 305, .ref 306, .ref 307, .ref 308, .int 0, .ref 309, .ref 310, .ref 311, .ref 312, .ref 313, .int 0, .ref 314, .ref 315, .ref 316, .int 0, .ref 317, .ref 318, .int 0, .ref 319, .ref 320, .ref 321, .int 24, .ref 322, .ref 323, .int 0, .int 0, .int 0, .ref 324, .ref 325, .ref 326, .ref 327, .ref 328, .ref 329, .int 0, .ref 330, .ref 331, .ref 332, .ref 333, .int 0, .ref 334, .ref 335, .ref 336, .ref 337, .ref 338, .ref 339, .ref 340])
def hM_285 : mm_C := .inr (.byte, List.replicate 2000 (.int 0))
def hM_286 : mm_C := .inr (.byte, List.replicate 2000 (.int 0))
def hM_287 : mm_C := .inr (.int, List.replicate 403 (.int 0))
def hM_288 : mm_C := .inr (.int, List.replicate 403 (.int 0))
def hM_289 : mm_C := .inr (.int, List.replicate 403 (.int 0))
def hM_290 : mm_C := .inr (.long, List.replicate 403 (.long 0))
def hM_291 : mm_C := .inr (.long, [.long 493294, .long 380396, .long 8529698, .long 1949891, .long 239336362, .long 10656676, .long 1903978, .long 10340587, .long 377761, .long 249, .long 399641, .long 107681, .long 240023, .long 15001, .long 126880, .long 311436, .long 854125379, .long 400672, .long 191610176, .long 12387257, .long 16819])
def hM_292 : mm_C := .inr (.long, [.long 0, .long 0, .long 0])
def hM_293 : mm_C := .inr (.int, [.int 4, .int 4])
def hM_294 : mm_C := .inr (.int, [.int 4, .int 4])
def hM_295 : mm_C := .inr (.int, [.int 0, .int 0])
def hM_296 : mm_C := .inr (.int, List.replicate 16 (.int 0))
def hM_297 : mm_C := .inr (.int, List.replicate 16 (.int 0))
def hM_298 : mm_C := .inr (.int, [.int 0, .int 0])
def hM_299 : mm_C := .inr (.int, List.replicate 20 (.int 0))
def hM_300 : mm_C := .inr (.int, List.replicate 20 (.int 0))
def hM_301 : mm_C := .inr (.int, List.replicate 20 (.int 0))
def hM_302 : mm_C := .inr (.int, [.int 0, .int 0])
def hM_303 : mm_C := .inr (.int, [.int 0, .int 0, .int 0, .int 0, .int 0, .int 0])
def hM_304 : mm_C := .inr (.int, [.int 0, .int 0, .int 0, .int 0, .int 0, .int 0])
def hM_305 : mm_C := .inr (.int, List.replicate 36 (.int 0))
def hM_306 : mm_C := .inr (.int, [.int 0, .int 0])
def hM_307 : mm_C := .inr (.int, List.replicate 8 (.int 0))
def hM_308 : mm_C := .inr (.int, List.replicate 8 (.int 0))
def hM_309 : mm_C := .inr (.boolean, List.replicate 260 (.int 0))
def hM_310 : mm_C := .inr (.int, List.replicate 260 (.int 0))
def hM_311 : mm_C := .inr (.int, List.replicate 260 (.int 0))
def hM_312 : mm_C := .inr (.int, List.replicate 260 (.int 0))
def hM_313 : mm_C := .inr (.int, List.replicate 260 (.int 0))
def hM_314 : mm_C := .inr (.int, List.replicate 840 (.int 0))
def hM_315 : mm_C := .inr (.int, List.replicate 840 (.int 0))
def hM_316 : mm_C := .inr (.int, List.replicate 64 (.int 0))
def hM_317 : mm_C := .inr (.int, List.replicate 9 (.int 0))
def hM_318 : mm_C := .inr (.int, List.replicate 400 (.int 0))
def hM_319 : mm_C := .inr (.int, [.int 0, .int 1, .int 2, .int 3, .int 4, .int 5, .int 4, .int 5, .int 2, .int 3, .int 1, .int 0, .int 2, .int 3, .int 1, .int 0, .int 4, .int 5, .int 5, .int 4, .int 2, .int 3, .int 0, .int 1, .int 3, .int 2, .int 0, .int 1, .int 4, .int 5, .int 1, .int 0, .int 2, .int 3, .int 5, .int 4, .int 2, .int 3, .int 5, .int 4, .int 1, .int 0, .int 3, .int 2, .int 4, .int 5, .int 1, .int 0, .int 4, .int 5, .int 1, .int 0, .int 3, .int 2, .int 1, .int 0, .int 3, .int 2, .int 4, .int 5, .int 5, .int 4, .int 1, .int 0, .int 2, .int 3, .int 2, .int 3, .int 4, .int 5, .int 0, .int 1, .int 3, .int 2, .int 5, .int 4, .int 0, .int 1, .int 4, .int 5, .int 0, .int 1, .int 2, .int 3, .int 5, .int 4, .int 0, .int 1, .int 3, .int 2, .int 2, .int 3, .int 0, .int 1, .int 5, .int 4, .int 3, .int 2, .int 1, .int 0, .int 5, .int 4, .int 1, .int 0, .int 5, .int 4, .int 3, .int 2, .int 5, .int 4, .int 3, .int 2, .int 1, .int 0, .int 0, .int 1, .int 5, .int 4, .int 2, .int 3, .int 1, .int 0, .int 4, .int 5, .int 2, .int 3, .int 0, .int 1, .int 4, .int 5, .int 3, .int 2, .int 4, .int 5, .int 3, .int 2, .int 0, .int 1, .int 0, .int 1, .int 3, .int 2, .int 5, .int 4])
def hM_320 : mm_C := .inr (.int, [.int 1, .int 2, .int 3, .int 4, .int 5, .int 6, .int 0, .int 7, .int 8, .int 9, .int 10, .int 0, .int 0, .int 11, .int 5, .int 12, .int 13, .int 0, .int 14, .int 9, .int 3, .int 15, .int 1, .int 16, .int 17, .int 18, .int 19, .int 1, .int 20, .int 1, .int 21, .int 18, .int 16, .int 17, .int 2, .int 21, .int 22, .int 4, .int 18, .int 2, .int 2, .int 20, .int 16, .int 19, .int 21, .int 22, .int 20, .int 3, .int 19, .int 3, .int 17, .int 22, .int 15, .int 19, .int 4, .int 20, .int 4, .int 21, .int 15, .int 17, .int 14, .int 23, .int 13, .int 5, .int 10, .int 5, .int 8, .int 23, .int 12, .int 14, .int 6, .int 8, .int 9, .int 7, .int 23, .int 6, .int 6, .int 10, .int 12, .int 13, .int 11, .int 13, .int 7, .int 10, .int 7, .int 8, .int 11, .int 14, .int 23, .int 12, .int 9, .int 11, .int 18, .int 16, .int 22, .int 15])
def hM_321 : mm_C := .inr (.int, [.int 2, .int 3, .int 0, .int 1, .int 5, .int 4])
def hM_322 : mm_C := .inr (.int, List.replicate 51 (.int 0))
def hM_323 : mm_C := .inr (.int, List.replicate 51 (.int 0))
def hM_324 : mm_C := .inr (.int, List.replicate 2040 (.int 0))
def hM_325 : mm_C := .inr (.int, List.replicate 2400 (.int 0))
def hM_326 : mm_C := .inr (.int, List.replicate 600 (.int 0))
def hM_327 : mm_C := .inr (.int, List.replicate 600 (.int 0))
def hM_328 : mm_C := .inr (.int, List.replicate 600 (.int 0))
def hM_329 : mm_C := .inr (.int, List.replicate 600 (.int 0))
def hM_330 : mm_C := .inr (.int, List.replicate 600 (.int 0))
def hM_331 : mm_C := .inr (.int, List.replicate 2400 (.int 0))
def hM_332 : mm_C := .inr (.int, List.replicate 600 (.int 0))
def hM_333 : mm_C := .inr (.int, List.replicate 600 (.int 0))
def hM_334 : mm_C := .inr (.int, List.replicate 20 (.int 0))
def hM_335 : mm_C := .inr (.int, List.replicate 20 (.int 0))
def hM_336 : mm_C := .inr (.boolean, List.replicate 20 (.int 0))
def hM_337 : mm_C := .inr (.int, [.int 0, .int 0, .int 0, .int 0, .int 0, .int 0])
def hM_338 : mm_C := .inr (.int, List.replicate 60 (.int 0))
def hM_339 : mm_C := .inr (.boolean, [.int 0, .int 0, .int 0])
def hM_340 : mm_C := .inr (.int, List.replicate 153 (.int 0))
def hM : mm_H := (341, 33469, ((((((((((some hX_0 : Option mm_C), (some hX_1 : Option mm_C)), ((some hX_2 : Option mm_C), (some hX_3 : Option mm_C))), (((some hX_4 : Option mm_C), (some hX_5 : Option mm_C)), ((some hX_6 : Option mm_C), (some hX_7 : Option mm_C)))), ((((some hX_8 : Option mm_C), (some hX_9 : Option mm_C)), ((some hX_10 : Option mm_C), (some hX_11 : Option mm_C))), (((some hX_12 : Option mm_C), (some hX_13 : Option mm_C)), ((some hX_14 : Option mm_C), (some hX_15 : Option mm_C))))), (((((some hX_16 : Option mm_C), (some hX_17 : Option mm_C)), ((some hX_18 : Option mm_C), (some hX_19 : Option mm_C))), (((some hX_20 : Option mm_C), (some hX_21 : Option mm_C)), ((some hX_22 : Option mm_C), (some hX_23 : Option mm_C)))), ((((some hX_24 : Option mm_C), (some hX_25 : Option mm_C)), ((some hX_26 : Option mm_C), (some hX_27 : Option mm_C))), (((some hX_28 : Option mm_C), (some hX_29 : Option mm_C)), ((some hX_30 : Option mm_C), (some hX_31 : Option mm_C)))))), ((((((some hX_32 : Option mm_C), (some hX_33 : Option mm_C)), ((some hX_34 : Option mm_C), (some hX_35 : Option mm_C))), (((some hX_36 : Option mm_C), (some hX_37 : Option mm_C)), ((some hX_38 : Option mm_C), (some hX_39 : Option mm_C)))), ((((some hX_40 : Option mm_C), (some hX_41 : Option mm_C)), ((some hX_42 : Option mm_C), (some hX_43 : Option mm_C))), (((some hX_44 : Option mm_C), (some hX_45 : Option mm_C)), ((some hX_46 : Option mm_C), (some hX_47 : Option mm_C))))), (((((some hX_48 : Option mm_C), (some hX_49 : Option mm_C)), ((some hX_50 : Option mm_C), (some hX_51 : Option mm_C))), (((some hX_52 : Option mm_C), (some hX_53 : Option mm_C)), ((some hX_54 : Option mm_C), (some hX_55 : Option mm_C)))), ((((some hX_56 : Option mm_C), (some hX_57 : Option mm_C)), ((some hX_58 : Option mm_C), (some hX_59 : Option mm_C))), (((some hX_60 : Option mm_C), (some hX_61 : Option mm_C)), ((some hX_62 : Option mm_C), (some hX_63 : Option mm_C))))))), (((((((some hX_64 : Option mm_C), (some hX_65 : Option mm_C)), ((some hX_66 : Option mm_C), (some hX_67 : Option mm_C))), (((some hX_68 : Option mm_C), (some hX_69 : Option mm_C)), ((some hX_70 : Option mm_C), (some hX_71 : Option mm_C)))), ((((some hX_72 : Option mm_C), (some hX_73 : Option mm_C)), ((some hX_74 : Option mm_C), (some hX_75 : Option mm_C))), (((some hX_76 : Option mm_C), (some hX_77 : Option mm_C)), ((some hX_78 : Option mm_C), (some hX_79 : Option mm_C))))), (((((some hX_80 : Option mm_C), (some hX_81 : Option mm_C)), ((some hX_82 : Option mm_C), (some hX_83 : Option mm_C))), (((some hX_84 : Option mm_C), (some hX_85 : Option mm_C)), ((some hX_86 : Option mm_C), (some hX_87 : Option mm_C)))), ((((some hX_88 : Option mm_C), (some hX_89 : Option mm_C)), ((some hX_90 : Option mm_C), (some hX_91 : Option mm_C))), (((some hX_92 : Option mm_C), (some hX_93 : Option mm_C)), ((some hX_94 : Option mm_C), (some hX_95 : Option mm_C)))))), ((((((some hX_96 : Option mm_C), (some hX_97 : Option mm_C)), ((some hX_98 : Option mm_C), (some hX_99 : Option mm_C))), (((some hX_100 : Option mm_C), (some hX_101 : Option mm_C)), ((some hX_102 : Option mm_C), (some hX_103 : Option mm_C)))), ((((some hX_104 : Option mm_C), (some hX_105 : Option mm_C)), ((some hX_106 : Option mm_C), (some hX_107 : Option mm_C))), (((some hX_108 : Option mm_C), (some hX_109 : Option mm_C)), ((some hX_110 : Option mm_C), (some hX_111 : Option mm_C))))), (((((some hX_112 : Option mm_C), (some hX_113 : Option mm_C)), ((some hX_114 : Option mm_C), (some hX_115 : Option mm_C))), (((some hX_116 : Option mm_C), (some hX_117 : Option mm_C)), ((some hX_118 : Option mm_C), (some hX_119 : Option mm_C)))), ((((some hX_120 : Option mm_C), (some hX_121 : Option mm_C)), ((some hX_122 : Option mm_C), (some hX_123 : Option mm_C))), (((some hX_124 : Option mm_C), (some hX_125 : Option mm_C)), ((some hX_126 : Option mm_C), (some hX_127 : Option mm_C)))))))), ((((((((some hX_128 : Option mm_C), (some hX_129 : Option mm_C)), ((some hX_130 : Option mm_C), (some hX_131 : Option mm_C))), (((some hX_132 : Option mm_C), (some hX_133 : Option mm_C)), ((some hX_134 : Option mm_C), (some hX_135 : Option mm_C)))), ((((some hX_136 : Option mm_C), (some hX_137 : Option mm_C)), ((some hX_138 : Option mm_C), (some hX_139 : Option mm_C))), (((some hX_140 : Option mm_C), (some hX_141 : Option mm_C)), ((some hX_142 : Option mm_C), (some hX_143 : Option mm_C))))), (((((some hX_144 : Option mm_C), (some hX_145 : Option mm_C)), ((some hX_146 : Option mm_C), (some hX_147 : Option mm_C))), (((some hX_148 : Option mm_C), (some hX_149 : Option mm_C)), ((some hX_150 : Option mm_C), (some hX_151 : Option mm_C)))), ((((some hX_152 : Option mm_C), (some hX_153 : Option mm_C)), ((some hX_154 : Option mm_C), (some hX_155 : Option mm_C))), (((some hX_156 : Option mm_C), (some hX_157 : Option mm_C)), ((some hX_158 : Option mm_C), (some hX_159 : Option mm_C)))))), ((((((some hX_160 : Option mm_C), (some hX_161 : Option mm_C)), ((some hX_162 : Option mm_C), (some hX_163 : Option mm_C))), (((some hX_164 : Option mm_C), (some hX_165 : Option mm_C)), ((some hX_166 : Option mm_C), (some hX_167 : Option mm_C)))), ((((some hX_168 : Option mm_C), (some hX_169 : Option mm_C)), ((some hX_170 : Option mm_C), (some hX_171 : Option mm_C))), (((some hX_172 : Option mm_C), (some hX_173 : Option mm_C)), ((some hX_174 : Option mm_C), (some hX_175 : Option mm_C))))), (((((some hX_176 : Option mm_C), (some hX_177 : Option mm_C)), ((some hX_178 : Option mm_C), (some hX_179 : Option mm_C))), (((some hX_180 : Option mm_C), (some hX_181 : Option mm_C)), ((some hX_182 : Option mm_C), (some hX_183 : Option mm_C)))), ((((some hX_184 : Option mm_C), (some hX_185 : Option mm_C)), ((some hX_186 : Option mm_C), (some hX_187 : Option mm_C))), (((some hX_188 : Option mm_C), (some hX_189 : Option mm_C)), ((some hX_190 : Option mm_C), (some hX_191 : Option mm_C))))))), (((((((some hX_192 : Option mm_C), (some hX_193 : Option mm_C)), ((some hX_194 : Option mm_C), (some hX_195 : Option mm_C))), (((some hX_196 : Option mm_C), (some hX_197 : Option mm_C)), ((some hX_198 : Option mm_C), (some hX_199 : Option mm_C)))), ((((some hX_200 : Option mm_C), (some hX_201 : Option mm_C)), ((some hX_202 : Option mm_C), (some hX_203 : Option mm_C))), (((some hX_204 : Option mm_C), (some hX_205 : Option mm_C)), ((some hX_206 : Option mm_C), (some hX_207 : Option mm_C))))), (((((some hX_208 : Option mm_C), (some hX_209 : Option mm_C)), ((some hX_210 : Option mm_C), (some hX_211 : Option mm_C))), (((some hX_212 : Option mm_C), (some hX_213 : Option mm_C)), ((some hX_214 : Option mm_C), (some hX_215 : Option mm_C)))), ((((some hX_216 : Option mm_C), (some hX_217 : Option mm_C)), ((some hX_218 : Option mm_C), (some hX_219 : Option mm_C))), (((some hX_220 : Option mm_C), (some hX_221 : Option mm_C)), ((some hX_222 : Option mm_C), (some hX_223 : Option mm_C)))))), ((((((some hX_224 : Option mm_C), (some hX_225 : Option mm_C)), ((some hX_226 : Option mm_C), (some hX_227 : Option mm_C))), (((some hX_228 : Option mm_C), (some hX_229 : Option mm_C)), ((some hX_230 : Option mm_C), (some hX_231 : Option mm_C)))), ((((some hX_232 : Option mm_C), (some hX_233 : Option mm_C)), ((some hX_234 : Option mm_C), (some hX_235 : Option mm_C))), (((some hX_236 : Option mm_C), (some hX_237 : Option mm_C)), ((some hX_238 : Option mm_C), (some hX_239 : Option mm_C))))), (((((some hX_240 : Option mm_C), (some hX_241 : Option mm_C)), ((some hX_242 : Option mm_C), (some hX_243 : Option mm_C))), (((some hX_244 : Option mm_C), (some hX_245 : Option mm_C)), ((some hX_246 : Option mm_C), (some hX_247 : Option mm_C)))), ((((some hX_248 : Option mm_C), (some hX_249 : Option mm_C)), ((some hX_250 : Option mm_C), (some hX_251 : Option mm_C))), (((some hX_252 : Option mm_C), (some hX_253 : Option mm_C)), ((some hX_254 : Option mm_C), (some hX_255 : Option mm_C))))))))), (((((((((some hX_256 : Option mm_C), (some hX_257 : Option mm_C)), ((some hX_258 : Option mm_C), (some hX_259 : Option mm_C))), (((some hX_260 : Option mm_C), (some hX_261 : Option mm_C)), ((some hX_262 : Option mm_C), (some hX_263 : Option mm_C)))), ((((some hX_264 : Option mm_C), (some hX_265 : Option mm_C)), ((some hX_266 : Option mm_C), (some hX_267 : Option mm_C))), (((some hX_268 : Option mm_C), (some hX_269 : Option mm_C)), ((some hX_270 : Option mm_C), (some hX_271 : Option mm_C))))), (((((some hX_272 : Option mm_C), (some hX_273 : Option mm_C)), ((some hX_274 : Option mm_C), (some hX_275 : Option mm_C))), (((some hX_276 : Option mm_C), (some hX_277 : Option mm_C)), ((some hX_278 : Option mm_C), (some hX_279 : Option mm_C)))), ((((some hX_280 : Option mm_C), (some hX_281 : Option mm_C)), ((some hX_282 : Option mm_C), (some hX_283 : Option mm_C))), (((some hM_284 : Option mm_C), (some hM_285 : Option mm_C)), ((some hM_286 : Option mm_C), (some hM_287 : Option mm_C)))))), ((((((some hM_288 : Option mm_C), (some hM_289 : Option mm_C)), ((some hM_290 : Option mm_C), (some hM_291 : Option mm_C))), (((some hM_292 : Option mm_C), (some hM_293 : Option mm_C)), ((some hM_294 : Option mm_C), (some hM_295 : Option mm_C)))), ((((some hM_296 : Option mm_C), (some hM_297 : Option mm_C)), ((some hM_298 : Option mm_C), (some hM_299 : Option mm_C))), (((some hM_300 : Option mm_C), (some hM_301 : Option mm_C)), ((some hM_302 : Option mm_C), (some hM_303 : Option mm_C))))), (((((some hM_304 : Option mm_C), (some hM_305 : Option mm_C)), ((some hM_306 : Option mm_C), (some hM_307 : Option mm_C))), (((some hM_308 : Option mm_C), (some hM_309 : Option mm_C)), ((some hM_310 : Option mm_C), (some hM_311 : Option mm_C)))), ((((some hM_312 : Option mm_C), (some hM_313 : Option mm_C)), ((some hM_314 : Option mm_C), (some hM_315 : Option mm_C))), (((some hM_316 : Option mm_C), (some hM_317 : Option mm_C)), ((some hM_318 : Option mm_C), (some hM_319 : Option mm_C))))))), (((((((some hM_320 : Option mm_C), (some hM_321 : Option mm_C)), ((some hM_322 : Option mm_C), (some hM_323 : Option mm_C))), (((some hM_324 : Option mm_C), (some hM_325 : Option mm_C)), ((some hM_326 : Option mm_C), (some hM_327 : Option mm_C)))), ((((some hM_328 : Option mm_C), (some hM_329 : Option mm_C)), ((some hM_330 : Option mm_C), (some hM_331 : Option mm_C))), (((some hM_332 : Option mm_C), (some hM_333 : Option mm_C)), ((some hM_334 : Option mm_C), (some hM_335 : Option mm_C))))), (((((some hM_336 : Option mm_C), (some hM_337 : Option mm_C)), ((some hM_338 : Option mm_C), (some hM_339 : Option mm_C))), (((some hM_340 : Option mm_C), mm_no 0), mm_no 1)), mm_no 3)), mm_no 5)), mm_no 7)))
