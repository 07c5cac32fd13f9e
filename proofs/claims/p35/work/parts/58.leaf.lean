/-! Leaves: rows that are filled, States that are copied, which crate is on a flag -/
theorem i_succ (j : Nat) : Int32.ofNat j + 1 = Int32.ofNat (j + 1) := by rw [Int32.ofNat_add]; rfl
theorem i_nat {j : Nat} (h : j < 2147483648) : (Int32.ofNat j).toInt = j := Int32.toInt_ofNat_of_lt h
theorem uA_uA {A : mA} {i : Nat} {x y : List Int32} : uA (uA A i x) i y = uA A i y := by
  funext j
  unfold uA
  by_cases h : j = i
  · rw [if_pos h, if_pos h]
  · rw [if_neg h, if_neg h, if_neg h]
theorem uA_self {A : mA} {i : Nat} : uA A i (A i) = A := by
  funext j
  unfold uA
  by_cases h : j = i
  · rw [if_pos h, h]
  · rw [if_neg h]
section LEAF
variable {D : Nat} {code : Nat → mm_A} {pc nx : Nat} {ls : List (Option Value)} {st r : List Value} {h : mm_H} {A : mA} {F : mF} {L : mL} {sw : Bool} {Q : mm_Q}
theorem w_iincE {i : Nat} {n x z : Int32} (hc : code pc = a_iinc i n nx) (hl : ls[i]? = some (some (.int x))) (hz : x + n = z) (kk : mm_W D code nx ((mm_kl ls i).set i (some (.int z))) st h Q) : mm_W D code pc ls st h Q := by
  subst hz
  exact w_iinc hc hl kk
theorem lena {i : Nat} {X : mm_X} {n : Int32} (hI : isI i) (hc : code pc = a_alen X nx) (hn : Int32.ofNat (A i).length = n) (kk : mm_W D code nx ls (.int n :: r) (mh A F L sw) Q) : mm_W D code pc ls (.ref i :: r) (mh A F L sw) Q :=
  v_alen (V := cV A F L sw) hc hI.1 (hI.2 _ _ _ _) hn kk
end LEAF
/-- a method over flat memory -/
theorem K_of {D k : Nat} {as : List Value} {A : mA} {F : mF} {L : mL} {sw : Bool} {Q : mm_Q} (hn : Nat.ble (mm_en as).length (mm_nL k) = true) (hW : mm_W D (mm_cd k) 0 (mm_pad (mm_en as) (mm_nL k)) [] (mh A F L sw) (fun h2 r => (∃ (A2 : mA) (F2 : mF) (L2 : mL) (s2 : Bool), h2 = mh A2 F2 L2 s2) ∧ Q h2 r)) : mm_K (D + 1) k as (mh A F L sw) Q := by
  refine mm_K.of hn (hW.mono ?_)
  rintro h2 r ⟨⟨A2, F2, L2, s2, rfl⟩, q⟩
  exact ⟨⟨Nat.le_of_ble_eq_true rfl, Nat.le_of_ble_eq_true rfl⟩, q⟩
set_option maxRecDepth 20000 in
theorem c_fill {i : Nat} (hI : isI i) (v : Int32) (A : mA) (F : mF) (L : mL) (sw : Bool) {n : Nat} (hn : (A i).length = n) (hb : n < 100000) : mm_K 1 299 [.ref i, .int v] (mh A F L sw) (fun h2 r => h2 = mh (uA A i (List.replicate n v)) F L sw ∧ r = none) := by
  have loop : ∀ (m j : Nat), j + m = n → mm_W 0 mc_299 5 [some (.ref i), some (.int v), some (.int (Int32.ofNat j)), some (.int (Int32.ofNat n))] [] (mh (uA A i (List.replicate j v ++ (A i).drop j)) F L sw) (fun h2 r => (∃ (A2 : mA) (F2 : mF) (L2 : mL) (s2 : Bool), h2 = mh A2 F2 L2 s2) ∧ h2 = mh (uA A i (List.replicate n v)) F L sw ∧ r = none) := by
    intro m
    induction m with
    | zero =>
      intro j hj
      have e : j = n := by omega
      subst e
      refine w_st (fun _ => rfl) ?_
      refine w_st (fun _ => rfl) ?_
      refine w_icT rfl (decide_eq_true (Int32.le_refl _)) ?_
      refine w_rt (fun _ => rfl) ⟨⟨_, _, _, _, rfl⟩, ?_, rfl⟩
      rw [List.drop_of_length_le (by omega), List.append_nil]
    | succ m ih =>
      intro j hj
      refine w_st (fun _ => rfl) ?_
      refine w_st (fun _ => rfl) ?_
      refine w_icF rfl (decide_eq_false (fun q => absurd ((Int32.ofNat_le_ofNat (by omega) (by omega)).mp q) (by omega))) ?_
      refine w_st (fun _ => rfl) ?_
      refine w_st (fun _ => rfl) ?_
      refine w_st (fun _ => rfl) ?_
      have e1 : (Int32.ofNat j).toInt = j := i_nat (by omega)
      refine ta hI rfl (by omega) (by rw [uA_eq, List.length_append, List.length_replicate, List.length_drop]; omega) ?_
      rw [uA_uA, uA_eq]
      refine w_iincE rfl rfl (i_succ j) ?_
      refine w_st (fun _ => rfl) ?_
      have e2 : (List.replicate j v ++ (A i).drop j).set (Int32.ofNat j).toInt.toNat v = List.replicate (j + 1) v ++ (A i).drop (j + 1) := by
        rw [e1, show ((j : Int)).toNat = j from Int.toNat_natCast j, List.set_append_right _ _ (by rw [List.length_replicate]; exact Nat.le_refl _), List.length_replicate, Nat.sub_self]
        rw [List.drop_eq_getElem_cons (by omega : j < (A i).length)]
        rw [List.set_cons_zero, List.replicate_succ', List.append_assoc]
        rfl
      rw [e2]
      exact ih (j + 1) (by omega)
  refine K_of rfl ?_
  show mm_W 0 mc_299 0 [some (.ref i), some (.int v), none, none] [] (mh A F L sw) _
  refine w_st (fun _ => rfl) ?_
  refine w_st (fun _ => rfl) ?_
  refine w_st (fun _ => rfl) ?_
  refine lena (X := mm_xt) (n := Int32.ofNat n) (nx := 4) hI rfl (by rw [hn]) ?_
  refine w_st (fun _ => rfl) ?_
  have l0 := loop n 0 (by omega)
  rw [List.replicate_zero, List.nil_append, List.drop_zero, uA_self] at l0
  exact l0
