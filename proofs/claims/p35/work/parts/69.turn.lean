/-! turnFaces: six faces from p on; b comes beneath, t comes on top -/
def turnF (xs : List Int32) (p b t : Nat) : List Int32 := (((xs.set p (xs.getD (p + t) 0)).set (p + t) (xs.getD (p + 1) 0)).set (p + 1) (xs.getD (p + b) 0)).set (p + b) (xs.getD p 0)
theorem turnF_len {xs : List Int32} {p b t : Nat} : (turnF xs p b t).length = xs.length := by
  unfold turnF
  simp only [List.length_set]
theorem getD_of {xs : List Int32} {j : Nat} {x : Int32} (h : xs[j]? = some x) : xs.getD j 0 = x := by
  rw [List.getD_eq_getElem?_getD, h]
  rfl
theorem set_ne {xs : List Int32} {i j : Nat} {v : Int32} (h : i ≠ j) : (xs.set i v)[j]? = xs[j]? := List.getElem?_set_ne h
set_option maxRecDepth 20000 in
theorem c_turnFaces {i : Nat} (hI : isI i) (p w bw tw : Int32) (A : mA) (F : mF) (L : mL) (sw : Bool) (p0 : 0 ≤ p.toInt) (p1 : p.toInt + 5 < (A i).length) (p2 : p.toInt < 1000) (w0 : 0 ≤ w.toInt) (w1 : w.toInt < 4) (hb : ([5, 3, 4, 2] : List Int32)[w.toInt.toNat]? = some bw) (ht : ([4, 2, 5, 3] : List Int32)[w.toInt.toNat]? = some tw) : mm_K 1 167 [.ref i, .int p, .int w] (mh A F L sw) (fun h2 v => v = none ∧ h2 = mh (uA A i (turnF (A i) p.toInt.toNat bw.toInt.toNat tw.toInt.toNat)) F L sw) := by
  have e0 : (0 : Int32).toInt = 0 := rfl
  have e1 : (1 : Int32).toInt = 1 := rfl
  have rb := sta_rng (by decide) hb
  have rt := sta_rng (by decide) ht
  have bt : bw.toInt ≠ tw.toInt := by
    have k : ∀ j, j < 4 → ∀ b t : Int32, ([5, 3, 4, 2] : List Int32)[j]? = some b → ([4, 2, 5, 3] : List Int32)[j]? = some t → b.toInt ≠ t.toInt := by
      intro j hj b t h1 h2
      match j, hj with
      | 0, _ => cases h1; cases h2; decide
      | 1, _ => cases h1; cases h2; decide
      | 2, _ => cases h1; cases h2; decide
      | 3, _ => cases h1; cases h2; decide
    exact k _ (by omega) _ _ hb ht
  refine K_of rfl ?_
  show mm_W 0 mc_167 0 [some (.ref i), some (.int p), some (.int w), none, none, none] [] (mh A F L sw) _
  refine w_st (fun _ => rfl) ?_
  refine w_st (fun _ => rfl) ?_
  refine w_st (fun _ => rfl) ?_
  refine l_sta 0 (xs := [5, 3, 4, 2]) rfl rfl w0 w1 (fun b2 hb2 => ?_)
  obtain rfl : bw = b2 := Option.some.inj (hb.symm.trans hb2)
  refine r_add rfl (by omega) (by omega) (fun sk hsk => ?_)
  refine w_st (fun _ => rfl) ?_
  refine w_st (fun _ => rfl) ?_
  refine w_st (fun _ => rfl) ?_
  refine w_st (fun _ => rfl) ?_
  refine l_sta 1 (xs := [4, 2, 5, 3]) rfl rfl w0 w1 (fun t2 ht2 => ?_)
  obtain rfl : tw = t2 := Option.some.inj (ht.symm.trans ht2)
  refine r_add rfl (by omega) (by omega) (fun rs hrs => ?_)
  refine w_st (fun _ => rfl) ?_
  refine w_st (fun _ => rfl) ?_
  refine w_st (fun _ => rfl) ?_
  refine w_st (fun _ => rfl) ?_
  refine r_add rfl (by omega) (by omega) (fun q1 hq1 => ?_)
  refine la hI rfl (by omega) (by omega) (fun ot hot => ?_)
  refine w_st (fun _ => rfl) ?_
  refine w_st (fun _ => rfl) ?_
  refine w_st (fun _ => rfl) ?_
  refine w_st (fun _ => rfl) ?_
  refine r_add rfl (by omega) (by omega) (fun q2 hq2 => ?_)
  refine w_st (fun _ => rfl) ?_
  refine w_st (fun _ => rfl) ?_
  refine la hI rfl (by omega) (by omega) (fun v1 hv1 => ?_)
  refine ta hI rfl (by omega) (by omega) ?_
  refine w_st (fun _ => rfl) ?_
  refine w_st (fun _ => rfl) ?_
  refine w_st (fun _ => rfl) ?_
  refine w_st (fun _ => rfl) ?_
  refine w_st (fun _ => rfl) ?_
  refine r_add rfl (by omega) (by omega) (fun q3 hq3 => ?_)
  refine la hI rfl (by omega) (by rw [uA_eq, List.length_set]; omega) (fun v2 hv2 => ?_)
  refine ta hI rfl (by omega) (by rw [uA_eq, List.length_set]; omega) ?_
  rw [uA_uA, uA_eq]
  rw [uA_eq] at hv2
  refine w_st (fun _ => rfl) ?_
  refine w_st (fun _ => rfl) ?_
  refine w_st (fun _ => rfl) ?_
  refine r_add rfl (by omega) (by omega) (fun q4 hq4 => ?_)
  refine w_st (fun _ => rfl) ?_
  refine w_st (fun _ => rfl) ?_
  refine la hI rfl (by omega) (by rw [uA_eq, List.length_set, List.length_set]; omega) (fun v3 hv3 => ?_)
  refine ta hI rfl (by omega) (by rw [uA_eq, List.length_set, List.length_set]; omega) ?_
  rw [uA_uA, uA_eq]
  rw [uA_eq] at hv3
  refine w_st (fun _ => rfl) ?_
  refine w_st (fun _ => rfl) ?_
  refine w_st (fun _ => rfl) ?_
  refine ta hI rfl (by omega) (by rw [uA_eq, List.length_set, List.length_set, List.length_set]; omega) ?_
  rw [uA_uA, uA_eq]
  refine w_rt (fun _ => rfl) ⟨⟨_, _, _, _, rfl⟩, rfl, ?_⟩
  have n1 : q1.toInt.toNat = p.toInt.toNat := by omega
  have n2 : q2.toInt.toNat = p.toInt.toNat := by omega
  have n3 : q3.toInt.toNat = p.toInt.toNat + 1 := by omega
  have n4 : q4.toInt.toNat = p.toInt.toNat + 1 := by omega
  have nr : rs.toInt.toNat = p.toInt.toNat + tw.toInt.toNat := by omega
  have ns : sk.toInt.toNat = p.toInt.toNat + bw.toInt.toNat := by omega
  rw [n2, n3] at hv2
  rw [set_ne (by omega)] at hv2
  rw [n2, nr, ns] at hv3
  rw [set_ne (by omega), set_ne (by omega)] at hv3
  rw [n1] at hot
  rw [nr] at hv1
  rw [n2, nr, n4, ns]
  unfold turnF
  rw [getD_of hot, getD_of hv1, getD_of hv2, getD_of hv3]
