/-! goOnFrom; clear; within -/
set_option maxRecDepth 20000 in
theorem c_goOnFrom {b : Nat} (hb : b ∈ stL) (s : Int32) (A : mA) (F : mF) (L : mL) (sw : Bool) (ok : ∀ a ∈ stL, stOk A a) (h0 : 0 ≤ s.toInt) (h1 : s.toInt < 3) (l58 : (A 58).length = 3) : mm_K 2 24 [.ref 55, .ref b, .int s] (mh A F L sw) (fun h2 v => ((A 58)[s.toInt.toNat]? = some 0 ∧ v = some (.int 0) ∧ h2 = mh A F L sw) ∨ ((A 58)[s.toInt.toNat]? ≠ some 0 ∧ v = some (.int 1) ∧ h2 = mh (cpA A b (259 + 5 * s.toInt.toNat)) (uF (cpF F b (259 + 5 * s.toInt.toNat)) 55 0 0) L sw)) := by
  have ha : 259 + 5 * s.toInt.toNat ∈ stL := by
    have := st_mem (q := 40 + s.toInt.toNat) (by omega)
    rw [show 59 + 5 * (40 + s.toInt.toNat) = 259 + 5 * s.toInt.toNat by omega] at this
    exact this
  refine K_of rfl ?_
  show mm_W 1 mc_24 0 [some (.ref 55), some (.ref b), some (.int s)] [] (mh A F L sw) _
  refine w_st (fun _ => rfl) ?_
  refine g_55_3 rfl ?_
  refine w_st (fun _ => rfl) ?_
  refine lz_58 rfl h0 (by omega) (fun x hx => ?_)
  by_cases q : x = 0
  · refine w_ifF rfl (decide_eq_false (fun w => w q)) ?_
    refine w_st (fun _ => rfl) ?_
    exact w_rt (fun _ => rfl) ⟨⟨_, _, _, _, rfl⟩, Or.inl ⟨by rw [hx, q], rfl, rfl⟩⟩
  · refine w_ifT rfl (decide_eq_true q) ?_
    refine w_st (fun _ => rfl) ?_
    refine w_st (fun _ => rfl) ?_
    refine g_55_2 rfl ?_
    refine w_st (fun _ => rfl) ?_
    refine l_slot rfl h0 h1 ?_
    refine w_ivV (as := [_]) rfl mg_24 rfl rfl (st_cell hb) rfl ?_
    refine (c_copyOf hb ha A F L sw (ok b hb) (ok _ ha)).mono (Nat.le_refl _) ?_
    rintro _ _ ⟨rfl, rfl⟩
    refine w_st (fun _ => rfl) ?_
    refine w_st (fun _ => rfl) ?_
    refine p_55_0 rfl ?_
    refine w_st (fun _ => rfl) ?_
    exact w_rt (fun _ => rfl) ⟨⟨_, _, _, _, rfl⟩, Or.inr ⟨by rw [hx]; exact fun w => q (Option.some.inj w), rfl, rfl⟩⟩
set_option maxRecDepth 20000 in
theorem c_pastClear (A : mA) (F : mF) (L : mL) (sw : Bool) (l58 : (A 58).length = 3) : mm_K 1 20 [.ref 55] (mh A F L sw) (fun h2 v => v = none ∧ h2 = mh (uA A 58 [0, 0, 0]) (uF F 55 0 0) L sw) := by
  have loop : ∀ (m j : Nat), j + m = 3 → mm_W 0 mc_20 7 [some (.ref 55), some (.int (Int32.ofNat j))] [] (mh (uA A 58 (List.replicate j 0 ++ (A 58).drop j)) (uF F 55 0 0) L sw) (fun h2 v => (∃ (A2 : mA) (F2 : mF) (L2 : mL) (s2 : Bool), h2 = mh A2 F2 L2 s2) ∧ v = none ∧ h2 = mh (uA A 58 [0, 0, 0]) (uF F 55 0 0) L sw) := by
    intro m
    induction m with
    | zero =>
      intro j hj
      have e : j = 3 := by omega
      subst e
      refine w_st (fun _ => rfl) ?_
      refine w_st (fun _ => rfl) ?_
      refine w_icT rfl (by decide) ?_
      refine w_rt (fun _ => rfl) ⟨⟨_, _, _, _, rfl⟩, rfl, ?_⟩
      rw [List.drop_of_length_le (by omega), List.append_nil]
      rfl
    | succ m ih =>
      intro j hj
      refine w_st (fun _ => rfl) ?_
      refine w_st (fun _ => rfl) ?_
      refine w_icF rfl (decide_eq_false (fun q => absurd ((Int32.ofNat_le_ofNat (k := 3) (by omega) (by omega)).mp q) (by omega))) ?_
      refine w_st (fun _ => rfl) ?_
      refine g_55_3 rfl ?_
      refine w_st (fun _ => rfl) ?_
      refine w_st (fun _ => rfl) ?_
      have e1 : (Int32.ofNat j).toInt = j := i_nat (by omega)
      refine tz_58 rfl (by omega) (by rw [uA_eq, List.length_append, List.length_replicate, List.length_drop]; omega) ?_
      rw [uA_uA, uA_eq]
      refine w_iincE rfl rfl (i_succ j) ?_
      refine w_st (fun _ => rfl) ?_
      have e2 : (List.replicate j 0 ++ (A 58).drop j).set (Int32.ofNat j).toInt.toNat (vp_nar .boolean 0) = List.replicate (j + 1) 0 ++ (A 58).drop (j + 1) := by
        rw [e1, show ((j : Int)).toNat = j from Int.toNat_natCast j, List.set_append_right _ _ (by rw [List.length_replicate]; exact Nat.le_refl _), List.length_replicate, Nat.sub_self]
        rw [List.drop_eq_getElem_cons (by omega : j < (A 58).length)]
        rw [List.set_cons_zero, List.replicate_succ', List.append_assoc]
        rfl
      rw [e2]
      exact ih (j + 1) (by omega)
  refine K_of rfl ?_
  show mm_W 0 mc_20 0 [some (.ref 55), none] [] (mh A F L sw) _
  refine w_st (fun _ => rfl) ?_
  refine w_st (fun _ => rfl) ?_
  refine p_55_0 rfl ?_
  refine w_st (fun _ => rfl) ?_
  refine w_st (fun _ => rfl) ?_
  have l0 := loop 3 0 (by omega)
  rw [List.replicate_zero, List.nil_append, List.drop_zero, uA_self] at l0
  exact l0
