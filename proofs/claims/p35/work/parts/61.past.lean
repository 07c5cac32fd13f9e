/-! States that are kept: the ring (59 + 5 * q, q below 40), the slots (40 .. 42), now (43), spare (44) -/
theorem st_mem {q : Nat} (h : q < 45) : 59 + 5 * q ∈ stL := by
  have k : ∀ q, q < 45 → 59 + 5 * q ∈ stL := by decide +kernel
  exact k q h
theorem ring_at (A : mA) (F : mF) (L : mL) (sw : Bool) : ∃ xs : List Value, cV A F L sw 56 = .inr (.object "TippedCrates$State", xs) ∧ ∀ q, q < 40 → xs[q]? = some (.ref (59 + 5 * q)) := ⟨_, rfl, by decide +kernel⟩
theorem slot_at (A : mA) (F : mF) (L : mL) (sw : Bool) : ∃ xs : List Value, cV A F L sw 57 = .inr (.object "TippedCrates$State", xs) ∧ ∀ q, q < 3 → xs[q]? = some (.ref (259 + 5 * q)) := ⟨_, rfl, by decide +kernel⟩
theorem i_nneg {j : Int32} (h0 : 0 ≤ j.toInt) : ¬ j < 0 := fun h => by
  have := Int32.lt_iff_toInt_lt.mp h
  have e : (0 : Int32).toInt = 0 := rfl
  omega
section PAST
variable {D : Nat} {code : Nat → mm_A} {pc nx : Nat} {ls : List (Option Value)} {r : List Value} {A : mA} {F : mF} {L : mL} {sw : Bool} {Q : mm_Q} {h : mm_H}
theorem v_aald {V : Nat → mm_C} {i v : Nat} {xs : List Value} {j : Int32} (hc : code pc = a_aald nx) (hi : i < 341) (hg : V i = .inr (.object "TippedCrates$State", xs)) (h0 : 0 ≤ j.toInt) (hx : xs[j.toInt.toNat]? = some (.ref v)) (kk : mm_W D code nx ls (.ref v :: r) (mm_hp V) Q) : mm_W D code pc ls (.int j :: .ref i :: r) (mm_hp V) Q :=
  w_st (fun F => by
    have e1 : xs[j.toNatClampNeg]? = some (.ref v) := hx
    have e2 : mm_ty (.object "TippedCrates$State") = true := rfl
    rw [hc]
    simp only [a_aald, decide_eq_false (i_nneg h0), cond_false, hp_get hi, hg, e2, cond_true, e1]) kk
theorem l_ring {j : Int32} (hc : code pc = a_aald nx) (h0 : 0 ≤ j.toInt) (h1 : j.toInt < 40) (kk : mm_W D code nx ls (.ref (59 + 5 * j.toInt.toNat) :: r) (mh A F L sw) Q) : mm_W D code pc ls (.int j :: .ref 56 :: r) (mh A F L sw) Q := by
  obtain ⟨xs, e1, e2⟩ := ring_at A F L sw
  exact v_aald (V := cV A F L sw) hc (by decide) e1 h0 (e2 _ (by omega)) kk
theorem l_slot {j : Int32} (hc : code pc = a_aald nx) (h0 : 0 ≤ j.toInt) (h1 : j.toInt < 3) (kk : mm_W D code nx ls (.ref (259 + 5 * j.toInt.toNat) :: r) (mh A F L sw) Q) : mm_W D code pc ls (.int j :: .ref 57 :: r) (mh A F L sw) Q := by
  obtain ⟨xs, e1, e2⟩ := slot_at A F L sw
  exact v_aald (V := cV A F L sw) hc (by decide) e1 h0 (e2 _ (by omega)) kk
theorem w_mm {op : Int32 → Int32 → Int32} {x y : Int32} (hc : code pc = a_mm op nx) (hr : Nat.ble (mm_cat r) 8 = true) (kk : mm_W D code nx ls (.int (op x y) :: r) h Q) : mm_W D code pc ls (.int y :: .int x :: r) h Q :=
  w_st (fun F => by
    rw [hc]
    simp only [a_mm, hr, cond_true, mm_fI_eq]) kk
/-- rows of booleans -/
theorem v_zald {V : Nat → mm_C} {i : Nat} {xs : List Int32} {j x : Int32} (hc : code pc = a_bald nx) (hi : i < 341) (hg : V i = .inr (.boolean, xs.map .int)) (h0 : 0 ≤ j.toInt) (hx : xs[j.toInt.toNat]? = some x) (kk : mm_W D code nx ls (.int x :: r) (mm_hp V) Q) : mm_W D code pc ls (.int j :: .ref i :: r) (mm_hp V) Q :=
  w_st (fun F => by
    have e1 : (xs.map Value.int)[j.toNatClampNeg]? = some (.int x) := by
      rw [List.getElem?_map]
      show Option.map Value.int xs[j.toInt.toNat]? = _
      rw [hx]
      rfl
    rw [hc]
    simp only [a_bald, decide_eq_false (i_nneg h0), cond_false, hp_get hi, hg, e1]) kk
theorem v_zast {V : Nat → mm_C} {i : Nat} {xs : List Int32} {j v : Int32} (hc : code pc = a_bast nx) (hi : i < 341) (hg : V i = .inr (.boolean, xs.map .int)) (h0 : 0 ≤ j.toInt) (h1 : j.toInt < xs.length) (kk : mm_W D code nx ls r (mm_hp (mm_up V i (.inr (.boolean, (xs.set j.toInt.toNat (vp_nar .boolean v)).map .int)))) Q) : mm_W D code pc ls (.int v :: .int j :: .ref i :: r) (mm_hp V) Q :=
  w_st (fun F => by
    have e1 : mm_in j (xs.map Value.int).length = true := by rw [List.length_map]; exact mm_in_of h0 h1
    have e2 : (xs.map Value.int).set j.toNatClampNeg (.int (vp_nar .boolean v)) = (xs.set j.toInt.toNat (vp_nar .boolean v)).map .int := by
      rw [List.map_set]
      rfl
    rw [hc]
    simp only [a_bast, hp_get hi, hg, e1, cond_true, mm_fI_eq, mm_lK_eq, e2, hp_put hi]) kk
end PAST
set_option maxRecDepth 20000 in
theorem c_note {b : Nat} (hb : b ∈ stL) (A : mA) (F : mF) (L : mL) (sw : Bool) (ok : ∀ a ∈ stL, stOk A a) (h0 : 0 ≤ (F 55 4).toInt) (h1 : (F 55 4).toInt < 40) (s0 : 0 ≤ (F 55 0).toInt) (s1 : (F 55 0).toInt ≤ 40) : mm_K 2 21 [.ref 55, .ref b] (mh A F L sw) (fun h2 v => v = none ∧ ∃ x y : Int32, x.toInt = (if (F 55 4).toInt + 1 < 40 then (F 55 4).toInt + 1 else 0) ∧ y.toInt = (if 40 < (F 55 0).toInt + 1 then 40 else (F 55 0).toInt + 1) ∧ h2 = mh (cpA A (59 + 5 * (F 55 4).toInt.toNat) b) (uF (uF (cpF F (59 + 5 * (F 55 4).toInt.toNat) b) 55 4 x) 55 0 y) L sw) := by
  generalize hq : 59 + 5 * (F 55 4).toInt.toNat = a
  have ha : a ∈ stL := by rw [← hq]; exact st_mem (by omega)
  have e1 : (1 : Int32).toInt = 1 := rfl
  have e40 : (40 : Int32).toInt = 40 := rfl
  have g4 : cpF F a b 55 4 = F 55 4 := by
    unfold cpF
    rw [uF_ne (fun w => by omega), uF_ne (fun w => by omega), uF_ne (fun w => by omega)]
  have g0 : cpF F a b 55 0 = F 55 0 := by
    unfold cpF
    rw [uF_ne (fun w => by omega), uF_ne (fun w => by omega), uF_ne (fun w => by omega)]
  -- behind the choice of the next place
  have tail : ∀ x : Int32, x.toInt = (if (F 55 4).toInt + 1 < 40 then (F 55 4).toInt + 1 else 0) → mm_W 1 mc_21 35 [some (.ref 55), some (.ref b)] [.int x, .ref 55] (mh (cpA A a b) (cpF F a b) L sw) (fun h2 v => (∃ (A2 : mA) (F2 : mF) (L2 : mL) (s2 : Bool), h2 = mh A2 F2 L2 s2) ∧ v = none ∧ ∃ x y : Int32, x.toInt = (if (F 55 4).toInt + 1 < 40 then (F 55 4).toInt + 1 else 0) ∧ y.toInt = (if 40 < (F 55 0).toInt + 1 then 40 else (F 55 0).toInt + 1) ∧ h2 = mh (cpA A a b) (uF (uF (cpF F a b) 55 4 x) 55 0 y) L sw) := by
    intro x hx
    refine p_55_4 rfl ?_
    refine w_st (fun _ => rfl) ?_
    refine w_st (fun _ => rfl) ?_
    refine g_55_0 rfl ?_
    have g1 : uF (cpF F a b) 55 4 x 55 0 = F 55 0 := by rw [uF_ne (fun w => by omega), g0]
    rw [g1]
    refine w_st (fun _ => rfl) ?_
    refine r_add rfl (by omega) (by omega) (fun z hz => ?_)
    refine w_st (fun _ => rfl) ?_
    refine w_mm rfl rfl ?_
    refine p_55_0 rfl ?_
    refine w_rt (fun _ => rfl) ⟨⟨_, _, _, _, rfl⟩, rfl, x, _, hx, ?_, rfl⟩
    show (if (40 : Int32) < z then (40 : Int32) else z).toInt = _
    by_cases q : (40 : Int32) < z
    · rw [if_pos q, if_pos (by have := Int32.lt_iff_toInt_lt.mp q; omega)]
      rfl
    · rw [if_neg q, if_neg (fun w => q (Int32.lt_iff_toInt_lt.mpr (by omega)))]
      omega
  refine K_of rfl ?_
  show mm_W 1 mc_21 0 [some (.ref 55), some (.ref b)] [] (mh A F L sw) _
  refine w_st (fun _ => rfl) ?_
  refine g_55_1 rfl ?_
  refine w_st (fun _ => rfl) ?_
  refine g_55_4 rfl ?_
  refine l_ring rfl h0 h1 ?_
  rw [hq]
  refine w_st (fun _ => rfl) ?_
  refine w_ivV (as := [_]) rfl mg_21 rfl rfl ((hp_get (by have := st_lt ha; omega)).trans (congrArg some (st_ck ha _ _ _ _).1)) rfl ?_
  refine (c_copyOf ha hb A F L sw (ok a ha) (ok b hb)).mono (Nat.le_refl _) ?_
  rintro _ _ ⟨rfl, rfl⟩
  refine w_st (fun _ => rfl) ?_
  refine w_st (fun _ => rfl) ?_
  refine g_55_4 rfl ?_
  rw [g4]
  refine w_st (fun _ => rfl) ?_
  refine r_add rfl (by omega) (by omega) (fun z hz => ?_)
  refine w_st (fun _ => rfl) ?_
  by_cases q : (40 : Int32) ≤ z
  · refine w_icT rfl (decide_eq_true q) ?_
    refine w_st (fun _ => rfl) ?_
    refine tail 0 ?_
    have := Int32.le_iff_toInt_le.mp q
    rw [if_neg (by omega)]
    rfl
  · refine w_icF rfl (decide_eq_false q) ?_
    refine w_st (fun _ => rfl) ?_
    refine g_55_4 rfl ?_
    rw [g4]
    refine w_st (fun _ => rfl) ?_
    refine r_add rfl (by omega) (by omega) (fun z2 hz2 => ?_)
    refine w_st (fun _ => rfl) ?_
    refine tail z2 ?_
    rw [if_pos (by
      apply Classical.byContradiction
      intro w
      exact q (Int32.le_iff_toInt_le.mpr (by omega)))]
    omega
