/-! takeBack, keep, goOnFrom, clear -/
theorem st_cell {a : Nat} (ha : a ∈ stL) {A : mA} {F : mF} {L : mL} {sw : Bool} : mm_hg (mh A F L sw) a = some (.inl (7, [.ref (a + 1), .ref (a + 2), .ref (a + 3), .ref (a + 4), .int (F a 4), .int (F a 5), .int (F a 6)])) := (hp_get (by have := st_lt ha; omega)).trans (congrArg some (st_ck ha _ _ _ _).1)
theorem uF_uF {F : mF} {i k : Nat} {x y : Int32} : uF (uF F i k x) i k y = uF F i k y := by
  funext j q
  unfold uF
  by_cases h : j = i ∧ q = k
  · rw [if_pos h, if_pos h]
  · rw [if_neg h, if_neg h, if_neg h]
/-- the State that stands behind the one noted last -/
def lastAt (n : Int) : Nat := 59 + 5 * (if 0 < n then n - 1 else 39).toNat
set_option maxRecDepth 20000 in
theorem c_takeBack {b : Nat} (hb : b ∈ stL) (A : mA) (F : mF) (L : mL) (sw : Bool) (ok : ∀ a ∈ stL, stOk A a) (h0 : 0 ≤ (F 55 4).toInt) (h1 : (F 55 4).toInt < 40) (s0 : 0 ≤ (F 55 0).toInt) (s1 : (F 55 0).toInt ≤ 40) : mm_K 2 22 [.ref 55, .ref b] (mh A F L sw) (fun h2 v => ((F 55 0).toInt = 0 ∧ h2 = mh A F L sw ∧ v = some (.int 0)) ∨ ((F 55 0).toInt ≠ 0 ∧ v = some (.int 1) ∧ ∃ x y : Int32, x.toInt = (F 55 0).toInt - 1 ∧ y.toInt = (if 0 < (F 55 4).toInt then (F 55 4).toInt - 1 else 39) ∧ h2 = mh (cpA A b (lastAt (F 55 4).toInt)) (cpF (uF (uF F 55 0 x) 55 4 y) b (lastAt (F 55 4).toInt)) L sw)) := by
  have e1 : (1 : Int32).toInt = 1 := rfl
  have e0 : (0 : Int32).toInt = 0 := rfl
  have e39 : (39 : Int32).toInt = 39 := rfl
  have tail : ∀ x y : Int32, (F 55 0).toInt ≠ 0 → x.toInt = (F 55 0).toInt - 1 → y.toInt = (if 0 < (F 55 4).toInt then (F 55 4).toInt - 1 else 39) → mm_W 1 mc_22 38 [some (.ref 55), some (.ref b)] [.int y, .ref 55] (mh A (uF F 55 0 x) L sw) (fun h2 v => (∃ (A2 : mA) (F2 : mF) (L2 : mL) (s2 : Bool), h2 = mh A2 F2 L2 s2) ∧ (((F 55 0).toInt = 0 ∧ h2 = mh A F L sw ∧ v = some (.int 0)) ∨ ((F 55 0).toInt ≠ 0 ∧ v = some (.int 1) ∧ ∃ x y : Int32, x.toInt = (F 55 0).toInt - 1 ∧ y.toInt = (if 0 < (F 55 4).toInt then (F 55 4).toInt - 1 else 39) ∧ h2 = mh (cpA A b (lastAt (F 55 4).toInt)) (cpF (uF (uF F 55 0 x) 55 4 y) b (lastAt (F 55 4).toInt)) L sw))) := by
    intro x y hne hx hy
    have y0 : 0 ≤ y.toInt := by rw [hy]; split <;> omega
    have y1 : y.toInt < 40 := by rw [hy]; split <;> omega
    refine p_55_4 rfl ?_
    refine w_st (fun _ => rfl) ?_
    refine w_st (fun _ => rfl) ?_
    refine g_55_1 rfl ?_
    refine w_st (fun _ => rfl) ?_
    refine g_55_4 rfl ?_
    rw [uF_eq]
    refine l_ring rfl y0 y1 ?_
    have ea : 59 + 5 * y.toInt.toNat = lastAt (F 55 4).toInt := by unfold lastAt; rw [hy]
    rw [ea]
    have ha : lastAt (F 55 4).toInt ∈ stL := by rw [← ea]; exact st_mem (by omega)
    refine w_ivV (as := [_]) rfl mg_22 rfl rfl (st_cell hb) rfl ?_
    refine (c_copyOf hb ha A _ L sw (ok b hb) (ok _ ha)).mono (Nat.le_refl _) ?_
    rintro _ _ ⟨rfl, rfl⟩
    refine w_st (fun _ => rfl) ?_
    exact w_rt (fun _ => rfl) ⟨⟨_, _, _, _, rfl⟩, Or.inr ⟨hne, rfl, x, y, hx, hy, rfl⟩⟩
  refine K_of rfl ?_
  show mm_W 1 mc_22 0 [some (.ref 55), some (.ref b)] [] (mh A F L sw) _
  refine w_st (fun _ => rfl) ?_
  refine g_55_0 rfl ?_
  by_cases q : F 55 0 = 0
  · refine w_ifF rfl (decide_eq_false (fun w => w q)) ?_
    refine w_st (fun _ => rfl) ?_
    exact w_rt (fun _ => rfl) ⟨⟨_, _, _, _, rfl⟩, Or.inl ⟨by rw [q]; rfl, rfl, rfl⟩⟩
  · have hne : (F 55 0).toInt ≠ 0 := fun w => q (Int32.toInt.inj (w.trans e0.symm))
    refine w_ifT rfl (decide_eq_true q) ?_
    refine w_st (fun _ => rfl) ?_
    refine w_st (fun _ => rfl) ?_
    refine g_55_0 rfl ?_
    refine w_st (fun _ => rfl) ?_
    refine r_sub rfl (by omega) (by omega) (fun x hx => ?_)
    refine p_55_0 rfl ?_
    refine w_st (fun _ => rfl) ?_
    refine w_st (fun _ => rfl) ?_
    refine g_55_4 rfl ?_
    have g4 : uF F 55 0 x 55 4 = F 55 4 := uF_ne (fun w => by omega)
    rw [g4]
    by_cases p : F 55 4 ≤ 0
    · refine w_ifT rfl (decide_eq_true p) ?_
      refine w_st (fun _ => rfl) ?_
      refine tail x 39 hne (by omega) ?_
      have := Int32.le_iff_toInt_le.mp p
      rw [if_neg (by omega)]
      rfl
    · refine w_ifF rfl (decide_eq_false p) ?_
      refine w_st (fun _ => rfl) ?_
      refine g_55_4 rfl ?_
      rw [g4]
      refine w_st (fun _ => rfl) ?_
      refine r_sub rfl (by omega) (by omega) (fun y hy => ?_)
      refine w_st (fun _ => rfl) ?_
      refine tail x y hne (by omega) ?_
      rw [if_pos (by
        apply Classical.byContradiction
        intro w
        exact p (Int32.le_iff_toInt_le.mpr (by omega)))]
      omega
section PAST2
variable {D : Nat} {code : Nat → mm_A} {pc nx : Nat} {ls : List (Option Value)} {r : List Value} {A : mA} {F : mF} {L : mL} {sw : Bool} {Q : mm_Q}
theorem lz_58 {j : Int32} (hc : code pc = a_bald nx) (h0 : 0 ≤ j.toInt) (h1 : j.toInt < (A 58).length) (kk : ∀ x : Int32, (A 58)[j.toInt.toNat]? = some x → mm_W D code nx ls (.int x :: r) (mh A F L sw) Q) : mm_W D code pc ls (.int j :: .ref 58 :: r) (mh A F L sw) Q :=
  v_zald (V := cV A F L sw) hc (by decide) rfl h0 (List.getElem?_eq_getElem (by omega)) (kk _ (List.getElem?_eq_getElem (by omega)))
theorem tz_58 {j v : Int32} (hc : code pc = a_bast nx) (h0 : 0 ≤ j.toInt) (h1 : j.toInt < (A 58).length) (kk : mm_W D code nx ls r (mh (uA A 58 ((A 58).set j.toInt.toNat (vp_nar .boolean v))) F L sw) Q) : mm_W D code pc ls (.int v :: .int j :: .ref 58 :: r) (mh A F L sw) Q := by
  refine v_zast (V := cV A F L sw) hc (by decide) rfl h0 h1 ?_
  have e : (.inr (.boolean, ((A 58).set j.toInt.toNat (vp_nar .boolean v)).map Value.int) : mm_C) = ck 58 ((A 58).set j.toInt.toNat (vp_nar .boolean v)) (F 58) (L 58) sw := rfl
  rw [e, mh_A]
  exact kk
end PAST2
set_option maxRecDepth 20000 in
theorem c_keep {b : Nat} (hb : b ∈ stL) (s : Int32) (A : mA) (F : mF) (L : mL) (sw : Bool) (ok : ∀ a ∈ stL, stOk A a) (h0 : 0 ≤ s.toInt) (h1 : s.toInt < 3) (l58 : (A 58).length = 3) : mm_K 2 23 [.ref 55, .ref b, .int s] (mh A F L sw) (fun h2 v => v = none ∧ h2 = mh (uA (cpA A (259 + 5 * s.toInt.toNat) b) 58 ((A 58).set s.toInt.toNat 1)) (cpF F (259 + 5 * s.toInt.toNat) b) L sw) := by
  have ha : 259 + 5 * s.toInt.toNat ∈ stL := by
    have := st_mem (q := 40 + s.toInt.toNat) (by omega)
    rw [show 59 + 5 * (40 + s.toInt.toNat) = 259 + 5 * s.toInt.toNat by omega] at this
    exact this
  have g58 : cpA A (259 + 5 * s.toInt.toNat) b 58 = A 58 := by
    unfold cpA
    rw [if_neg (by omega), if_neg (by omega), if_neg (by omega), if_neg (by omega)]
  refine K_of rfl ?_
  show mm_W 1 mc_23 0 [some (.ref 55), some (.ref b), some (.int s)] [] (mh A F L sw) _
  refine w_st (fun _ => rfl) ?_
  refine g_55_2 rfl ?_
  refine w_st (fun _ => rfl) ?_
  refine l_slot rfl h0 h1 ?_
  refine w_st (fun _ => rfl) ?_
  refine w_ivV (as := [_]) rfl mg_23 rfl rfl (st_cell ha) rfl ?_
  refine (c_copyOf ha hb A F L sw (ok _ ha) (ok b hb)).mono (Nat.le_refl _) ?_
  rintro _ _ ⟨rfl, rfl⟩
  refine w_st (fun _ => rfl) ?_
  refine g_55_3 rfl ?_
  refine w_st (fun _ => rfl) ?_
  refine w_st (fun _ => rfl) ?_
  refine tz_58 rfl h0 (by rw [g58, l58]; omega) ?_
  rw [g58]
  exact w_rt (fun _ => rfl) ⟨⟨_, _, _, _, rfl⟩, rfl, rfl⟩
