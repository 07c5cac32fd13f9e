/-! States by any of their cells; copies of rows -/
def cpI (xs ys : List Int32) (sp dp n : Nat) : List Int32 := ys.take dp ++ ((xs.drop sp).take n ++ ys.drop (dp + n))
theorem cpI_all {xs ys : List Int32} {n : Nat} (hx : xs.length = n) (hy : ys.length = n) : cpI xs ys 0 0 n = xs := by
  unfold cpI
  rw [List.take_zero, List.nil_append, List.drop_zero, Nat.zero_add, List.take_of_length_le (by omega), List.drop_of_length_le (by omega), List.append_nil]
theorem cpI_len {xs ys : List Int32} {sp dp n : Nat} (h1 : sp + n ≤ xs.length) (h2 : dp + n ≤ ys.length) : (cpI xs ys sp dp n).length = ys.length := by
  unfold cpI
  simp only [List.length_append, List.length_take, List.length_drop]
  omega
theorem fit_map (xs : List Int32) : (xs.map Value.int).all (mm_fit .int) = true := by
  rw [List.all_eq_true]
  intro v hv
  obtain ⟨x, -, rfl⟩ := List.mem_map.mp hv
  rfl
section VS
variable {D : Nat} {code : Nat → mm_A} {pc nx : Nat} {ls : List (Option Value)} {r : List Value} {A : mA} {F : mF} {L : mL} {sw : Bool} {Q : mm_Q}
theorem v_ac {V : Nat → mm_C} {b d : Nat} {xs ys : List Int32} {n dp sp : Int32} (hc : code pc = a_ac nx) (hb : b < 341) (hd : d < 341) (gb : V b = .inr (.int, xs.map .int)) (gd : V d = .inr (.int, ys.map .int)) (h0 : 0 ≤ n.toInt) (h1 : 0 ≤ dp.toInt) (h2 : 0 ≤ sp.toInt) (h3 : sp.toInt + n.toInt ≤ xs.length) (h4 : dp.toInt + n.toInt ≤ ys.length) (hr : Nat.ble (mm_cat r) 8 = true) (kk : mm_W D code nx ls r (mm_hp (mm_up V d (.inr (.int, (cpI xs ys sp.toInt.toNat dp.toInt.toNat n.toInt.toNat).map .int)))) Q) : mm_W D code pc ls (.int n :: .int dp :: .ref d :: .int sp :: .ref b :: r) (mm_hp V) Q :=
  w_st (fun F => by
    have nn : ∀ z : Int32, 0 ≤ z.toInt → ¬ z < 0 := fun z hz h => by
      have := Int32.lt_iff_toInt_lt.mp h
      have e : (0 : Int32).toInt = 0 := rfl
      omega
    have e1 : Nat.ble (sp.toNatClampNeg + n.toNatClampNeg) (xs.map Value.int).length = true := by
      rw [List.length_map]
      exact Nat.ble_eq_true_of_le (by show sp.toInt.toNat + n.toInt.toNat ≤ _; omega)
    have e2 : Nat.ble (dp.toNatClampNeg + n.toNatClampNeg) (ys.map Value.int).length = true := by
      rw [List.length_map]
      exact Nat.ble_eq_true_of_le (by show dp.toInt.toNat + n.toInt.toNat ≤ _; omega)
    have e3 : mm_cp (xs.map Value.int) (ys.map Value.int) sp.toNatClampNeg dp.toNatClampNeg n.toNatClampNeg = (cpI xs ys sp.toInt.toNat dp.toInt.toNat n.toInt.toNat).map .int := by
      unfold mm_cp cpI
      simp only [List.map_append, List.map_take, List.map_drop]
      rfl
    rw [hc]
    simp only [a_ac, hp_get hb, hp_get hd, gb, gd, hr, decide_eq_false (nn n h0), decide_eq_false (nn dp h1), decide_eq_false (nn sp h2), e1, e2, fit_map, Bool.not_false, Bool.and_self, cond_true, e3, hp_put hd]) kk
theorem gs_0 {a : Nat} (ha : a ∈ stL) (hc : code pc = a_get 7 0 nx) (kk : mm_W D code nx ls (.ref (a + 1) :: r) (mh A F L sw) Q) : mm_W D code pc ls (.ref a :: r) (mh A F L sw) Q := g_fld a (by have := st_lt ha; omega) (st_ck ha _ _ _ _).1 rfl hc kk
theorem gs_1 {a : Nat} (ha : a ∈ stL) (hc : code pc = a_get 7 1 nx) (kk : mm_W D code nx ls (.ref (a + 2) :: r) (mh A F L sw) Q) : mm_W D code pc ls (.ref a :: r) (mh A F L sw) Q := g_fld a (by have := st_lt ha; omega) (st_ck ha _ _ _ _).1 rfl hc kk
theorem gs_2 {a : Nat} (ha : a ∈ stL) (hc : code pc = a_get 7 2 nx) (kk : mm_W D code nx ls (.ref (a + 3) :: r) (mh A F L sw) Q) : mm_W D code pc ls (.ref a :: r) (mh A F L sw) Q := g_fld a (by have := st_lt ha; omega) (st_ck ha _ _ _ _).1 rfl hc kk
theorem gs_3 {a : Nat} (ha : a ∈ stL) (hc : code pc = a_get 7 3 nx) (kk : mm_W D code nx ls (.ref (a + 4) :: r) (mh A F L sw) Q) : mm_W D code pc ls (.ref a :: r) (mh A F L sw) Q := g_fld a (by have := st_lt ha; omega) (st_ck ha _ _ _ _).1 rfl hc kk
theorem gs_4 {a : Nat} (ha : a ∈ stL) (hc : code pc = a_get 7 4 nx) (kk : mm_W D code nx ls (.int (F a 4) :: r) (mh A F L sw) Q) : mm_W D code pc ls (.ref a :: r) (mh A F L sw) Q := g_fld a (by have := st_lt ha; omega) (st_ck ha _ _ _ _).1 rfl hc kk
theorem gs_5 {a : Nat} (ha : a ∈ stL) (hc : code pc = a_get 7 5 nx) (kk : mm_W D code nx ls (.int (F a 5) :: r) (mh A F L sw) Q) : mm_W D code pc ls (.ref a :: r) (mh A F L sw) Q := g_fld a (by have := st_lt ha; omega) (st_ck ha _ _ _ _).1 rfl hc kk
theorem gs_6 {a : Nat} (ha : a ∈ stL) (hc : code pc = a_get 7 6 nx) (kk : mm_W D code nx ls (.int (F a 6) :: r) (mh A F L sw) Q) : mm_W D code pc ls (.ref a :: r) (mh A F L sw) Q := g_fld a (by have := st_lt ha; omega) (st_ck ha _ _ _ _).1 rfl hc kk
theorem ps_4 {a : Nat} {x : Int32} (ha : a ∈ stL) (hc : code pc = a_put 7 4 .int nx) (kk : mm_W D code nx ls r (mh A (uF F a 4 x) L sw) Q) : mm_W D code pc ls (.int x :: .ref a :: r) (mh A F L sw) Q := s_fld a (by have := st_lt ha; omega) (st_ck ha _ _ _ _).1 (Nat.le_of_ble_eq_true rfl) (by rw [(st_ck ha _ _ _ _).1]; rfl) hc kk
theorem ps_5 {a : Nat} {x : Int32} (ha : a ∈ stL) (hc : code pc = a_put 7 5 .int nx) (kk : mm_W D code nx ls r (mh A (uF F a 5 x) L sw) Q) : mm_W D code pc ls (.int x :: .ref a :: r) (mh A F L sw) Q := s_fld a (by have := st_lt ha; omega) (st_ck ha _ _ _ _).1 (Nat.le_of_ble_eq_true rfl) (by rw [(st_ck ha _ _ _ _).1]; rfl) hc kk
theorem ps_6 {a : Nat} {x : Int32} (ha : a ∈ stL) (hc : code pc = a_put 7 6 .int nx) (kk : mm_W D code nx ls r (mh A (uF F a 6 x) L sw) Q) : mm_W D code pc ls (.int x :: .ref a :: r) (mh A F L sw) Q := s_fld a (by have := st_lt ha; omega) (st_ck ha _ _ _ _).1 (Nat.le_of_ble_eq_true rfl) (by rw [(st_ck ha _ _ _ _).1]; rfl) hc kk
/-- a row that is one of numbers -/
def isI (i : Nat) : Prop := i < 341 ∧ ∀ (x : List Int32) (f : Nat → Int32) (l : List Int64) (sw : Bool), ck i x f l sw = .inr (.int, x.map .int)
theorem st_I1 {a : Nat} (ha : a ∈ stL) : isI (a + 1) := ⟨by have := st_lt ha; omega, fun x f l sw => (st_ck ha x f l sw).2.1⟩
theorem st_I2 {a : Nat} (ha : a ∈ stL) : isI (a + 2) := ⟨by have := st_lt ha; omega, fun x f l sw => (st_ck ha x f l sw).2.2.1⟩
theorem st_I3 {a : Nat} (ha : a ∈ stL) : isI (a + 3) := ⟨by have := st_lt ha; omega, fun x f l sw => (st_ck ha x f l sw).2.2.2.1⟩
theorem st_I4 {a : Nat} (ha : a ∈ stL) : isI (a + 4) := ⟨by have := st_lt ha; omega, fun x f l sw => (st_ck ha x f l sw).2.2.2.2⟩
theorem la {i : Nat} {X : mm_X} {j : Int32} (hI : isI i) (hc : code pc = a_iald X nx) (h0 : 0 ≤ j.toInt) (h1 : j.toInt < (A i).length) (kk : ∀ x : Int32, (A i)[j.toInt.toNat]? = some x → mm_W D code nx ls (.int x :: r) (mh A F L sw) Q) : mm_W D code pc ls (.int j :: .ref i :: r) (mh A F L sw) Q :=
  l_int i hI.1 (hI.2 _ _ _ _) hc h0 (List.getElem?_eq_getElem (by omega)) (kk _ (List.getElem?_eq_getElem (by omega)))
theorem ta {i : Nat} {j v : Int32} (hI : isI i) (hc : code pc = a_iast nx) (h0 : 0 ≤ j.toInt) (h1 : j.toInt < (A i).length) (kk : mm_W D code nx ls r (mh (uA A i ((A i).set j.toInt.toNat v)) F L sw) Q) : mm_W D code pc ls (.int v :: .int j :: .ref i :: r) (mh A F L sw) Q :=
  t_int i hI.1 (hI.2 _ _ _ _) (hI.2 _ _ _ _) hc h0 h1 kk
theorem aca {b d : Nat} {n dp sp : Int32} (hB : isI b) (hD : isI d) (hc : code pc = a_ac nx) (h0 : 0 ≤ n.toInt) (h1 : 0 ≤ dp.toInt) (h2 : 0 ≤ sp.toInt) (h3 : sp.toInt + n.toInt ≤ (A b).length) (h4 : dp.toInt + n.toInt ≤ (A d).length) (hr : Nat.ble (mm_cat r) 8 = true) (kk : mm_W D code nx ls r (mh (uA A d (cpI (A b) (A d) sp.toInt.toNat dp.toInt.toNat n.toInt.toNat)) F L sw) Q) : mm_W D code pc ls (.int n :: .int dp :: .ref d :: .int sp :: .ref b :: r) (mh A F L sw) Q := by
  refine v_ac (V := cV A F L sw) hc hB.1 hD.1 (hB.2 _ _ _ _) (hD.2 _ _ _ _) h0 h1 h2 h3 h4 hr ?_
  rw [← hD.2 _ (F d) (L d) sw, mh_A]
  exact kk
end VS
