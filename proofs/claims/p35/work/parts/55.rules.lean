section WP2
variable {D : Nat} {code : Nat → mm_A} {pc : Nat} {ls : List (Option Value)} {r : List Value} {h : mm_H} {Q : mm_Q}
theorem w_icT {t : Int32 → Int32 → Bool} {tgt nx : Nat} {x y : Int32} (hc : code pc = a_ic t tgt nx) (hq : t x y = true) (k : mm_W D code tgt ls r h Q) : mm_W D code pc ls (.int y :: .int x :: r) h Q := w_ic hc (fun _ => k) (fun q => absurd (hq.symm.trans q) (by decide))
theorem w_icF {t : Int32 → Int32 → Bool} {tgt nx : Nat} {x y : Int32} (hc : code pc = a_ic t tgt nx) (hq : t x y = false) (k : mm_W D code nx ls r h Q) : mm_W D code pc ls (.int y :: .int x :: r) h Q := w_ic hc (fun q => absurd (hq.symm.trans q) (by decide)) (fun _ => k)
theorem w_ifT {t : Int32 → Bool} {tgt nx : Nat} {x : Int32} (hc : code pc = a_if t tgt nx) (hq : t x = true) (k : mm_W D code tgt ls r h Q) : mm_W D code pc ls (.int x :: r) h Q := w_ifz hc (fun _ => k) (fun q => absurd (hq.symm.trans q) (by decide))
theorem w_ifF {t : Int32 → Bool} {tgt nx : Nat} {x : Int32} (hc : code pc = a_if t tgt nx) (hq : t x = false) (k : mm_W D code nx ls r h Q) : mm_W D code pc ls (.int x :: r) h Q := w_ifz hc (fun q => absurd (hq.symm.trans q) (by decide)) (fun _ => k)
theorem w_tswO {lo hi : Int} {ts : List Nat} {df : Nat} {x : Int32} (hc : code pc = a_tsw lo hi ts df) (hq : x.toInt < lo ∨ hi < x.toInt) (k : mm_W D code df ls r h Q) : mm_W D code pc ls (.int x :: r) h Q :=
  w_st (fun F => by
    rw [hc]
    show (bif decide (x.toInt < lo) || decide (hi < x.toInt) then some (Sum.inl (df, ls, r, h)) else _) = _
    have e : (decide (x.toInt < lo) || decide (hi < x.toInt)) = true := by
      rcases hq with q | q
      · rw [decide_eq_true q]; rfl
      · rw [decide_eq_true q, Bool.or_true]
    rw [e]
    rfl) k
end WP2
/-! Rows of walks over heaps by cells: fields, rows of numbers, numbers that don't wrap. -/
section VW
variable {D : Nat} {code : Nat → mm_A} {pc nx i : Nat} {ls : List (Option Value)} {r : List Value} {V : Nat → mm_C} {Q : mm_Q}
theorem v_get {ci k : Nat} {fs : List Value} {v : Value} (hc : code pc = a_get ci k nx) (hi : i < 341) (hg : V i = .inl (ci, fs)) (hv : fs[k]? = some v) (kk : mm_W D code nx ls (v :: r) (mm_hp V) Q) : mm_W D code pc ls (.ref i :: r) (mm_hp V) Q :=
  w_st (fun F => by rw [hc]; simp only [a_get, hp_get hi, hg, Nat.beq_refl, cond_true, hv]) kk
theorem v_put {ci k : Nat} {fs : List Value} {v : Value} {ty : FieldType} (hc : code pc = a_put ci k ty nx) (hi : i < 341) (hg : V i = .inl (ci, fs)) (hk : k < fs.length) (hf : mm_fit ty v = true) (kk : mm_W D code nx ls r (mm_hp (mm_up V i (.inl (ci, fs.set k v)))) Q) : mm_W D code pc ls (v :: .ref i :: r) (mm_hp V) Q :=
  w_st (fun F => by rw [hc]; simp only [a_put, hp_get hi, hg, Nat.beq_refl, hf, mm_blt, decide_eq_true hk, Bool.and_self, cond_true, mm_lK_eq, hp_put hi]) kk
theorem v_iald {X : mm_X} {xs : List Int32} {j x : Int32} (hc : code pc = a_iald X nx) (hi : i < 341) (hg : V i = .inr (.int, xs.map .int)) (h0 : 0 ≤ j.toInt) (hx : xs[j.toInt.toNat]? = some x) (kk : mm_W D code nx ls (.int x :: r) (mm_hp V) Q) : mm_W D code pc ls (.int j :: .ref i :: r) (mm_hp V) Q :=
  w_st (fun F => by
    have hj : ¬ j < 0 := fun h => by
      have := Int32.lt_iff_toInt_lt.mp h
      have e : (0 : Int32).toInt = 0 := rfl
      omega
    have e1 : (xs.map Value.int)[j.toNatClampNeg]? = some (.int x) := by
      rw [List.getElem?_map]
      show Option.map Value.int xs[j.toInt.toNat]? = _
      rw [hx]
      rfl
    have e2 : Nat.blt i 1000 = true := by rw [mm_blt]; exact decide_eq_true (by omega)
    rw [hc]
    simp only [a_iald, decide_eq_false hj, cond_false, e2, cond_true, hp_get hi, hg, e1]) kk
theorem mm_in_of {j : Int32} {n : Nat} (h0 : 0 ≤ j.toInt) (h1 : j.toInt < n) : mm_in j n = true := by
  have hj : ¬ j < 0 := fun h => by
    have := Int32.lt_iff_toInt_lt.mp h
    have e : (0 : Int32).toInt = 0 := rfl
    omega
  unfold mm_in
  rw [decide_eq_false hj, mm_blt]
  show (true && decide (j.toInt.toNat < n)) = true
  rw [Bool.true_and]
  exact decide_eq_true (by omega)
theorem v_iast {xs : List Int32} {j v : Int32} (hc : code pc = a_iast nx) (hi : i < 341) (hg : V i = .inr (.int, xs.map .int)) (h0 : 0 ≤ j.toInt) (h1 : j.toInt < xs.length) (kk : mm_W D code nx ls r (mm_hp (mm_up V i (.inr (.int, (xs.set j.toInt.toNat v).map .int)))) Q) : mm_W D code pc ls (.int v :: .int j :: .ref i :: r) (mm_hp V) Q :=
  w_st (fun F => by
    have e1 : mm_in j (xs.map Value.int).length = true := by rw [List.length_map]; exact mm_in_of h0 h1
    have e2 : (xs.map Value.int).set j.toNatClampNeg (.int v) = (xs.set j.toInt.toNat v).map .int := by
      rw [List.map_set]
      rfl
    rw [hc]
    simp only [a_iast, hp_get hi, hg, e1, cond_true, mm_lK_eq, e2, hp_put hi]) kk
theorem v_alen {X : mm_X} {xs : List Int32} {n : Int32} (hc : code pc = a_alen X nx) (hi : i < 341) (hg : V i = .inr (.int, xs.map .int)) (hn : Int32.ofNat xs.length = n) (kk : mm_W D code nx ls (.int n :: r) (mm_hp V) Q) : mm_W D code pc ls (.ref i :: r) (mm_hp V) Q :=
  w_st (fun F => by
    have e2 : Nat.blt i 1000 = true := by rw [mm_blt]; exact decide_eq_true (by omega)
    have e3 : mm_ty .int = true := rfl
    rw [hc]
    simp only [a_alen, e2, cond_true, hp_get hi, hg, e3, List.length_map, mm_fI_eq, hn]) kk
end VW
section NUM
variable {D : Nat} {code : Nat → mm_A} {pc nx : Nat} {ls : List (Option Value)} {r : List Value} {h : mm_H} {Q : mm_Q} {x y : Int32}
theorem i_small {n : Int} (h1 : -2147483648 ≤ n) (h2 : n ≤ 2147483647) : n.bmod (2 ^ 32) = n := Int.bmod_eq_of_le_mul_two (by omega) (by omega)
theorem r_add (hc : code pc = a_i2 (fun x y => x + y) nx) (h1 : -2147483648 ≤ x.toInt + y.toInt) (h2 : x.toInt + y.toInt ≤ 2147483647) (kk : ∀ z : Int32, z.toInt = x.toInt + y.toInt → mm_W D code nx ls (.int z :: r) h Q) : mm_W D code pc ls (.int y :: .int x :: r) h Q :=
  w_i2 hc (kk (x + y) (by rw [Int32.toInt_add, i_small h1 h2]))
theorem r_sub (hc : code pc = a_i2 (fun x y => x - y) nx) (h1 : -2147483648 ≤ x.toInt - y.toInt) (h2 : x.toInt - y.toInt ≤ 2147483647) (kk : ∀ z : Int32, z.toInt = x.toInt - y.toInt → mm_W D code nx ls (.int z :: r) h Q) : mm_W D code pc ls (.int y :: .int x :: r) h Q :=
  w_i2 hc (kk (x - y) (by rw [Int32.toInt_sub, i_small h1 h2]))
theorem r_mul (hc : code pc = a_i2 (fun x y => x * y) nx) (h1 : -2147483648 ≤ x.toInt * y.toInt) (h2 : x.toInt * y.toInt ≤ 2147483647) (kk : ∀ z : Int32, z.toInt = x.toInt * y.toInt → mm_W D code nx ls (.int z :: r) h Q) : mm_W D code pc ls (.int y :: .int x :: r) h Q :=
  w_i2 hc (kk (x * y) (by rw [Int32.toInt_mul, i_small h1 h2]))
theorem r_any {op : Int32 → Int32 → Int32} (hc : code pc = a_i2 op nx) (kk : ∀ z : Int32, mm_W D code nx ls (.int z :: r) h Q) : mm_W D code pc ls (.int y :: .int x :: r) h Q := w_i2 hc (kk _)
end NUM
