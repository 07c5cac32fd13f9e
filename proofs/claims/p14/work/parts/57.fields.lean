/-! fields by name -/
section GP
variable {D : Nat} {code : Nat → mm_A} {pc nx : Nat} {ls : List (Option Value)} {r : List Value} {m : Mm} {Q : mm_Q} {a : Int}
def sy (j : Int) : Int := ((mm_sb.getD 1 []).getD j.toNat 0).toInt
theorem sy_rg (j : Int) : rg (sy j) := i_rg _
theorem f_xbl {j : Int} {h : mm_H} (hc : code pc = a_xbl mm_sb nx) (hj : 0 ≤ j ∧ j < 9) (kk : mm_W D code nx ls (iv (sy j) :: r) h Q) : mm_W D code pc ls (iv j :: .ref (1200 + 1) :: r) h Q := by
  have hr : rg j := by unfold rg; omega
  refine w_st (fun F => ?_) kk
  have e1 : Nat.ble 1200 (1200 + 1) = true := rfl
  have e2 : mm_sb[1200 + 1 - 1200]? = some (mm_sb.getD 1 []) := rfl
  have e3 : (mm_sb.getD 1 []).length = 9 := rfl
  have e4 : (mm_sb.getD 1 [])[j.toNat]? = some ((mm_sb.getD 1 []).getD j.toNat 0) := by
    generalize mm_sb.getD 1 [] = xs at e3
    rw [List.getD_eq_getElem?_getD, List.getElem?_eq_getElem (by omega)]
    rfl
  rw [hc]
  simp only [a_xbl, decide_eq_false (of_nn hr hj.1), e1, e2, cl_of hr, e4, Bool.not_false, Bool.and_self, cond_true]
  show _ = some (Sum.inl (nx, ls, Value.int (Int32.ofInt ((mm_sb.getD 1 []).getD j.toNat 0).toInt) :: r, h))
  rw [of_to]
theorem f_ire {Q : Mm → Int → Prop} (hc : code pc = a_ire .byte) (ha : rg a) (hz : a = 0 ∨ a = 1) (q : Q m a) : mm_W D code pc ls [iv a] (fm m) (XK Q) := w_rt (fun F => by rw [hc]; rcases hz with rfl | rfl <;> rfl) ⟨m, a, rfl, rfl, ha, q⟩
theorem rgl_of {a : Int} (h : rg a) : rgl a := by unfold rg at h; unfold rgl; omega
theorem isR_rg {n i : Nat} (h : isR n i) : rg (n : Int) := by have := h.2.1; unfold rg; omega
theorem g_0_0 (hc : code pc = a_get 11 0 nx) (kk : mm_W D code nx ls (.ref 1 :: r) (fm m) Q) : mm_W D code pc ls (.ref 0 :: r) (fm m) Q := f_getr hc (by decide) rfl rfl kk
theorem g_0_1 (hc : code pc = a_get 11 1 nx) (kk : mm_W D code nx ls (.ref 7 :: r) (fm m) Q) : mm_W D code pc ls (.ref 0 :: r) (fm m) Q := f_getr hc (by decide) rfl rfl kk
theorem g_0_2 (hc : code pc = a_get 11 2 nx) (kk : mm_W D code nx ls (.ref 19 :: r) (fm m) Q) : mm_W D code pc ls (.ref 0 :: r) (fm m) Q := f_getr hc (by decide) rfl rfl kk
theorem g_0_3 (hc : code pc = a_get 11 3 nx) (kk : mm_W D code nx ls (.ref 30 :: r) (fm m) Q) : mm_W D code pc ls (.ref 0 :: r) (fm m) Q := f_getr hc (by decide) rfl rfl kk
theorem g_0_4 (hc : code pc = a_get 11 4 nx) (kk : mm_W D code nx ls (.ref 31 :: r) (fm m) Q) : mm_W D code pc ls (.ref 0 :: r) (fm m) Q := f_getr hc (by decide) rfl rfl kk
theorem g_0_5 (hc : code pc = a_get 11 5 nx) (kk : mm_W D code nx ls (.ref 36 :: r) (fm m) Q) : mm_W D code pc ls (.ref 0 :: r) (fm m) Q := f_getr hc (by decide) rfl rfl kk
theorem g_0_6 (hc : code pc = a_get 11 6 nx) (kk : mm_W D code nx ls (.ref 39 :: r) (fm m) Q) : mm_W D code pc ls (.ref 0 :: r) (fm m) Q := f_getr hc (by decide) rfl rfl kk
theorem g_0_7 (hc : code pc = a_get 11 7 nx) (kk : mm_W D code nx ls (.ref 49 :: r) (fm m) Q) : mm_W D code pc ls (.ref 0 :: r) (fm m) Q := f_getr hc (by decide) rfl rfl kk
theorem g_0_8 (hc : code pc = a_get 11 8 nx) (kk : mm_W D code nx ls (.ref 55 :: r) (fm m) Q) : mm_W D code pc ls (.ref 0 :: r) (fm m) Q := f_getr hc (by decide) rfl rfl kk
theorem g_0_9 (hc : code pc = a_get 11 9 nx) (kk : mm_W D code nx ls (.ref 274 :: r) (fm m) Q) : mm_W D code pc ls (.ref 0 :: r) (fm m) Q := f_getr hc (by decide) rfl rfl kk
theorem g_0_10 (hc : code pc = a_get 11 10 nx) (kk : mm_W D code nx ls (.ref 279 :: r) (fm m) Q) : mm_W D code pc ls (.ref 0 :: r) (fm m) Q := f_getr hc (by decide) rfl rfl kk
theorem g_1_0 (hc : code pc = a_get 8 0 nx) (kk : mm_W D code nx ls (iv (rd m 1 0) :: r) (fm m) Q) : mm_W D code pc ls (.ref 1 :: r) (fm m) Q := f_get hc (by decide) rfl rfl kk
theorem p_1_0 {m2 : Mm} (hc : code pc = a_put 8 0 .int nx) (hm : m2 = wt m 1 0 a) (kk : mm_W D code nx ls r (fm m2) Q) : mm_W D code pc ls (iv a :: .ref 1 :: r) (fm m) Q := f_put hc (by decide) rfl (Nat.le_of_ble_eq_true rfl) rfl hm kk
theorem g_1_1 (hc : code pc = a_get 8 1 nx) (kk : mm_W D code nx ls (.ref 2 :: r) (fm m) Q) : mm_W D code pc ls (.ref 1 :: r) (fm m) Q := f_getr hc (by decide) rfl rfl kk
theorem g_1_2 (hc : code pc = a_get 8 2 nx) (kk : mm_W D code nx ls (.ref 3 :: r) (fm m) Q) : mm_W D code pc ls (.ref 1 :: r) (fm m) Q := f_getr hc (by decide) rfl rfl kk
theorem g_1_3 (hc : code pc = a_get 8 3 nx) (kk : mm_W D code nx ls (.ref 4 :: r) (fm m) Q) : mm_W D code pc ls (.ref 1 :: r) (fm m) Q := f_getr hc (by decide) rfl rfl kk
theorem g_1_4 (hc : code pc = a_get 8 4 nx) (kk : mm_W D code nx ls (.ref 5 :: r) (fm m) Q) : mm_W D code pc ls (.ref 1 :: r) (fm m) Q := f_getr hc (by decide) rfl rfl kk
theorem g_1_5 (hc : code pc = a_get 8 5 nx) (kk : mm_W D code nx ls (.ref 6 :: r) (fm m) Q) : mm_W D code pc ls (.ref 1 :: r) (fm m) Q := f_getr hc (by decide) rfl rfl kk
theorem g_1_6 (hc : code pc = a_get 8 6 nx) (kk : mm_W D code nx ls (iv (rd m 1 6) :: r) (fm m) Q) : mm_W D code pc ls (.ref 1 :: r) (fm m) Q := f_get hc (by decide) rfl rfl kk
theorem p_1_6 {m2 : Mm} (hc : code pc = a_put 8 6 .int nx) (hm : m2 = wt m 1 6 a) (kk : mm_W D code nx ls r (fm m2) Q) : mm_W D code pc ls (iv a :: .ref 1 :: r) (fm m) Q := f_put hc (by decide) rfl (Nat.le_of_ble_eq_true rfl) rfl hm kk
theorem g_7_0 (hc : code pc = a_get 3 0 nx) (kk : mm_W D code nx ls (iv (rd m 7 0) :: r) (fm m) Q) : mm_W D code pc ls (.ref 7 :: r) (fm m) Q := f_get hc (by decide) rfl rfl kk
theorem p_7_0 {m2 : Mm} (hc : code pc = a_put 3 0 .int nx) (hm : m2 = wt m 7 0 a) (kk : mm_W D code nx ls r (fm m2) Q) : mm_W D code pc ls (iv a :: .ref 7 :: r) (fm m) Q := f_put hc (by decide) rfl (Nat.le_of_ble_eq_true rfl) rfl hm kk
theorem g_7_1 (hc : code pc = a_get 3 1 nx) (kk : mm_W D code nx ls (iv (rd m 7 1) :: r) (fm m) Q) : mm_W D code pc ls (.ref 7 :: r) (fm m) Q := f_get hc (by decide) rfl rfl kk
theorem p_7_1 {m2 : Mm} (hc : code pc = a_put 3 1 .int nx) (hm : m2 = wt m 7 1 a) (kk : mm_W D code nx ls r (fm m2) Q) : mm_W D code pc ls (iv a :: .ref 7 :: r) (fm m) Q := f_put hc (by decide) rfl (Nat.le_of_ble_eq_true rfl) rfl hm kk
theorem g_7_2 (hc : code pc = a_get 3 2 nx) (kk : mm_W D code nx ls (iv (rd m 7 2) :: r) (fm m) Q) : mm_W D code pc ls (.ref 7 :: r) (fm m) Q := f_get hc (by decide) rfl rfl kk
theorem p_7_2 {m2 : Mm} (hc : code pc = a_put 3 2 .int nx) (hm : m2 = wt m 7 2 a) (kk : mm_W D code nx ls r (fm m2) Q) : mm_W D code pc ls (iv a :: .ref 7 :: r) (fm m) Q := f_put hc (by decide) rfl (Nat.le_of_ble_eq_true rfl) rfl hm kk
theorem g_7_3 (hc : code pc = a_get 3 3 nx) (kk : mm_W D code nx ls (iv (rd m 7 3) :: r) (fm m) Q) : mm_W D code pc ls (.ref 7 :: r) (fm m) Q := f_get hc (by decide) rfl rfl kk
theorem p_7_3 {m2 : Mm} (hc : code pc = a_put 3 3 .int nx) (hm : m2 = wt m 7 3 a) (kk : mm_W D code nx ls r (fm m2) Q) : mm_W D code pc ls (iv a :: .ref 7 :: r) (fm m) Q := f_put hc (by decide) rfl (Nat.le_of_ble_eq_true rfl) rfl hm kk
theorem g_7_4 (hc : code pc = a_get 3 4 nx) (kk : mm_W D code nx ls (iv (rd m 7 4) :: r) (fm m) Q) : mm_W D code pc ls (.ref 7 :: r) (fm m) Q := f_get hc (by decide) rfl rfl kk
theorem p_7_4 {m2 : Mm} (hc : code pc = a_put 3 4 .int nx) (hm : m2 = wt m 7 4 a) (kk : mm_W D code nx ls r (fm m2) Q) : mm_W D code pc ls (iv a :: .ref 7 :: r) (fm m) Q := f_put hc (by decide) rfl (Nat.le_of_ble_eq_true rfl) rfl hm kk
theorem g_7_5 (hc : code pc = a_get 3 5 nx) (kk : mm_W D code nx ls (.ref 8 :: r) (fm m) Q) : mm_W D code pc ls (.ref 7 :: r) (fm m) Q := f_getr hc (by decide) rfl rfl kk
theorem g_7_6 (hc : code pc = a_get 3 6 nx) (kk : mm_W D code nx ls (.ref 9 :: r) (fm m) Q) : mm_W D code pc ls (.ref 7 :: r) (fm m) Q := f_getr hc (by decide) rfl rfl kk
theorem g_7_7 (hc : code pc = a_get 3 7 nx) (kk : mm_W D code nx ls (.ref 10 :: r) (fm m) Q) : mm_W D code pc ls (.ref 7 :: r) (fm m) Q := f_getr hc (by decide) rfl rfl kk
theorem g_7_8 (hc : code pc = a_get 3 8 nx) (kk : mm_W D code nx ls (.ref 11 :: r) (fm m) Q) : mm_W D code pc ls (.ref 7 :: r) (fm m) Q := f_getr hc (by decide) rfl rfl kk
theorem g_7_9 (hc : code pc = a_get 3 9 nx) (kk : mm_W D code nx ls (.ref 16 :: r) (fm m) Q) : mm_W D code pc ls (.ref 7 :: r) (fm m) Q := f_getr hc (by decide) rfl rfl kk
theorem g_7_10 (hc : code pc = a_get 3 10 nx) (kk : mm_W D code nx ls (.ref 17 :: r) (fm m) Q) : mm_W D code pc ls (.ref 7 :: r) (fm m) Q := f_getr hc (by decide) rfl rfl kk
theorem g_7_11 (hc : code pc = a_get 3 11 nx) (kk : mm_W D code nx ls (.ref 18 :: r) (fm m) Q) : mm_W D code pc ls (.ref 7 :: r) (fm m) Q := f_getr hc (by decide) rfl rfl kk
theorem g_19_0 (hc : code pc = a_get 4 0 nx) (kk : mm_W D code nx ls (iv (rd m 19 0) :: r) (fm m) Q) : mm_W D code pc ls (.ref 19 :: r) (fm m) Q := f_get hc (by decide) rfl rfl kk
theorem p_19_0 {m2 : Mm} (hc : code pc = a_put 4 0 .int nx) (hm : m2 = wt m 19 0 a) (kk : mm_W D code nx ls r (fm m2) Q) : mm_W D code pc ls (iv a :: .ref 19 :: r) (fm m) Q := f_put hc (by decide) rfl (Nat.le_of_ble_eq_true rfl) rfl hm kk
theorem g_19_1 (hc : code pc = a_get 4 1 nx) (kk : mm_W D code nx ls (.ref 1 :: r) (fm m) Q) : mm_W D code pc ls (.ref 19 :: r) (fm m) Q := f_getr hc (by decide) rfl rfl kk
theorem g_19_2 (hc : code pc = a_get 4 2 nx) (kk : mm_W D code nx ls (.ref 7 :: r) (fm m) Q) : mm_W D code pc ls (.ref 19 :: r) (fm m) Q := f_getr hc (by decide) rfl rfl kk
theorem g_19_3 (hc : code pc = a_get 4 3 nx) (kk : mm_W D code nx ls (.ref 20 :: r) (fm m) Q) : mm_W D code pc ls (.ref 19 :: r) (fm m) Q := f_getr hc (by decide) rfl rfl kk
theorem g_19_4 (hc : code pc = a_get 4 4 nx) (kk : mm_W D code nx ls (iv (rd m 19 4) :: r) (fm m) Q) : mm_W D code pc ls (.ref 19 :: r) (fm m) Q := f_get hc (by decide) rfl rfl kk
theorem p_19_4 {m2 : Mm} (hc : code pc = a_put 4 4 .int nx) (hm : m2 = wt m 19 4 a) (kk : mm_W D code nx ls r (fm m2) Q) : mm_W D code pc ls (iv a :: .ref 19 :: r) (fm m) Q := f_put hc (by decide) rfl (Nat.le_of_ble_eq_true rfl) rfl hm kk
theorem g_19_5 (hc : code pc = a_get 4 5 nx) (kk : mm_W D code nx ls (iv (rd m 19 5) :: r) (fm m) Q) : mm_W D code pc ls (.ref 19 :: r) (fm m) Q := f_get hc (by decide) rfl rfl kk
theorem p_19_5 {m2 : Mm} (hc : code pc = a_put 4 5 .int nx) (hm : m2 = wt m 19 5 a) (kk : mm_W D code nx ls r (fm m2) Q) : mm_W D code pc ls (iv a :: .ref 19 :: r) (fm m) Q := f_put hc (by decide) rfl (Nat.le_of_ble_eq_true rfl) rfl hm kk
theorem g_19_6 (hc : code pc = a_get 4 6 nx) (kk : mm_W D code nx ls (iv (rd m 19 6) :: r) (fm m) Q) : mm_W D code pc ls (.ref 19 :: r) (fm m) Q := f_get hc (by decide) rfl rfl kk
theorem p_19_6 {m2 : Mm} (hc : code pc = a_put 4 6 .int nx) (hm : m2 = wt m 19 6 a) (kk : mm_W D code nx ls r (fm m2) Q) : mm_W D code pc ls (iv a :: .ref 19 :: r) (fm m) Q := f_put hc (by decide) rfl (Nat.le_of_ble_eq_true rfl) rfl hm kk
theorem g_19_7 (hc : code pc = a_get 4 7 nx) (kk : mm_W D code nx ls (iv (rd m 19 7) :: r) (fm m) Q) : mm_W D code pc ls (.ref 19 :: r) (fm m) Q := f_get hc (by decide) rfl rfl kk
theorem p_19_7 {m2 : Mm} (hc : code pc = a_put 4 7 .int nx) (hm : m2 = wt m 19 7 a) (kk : mm_W D code nx ls r (fm m2) Q) : mm_W D code pc ls (iv a :: .ref 19 :: r) (fm m) Q := f_put hc (by decide) rfl (Nat.le_of_ble_eq_true rfl) rfl hm kk
theorem g_19_8 (hc : code pc = a_get 4 8 nx) (kk : mm_W D code nx ls (iv (rd m 19 8) :: r) (fm m) Q) : mm_W D code pc ls (.ref 19 :: r) (fm m) Q := f_get hc (by decide) rfl rfl kk
theorem p_19_8 {m2 : Mm} (hc : code pc = a_put 4 8 .int nx) (hm : m2 = wt m 19 8 a) (kk : mm_W D code nx ls r (fm m2) Q) : mm_W D code pc ls (iv a :: .ref 19 :: r) (fm m) Q := f_put hc (by decide) rfl (Nat.le_of_ble_eq_true rfl) rfl hm kk
theorem g_19_9 (hc : code pc = a_get 4 9 nx) (kk : mm_W D code nx ls (iv (rd m 19 9) :: r) (fm m) Q) : mm_W D code pc ls (.ref 19 :: r) (fm m) Q := f_get hc (by decide) rfl rfl kk
theorem p_19_9 {m2 : Mm} (hc : code pc = a_put 4 9 .int nx) (hm : m2 = wt m 19 9 a) (kk : mm_W D code nx ls r (fm m2) Q) : mm_W D code pc ls (iv a :: .ref 19 :: r) (fm m) Q := f_put hc (by decide) rfl (Nat.le_of_ble_eq_true rfl) rfl hm kk
theorem g_19_10 (hc : code pc = a_get 4 10 nx) (kk : mm_W D code nx ls (iv (rd m 19 10) :: r) (fm m) Q) : mm_W D code pc ls (.ref 19 :: r) (fm m) Q := f_get hc (by decide) rfl rfl kk
theorem p_19_10 {m2 : Mm} (hc : code pc = a_put 4 10 .int nx) (hm : m2 = wt m 19 10 a) (kk : mm_W D code nx ls r (fm m2) Q) : mm_W D code pc ls (iv a :: .ref 19 :: r) (fm m) Q := f_put hc (by decide) rfl (Nat.le_of_ble_eq_true rfl) rfl hm kk
theorem g_19_11 (hc : code pc = a_get 4 11 nx) (kk : mm_W D code nx ls (iv (rd m 19 11) :: r) (fm m) Q) : mm_W D code pc ls (.ref 19 :: r) (fm m) Q := f_get hc (by decide) rfl rfl kk
theorem p_19_11 {m2 : Mm} (hc : code pc = a_put 4 11 .int nx) (hm : m2 = wt m 19 11 a) (kk : mm_W D code nx ls r (fm m2) Q) : mm_W D code pc ls (iv a :: .ref 19 :: r) (fm m) Q := f_put hc (by decide) rfl (Nat.le_of_ble_eq_true rfl) rfl hm kk
theorem g_19_12 (hc : code pc = a_get 4 12 nx) (kk : mm_W D code nx ls (iv (rd m 19 12) :: r) (fm m) Q) : mm_W D code pc ls (.ref 19 :: r) (fm m) Q := f_get hc (by decide) rfl rfl kk
theorem p_19_12 {m2 : Mm} (hc : code pc = a_put 4 12 .int nx) (hm : m2 = wt m 19 12 a) (kk : mm_W D code nx ls r (fm m2) Q) : mm_W D code pc ls (iv a :: .ref 19 :: r) (fm m) Q := f_put hc (by decide) rfl (Nat.le_of_ble_eq_true rfl) rfl hm kk
theorem g_19_13 (hc : code pc = a_get 4 13 nx) (kk : mm_W D code nx ls (iv (rd m 19 13) :: r) (fm m) Q) : mm_W D code pc ls (.ref 19 :: r) (fm m) Q := f_get hc (by decide) rfl rfl kk
theorem p_19_13 {m2 : Mm} (hc : code pc = a_put 4 13 .int nx) (hm : m2 = wt m 19 13 a) (kk : mm_W D code nx ls r (fm m2) Q) : mm_W D code pc ls (iv a :: .ref 19 :: r) (fm m) Q := f_put hc (by decide) rfl (Nat.le_of_ble_eq_true rfl) rfl hm kk
theorem g_19_14 (hc : code pc = a_get 4 14 nx) (kk : mm_W D code nx ls (.ref 25 :: r) (fm m) Q) : mm_W D code pc ls (.ref 19 :: r) (fm m) Q := f_getr hc (by decide) rfl rfl kk
theorem g_19_15 (hc : code pc = a_get 4 15 nx) (kk : mm_W D code nx ls (.ref 26 :: r) (fm m) Q) : mm_W D code pc ls (.ref 19 :: r) (fm m) Q := f_getr hc (by decide) rfl rfl kk
theorem g_19_16 (hc : code pc = a_get 4 16 nx) (kk : mm_W D code nx ls (.ref 27 :: r) (fm m) Q) : mm_W D code pc ls (.ref 19 :: r) (fm m) Q := f_getr hc (by decide) rfl rfl kk
theorem g_19_17 (hc : code pc = a_get 4 17 nx) (kk : mm_W D code nx ls (.ref 28 :: r) (fm m) Q) : mm_W D code pc ls (.ref 19 :: r) (fm m) Q := f_getr hc (by decide) rfl rfl kk
theorem g_19_18 (hc : code pc = a_get 4 18 nx) (kk : mm_W D code nx ls (.ref 29 :: r) (fm m) Q) : mm_W D code pc ls (.ref 19 :: r) (fm m) Q := f_getr hc (by decide) rfl rfl kk
theorem g_30_0 (hc : code pc = a_get 0 0 nx) (kk : mm_W D code nx ls (.ref 7 :: r) (fm m) Q) : mm_W D code pc ls (.ref 30 :: r) (fm m) Q := f_getr hc (by decide) rfl rfl kk
theorem g_31_0 (hc : code pc = a_get 9 0 nx) (kk : mm_W D code nx ls (.ref 32 :: r) (fm m) Q) : mm_W D code pc ls (.ref 31 :: r) (fm m) Q := f_getr hc (by decide) rfl rfl kk
theorem g_31_1 (hc : code pc = a_get 9 1 nx) (kk : mm_W D code nx ls (.ref 33 :: r) (fm m) Q) : mm_W D code pc ls (.ref 31 :: r) (fm m) Q := f_getr hc (by decide) rfl rfl kk
theorem g_31_2 (hc : code pc = a_get 9 2 nx) (kk : mm_W D code nx ls (.ref 34 :: r) (fm m) Q) : mm_W D code pc ls (.ref 31 :: r) (fm m) Q := f_getr hc (by decide) rfl rfl kk
theorem g_31_3 (hc : code pc = a_get 9 3 nx) (kk : mm_W D code nx ls (.ref 35 :: r) (fm m) Q) : mm_W D code pc ls (.ref 31 :: r) (fm m) Q := f_getr hc (by decide) rfl rfl kk
theorem g_36_0 (hc : code pc = a_get 6 0 nx) (kk : mm_W D code nx ls (.ref 7 :: r) (fm m) Q) : mm_W D code pc ls (.ref 36 :: r) (fm m) Q := f_getr hc (by decide) rfl rfl kk
theorem g_36_1 (hc : code pc = a_get 6 1 nx) (kk : mm_W D code nx ls (iv (rd m 36 1) :: r) (fm m) Q) : mm_W D code pc ls (.ref 36 :: r) (fm m) Q := f_get hc (by decide) rfl rfl kk
theorem p_36_1 {m2 : Mm} (hc : code pc = a_put 6 1 .int nx) (hm : m2 = wt m 36 1 a) (kk : mm_W D code nx ls r (fm m2) Q) : mm_W D code pc ls (iv a :: .ref 36 :: r) (fm m) Q := f_put hc (by decide) rfl (Nat.le_of_ble_eq_true rfl) rfl hm kk
theorem g_36_2 (hc : code pc = a_get 6 2 nx) (kk : mm_W D code nx ls (.ref 31 :: r) (fm m) Q) : mm_W D code pc ls (.ref 36 :: r) (fm m) Q := f_getr hc (by decide) rfl rfl kk
theorem g_36_3 (hc : code pc = a_get 6 3 nx) (kk : mm_W D code nx ls (.ref 37 :: r) (fm m) Q) : mm_W D code pc ls (.ref 36 :: r) (fm m) Q := f_getr hc (by decide) rfl rfl kk
theorem g_36_4 (hc : code pc = a_get 6 4 nx) (kk : mm_W D code nx ls (.ref 38 :: r) (fm m) Q) : mm_W D code pc ls (.ref 36 :: r) (fm m) Q := f_getr hc (by decide) rfl rfl kk
theorem g_39_0 (hc : code pc = a_get 10 0 nx) (kk : mm_W D code nx ls (iv (rd m 39 0) :: r) (fm m) Q) : mm_W D code pc ls (.ref 39 :: r) (fm m) Q := f_get hc (by decide) rfl rfl kk
theorem p_39_0 {m2 : Mm} (hc : code pc = a_put 10 0 .int nx) (hm : m2 = wt m 39 0 a) (kk : mm_W D code nx ls r (fm m2) Q) : mm_W D code pc ls (iv a :: .ref 39 :: r) (fm m) Q := f_put hc (by decide) rfl (Nat.le_of_ble_eq_true rfl) rfl hm kk
theorem g_39_1 (hc : code pc = a_get 10 1 nx) (kk : mm_W D code nx ls (.ref 36 :: r) (fm m) Q) : mm_W D code pc ls (.ref 39 :: r) (fm m) Q := f_getr hc (by decide) rfl rfl kk
theorem g_39_2 (hc : code pc = a_get 10 2 nx) (kk : mm_W D code nx ls (.ref 30 :: r) (fm m) Q) : mm_W D code pc ls (.ref 39 :: r) (fm m) Q := f_getr hc (by decide) rfl rfl kk
theorem g_39_3 (hc : code pc = a_get 10 3 nx) (kk : mm_W D code nx ls (.ref 40 :: r) (fm m) Q) : mm_W D code pc ls (.ref 39 :: r) (fm m) Q := f_getr hc (by decide) rfl rfl kk
theorem g_39_4 (hc : code pc = a_get 10 4 nx) (kk : mm_W D code nx ls (.ref 41 :: r) (fm m) Q) : mm_W D code pc ls (.ref 39 :: r) (fm m) Q := f_getr hc (by decide) rfl rfl kk
theorem g_39_5 (hc : code pc = a_get 10 5 nx) (kk : mm_W D code nx ls (.ref 42 :: r) (fm m) Q) : mm_W D code pc ls (.ref 39 :: r) (fm m) Q := f_getr hc (by decide) rfl rfl kk
theorem g_39_6 (hc : code pc = a_get 10 6 nx) (kk : mm_W D code nx ls (.ref 43 :: r) (fm m) Q) : mm_W D code pc ls (.ref 39 :: r) (fm m) Q := f_getr hc (by decide) rfl rfl kk
theorem g_39_7 (hc : code pc = a_get 10 7 nx) (kk : mm_W D code nx ls (.ref (Int.toNat (rd m 39 7)) :: r) (fm m) Q) : mm_W D code pc ls (.ref 39 :: r) (fm m) Q := f_getr hc (by decide) rfl rfl kk
theorem p_39_7 {m2 : Mm} {c : Nat} (hcc : c < 341) (hc : code pc = a_put 10 7 (.array .int) nx) (hm : m2 = wt m 39 7 (c : Int)) (kk : mm_W D code nx ls r (fm m2) Q) : mm_W D code pc ls (.ref c :: .ref 39 :: r) (fm m) Q := by
  have e : (Int32.ofInt (c : Int)).toInt.toNat = c := by rw [to_of_rg ⟨by omega, by omega⟩]; omega
  have he : ck 39 (u1 (m.1 39) 7 (Int32.ofInt c)) (m.2 39) = .inl (10, [.int (u1 (m.1 39) 7 (Int32.ofInt c) 0), .ref 36, .ref 30, .ref 40, .ref 41, .ref 42, .ref 43, .ref c, .ref (u1 (m.1 39) 7 (Int32.ofInt c) 8).toInt.toNat, .ref 46, .ref 47, .ref 48, .int (u1 (m.1 39) 7 (Int32.ofInt c) 12)]) := congrArg (fun q => (Sum.inl (10, [.int (u1 (m.1 39) 7 (Int32.ofInt c) 0), .ref 36, .ref 30, .ref 40, .ref 41, .ref 42, .ref 43, .ref q, .ref (u1 (m.1 39) 7 (Int32.ofInt c) 8).toInt.toNat, .ref 46, .ref 47, .ref 48, .int (u1 (m.1 39) 7 (Int32.ofInt c) 12)]) : mm_C)) e
  exact f_putr hc (by decide) rfl (Nat.le_of_ble_eq_true rfl) he hm kk
theorem g_39_8 (hc : code pc = a_get 10 8 nx) (kk : mm_W D code nx ls (.ref (Int.toNat (rd m 39 8)) :: r) (fm m) Q) : mm_W D code pc ls (.ref 39 :: r) (fm m) Q := f_getr hc (by decide) rfl rfl kk
theorem p_39_8 {m2 : Mm} {c : Nat} (hcc : c < 341) (hc : code pc = a_put 10 8 (.array .int) nx) (hm : m2 = wt m 39 8 (c : Int)) (kk : mm_W D code nx ls r (fm m2) Q) : mm_W D code pc ls (.ref c :: .ref 39 :: r) (fm m) Q := by
  have e : (Int32.ofInt (c : Int)).toInt.toNat = c := by rw [to_of_rg ⟨by omega, by omega⟩]; omega
  have he : ck 39 (u1 (m.1 39) 8 (Int32.ofInt c)) (m.2 39) = .inl (10, [.int (u1 (m.1 39) 8 (Int32.ofInt c) 0), .ref 36, .ref 30, .ref 40, .ref 41, .ref 42, .ref 43, .ref (u1 (m.1 39) 8 (Int32.ofInt c) 7).toInt.toNat, .ref c, .ref 46, .ref 47, .ref 48, .int (u1 (m.1 39) 8 (Int32.ofInt c) 12)]) := congrArg (fun q => (Sum.inl (10, [.int (u1 (m.1 39) 8 (Int32.ofInt c) 0), .ref 36, .ref 30, .ref 40, .ref 41, .ref 42, .ref 43, .ref (u1 (m.1 39) 8 (Int32.ofInt c) 7).toInt.toNat, .ref q, .ref 46, .ref 47, .ref 48, .int (u1 (m.1 39) 8 (Int32.ofInt c) 12)]) : mm_C)) e
  exact f_putr hc (by decide) rfl (Nat.le_of_ble_eq_true rfl) he hm kk
theorem g_39_9 (hc : code pc = a_get 10 9 nx) (kk : mm_W D code nx ls (.ref 46 :: r) (fm m) Q) : mm_W D code pc ls (.ref 39 :: r) (fm m) Q := f_getr hc (by decide) rfl rfl kk
theorem g_39_10 (hc : code pc = a_get 10 10 nx) (kk : mm_W D code nx ls (.ref 47 :: r) (fm m) Q) : mm_W D code pc ls (.ref 39 :: r) (fm m) Q := f_getr hc (by decide) rfl rfl kk
theorem g_39_11 (hc : code pc = a_get 10 11 nx) (kk : mm_W D code nx ls (.ref 48 :: r) (fm m) Q) : mm_W D code pc ls (.ref 39 :: r) (fm m) Q := f_getr hc (by decide) rfl rfl kk
theorem g_39_12 (hc : code pc = a_get 10 12 nx) (kk : mm_W D code nx ls (iv (rd m 39 12) :: r) (fm m) Q) : mm_W D code pc ls (.ref 39 :: r) (fm m) Q := f_get hc (by decide) rfl rfl kk
theorem p_39_12 {m2 : Mm} (hc : code pc = a_put 10 12 .int nx) (hm : m2 = wt m 39 12 a) (kk : mm_W D code nx ls r (fm m2) Q) : mm_W D code pc ls (iv a :: .ref 39 :: r) (fm m) Q := f_put hc (by decide) rfl (Nat.le_of_ble_eq_true rfl) rfl hm kk
theorem g_49_0 (hc : code pc = a_get 5 0 nx) (kk : mm_W D code nx ls (iv (rd m 49 0) :: r) (fm m) Q) : mm_W D code pc ls (.ref 49 :: r) (fm m) Q := f_get hc (by decide) rfl rfl kk
theorem p_49_0 {m2 : Mm} (hc : code pc = a_put 5 0 .int nx) (hm : m2 = wt m 49 0 a) (kk : mm_W D code nx ls r (fm m2) Q) : mm_W D code pc ls (iv a :: .ref 49 :: r) (fm m) Q := f_put hc (by decide) rfl (Nat.le_of_ble_eq_true rfl) rfl hm kk
theorem g_49_1 (hc : code pc = a_get 5 1 nx) (kk : mm_W D code nx ls (iv (rd m 49 1) :: r) (fm m) Q) : mm_W D code pc ls (.ref 49 :: r) (fm m) Q := f_get hc (by decide) rfl rfl kk
theorem p_49_1 {m2 : Mm} (hc : code pc = a_put 5 1 .int nx) (hm : m2 = wt m 49 1 a) (kk : mm_W D code nx ls r (fm m2) Q) : mm_W D code pc ls (iv a :: .ref 49 :: r) (fm m) Q := f_put hc (by decide) rfl (Nat.le_of_ble_eq_true rfl) rfl hm kk
theorem g_49_2 (hc : code pc = a_get 5 2 nx) (kk : mm_W D code nx ls (iv (rd m 49 2) :: r) (fm m) Q) : mm_W D code pc ls (.ref 49 :: r) (fm m) Q := f_get hc (by decide) rfl rfl kk
theorem p_49_2 {m2 : Mm} (hc : code pc = a_put 5 2 .int nx) (hm : m2 = wt m 49 2 a) (kk : mm_W D code nx ls r (fm m2) Q) : mm_W D code pc ls (iv a :: .ref 49 :: r) (fm m) Q := f_put hc (by decide) rfl (Nat.le_of_ble_eq_true rfl) rfl hm kk
theorem g_49_3 (hc : code pc = a_get 5 3 nx) (kk : mm_W D code nx ls (.ref 36 :: r) (fm m) Q) : mm_W D code pc ls (.ref 49 :: r) (fm m) Q := f_getr hc (by decide) rfl rfl kk
theorem g_49_4 (hc : code pc = a_get 5 4 nx) (kk : mm_W D code nx ls (.ref 50 :: r) (fm m) Q) : mm_W D code pc ls (.ref 49 :: r) (fm m) Q := f_getr hc (by decide) rfl rfl kk
theorem g_49_5 (hc : code pc = a_get 5 5 nx) (kk : mm_W D code nx ls (.ref 51 :: r) (fm m) Q) : mm_W D code pc ls (.ref 49 :: r) (fm m) Q := f_getr hc (by decide) rfl rfl kk
theorem g_49_6 (hc : code pc = a_get 5 6 nx) (kk : mm_W D code nx ls (.ref 52 :: r) (fm m) Q) : mm_W D code pc ls (.ref 49 :: r) (fm m) Q := f_getr hc (by decide) rfl rfl kk
theorem g_49_7 (hc : code pc = a_get 5 7 nx) (kk : mm_W D code nx ls (.ref 53 :: r) (fm m) Q) : mm_W D code pc ls (.ref 49 :: r) (fm m) Q := f_getr hc (by decide) rfl rfl kk
theorem g_49_8 (hc : code pc = a_get 5 8 nx) (kk : mm_W D code nx ls (.ref 54 :: r) (fm m) Q) : mm_W D code pc ls (.ref 49 :: r) (fm m) Q := f_getr hc (by decide) rfl rfl kk
theorem g_49_9 (hc : code pc = a_get 5 9 nx) (kk : mm_W D code nx ls (iv (rd m 49 9) :: r) (fm m) Q) : mm_W D code pc ls (.ref 49 :: r) (fm m) Q := f_get hc (by decide) rfl rfl kk
theorem p_49_9 {m2 : Mm} (hc : code pc = a_put 5 9 .int nx) (hm : m2 = wt m 49 9 a) (kk : mm_W D code nx ls r (fm m2) Q) : mm_W D code pc ls (iv a :: .ref 49 :: r) (fm m) Q := f_put hc (by decide) rfl (Nat.le_of_ble_eq_true rfl) rfl hm kk
theorem g_49_10 (hc : code pc = a_get 5 10 nx) (kk : mm_W D code nx ls (iv (rd m 49 10) :: r) (fm m) Q) : mm_W D code pc ls (.ref 49 :: r) (fm m) Q := f_get hc (by decide) rfl rfl kk
theorem p_49_10 {m2 : Mm} (hc : code pc = a_put 5 10 .int nx) (hm : m2 = wt m 49 10 a) (kk : mm_W D code nx ls r (fm m2) Q) : mm_W D code pc ls (iv a :: .ref 49 :: r) (fm m) Q := f_put hc (by decide) rfl (Nat.le_of_ble_eq_true rfl) rfl hm kk
theorem f_len52 (hc : code pc = a_alen mm_xt nx) (kk : mm_W D code nx ls (iv 20 :: r) (fm m) Q) : mm_W D code pc ls (.ref 52 :: r) (fm m) Q := by
  refine w_st (fun F => ?_) kk
  have e3 : mm_hg (fm m) 52 = some (.inr (.boolean, ra 20 (m.1 52))) := (hp_get (by decide)).trans rfl
  have e4 : mm_ty .boolean = true := rfl
  have e2 : Nat.blt 52 1000 = true := rfl
  rw [hc]
  simp only [a_alen, e2, cond_true, e3, e4, ra_len, mm_fI_eq]
  rfl
theorem g_55_0 (hc : code pc = a_get 2 0 nx) (kk : mm_W D code nx ls (iv (rd m 55 0) :: r) (fm m) Q) : mm_W D code pc ls (.ref 55 :: r) (fm m) Q := f_get hc (by decide) rfl rfl kk
theorem p_55_0 {m2 : Mm} (hc : code pc = a_put 2 0 .int nx) (hm : m2 = wt m 55 0 a) (kk : mm_W D code nx ls r (fm m2) Q) : mm_W D code pc ls (iv a :: .ref 55 :: r) (fm m) Q := f_put hc (by decide) rfl (Nat.le_of_ble_eq_true rfl) rfl hm kk
theorem g_55_1 (hc : code pc = a_get 2 1 nx) (kk : mm_W D code nx ls (.ref 56 :: r) (fm m) Q) : mm_W D code pc ls (.ref 55 :: r) (fm m) Q := f_getr hc (by decide) rfl rfl kk
theorem g_55_2 (hc : code pc = a_get 2 2 nx) (kk : mm_W D code nx ls (.ref 57 :: r) (fm m) Q) : mm_W D code pc ls (.ref 55 :: r) (fm m) Q := f_getr hc (by decide) rfl rfl kk
theorem g_55_3 (hc : code pc = a_get 2 3 nx) (kk : mm_W D code nx ls (.ref 58 :: r) (fm m) Q) : mm_W D code pc ls (.ref 55 :: r) (fm m) Q := f_getr hc (by decide) rfl rfl kk
theorem g_55_4 (hc : code pc = a_get 2 4 nx) (kk : mm_W D code nx ls (iv (rd m 55 4) :: r) (fm m) Q) : mm_W D code pc ls (.ref 55 :: r) (fm m) Q := f_get hc (by decide) rfl rfl kk
theorem p_55_4 {m2 : Mm} (hc : code pc = a_put 2 4 .int nx) (hm : m2 = wt m 55 4 a) (kk : mm_W D code nx ls r (fm m2) Q) : mm_W D code pc ls (iv a :: .ref 55 :: r) (fm m) Q := f_put hc (by decide) rfl (Nat.le_of_ble_eq_true rfl) rfl hm kk
theorem f_len58 (hc : code pc = a_alen mm_xt nx) (kk : mm_W D code nx ls (iv 3 :: r) (fm m) Q) : mm_W D code pc ls (.ref 58 :: r) (fm m) Q := by
  refine w_st (fun F => ?_) kk
  have e3 : mm_hg (fm m) 58 = some (.inr (.boolean, ra 3 (m.1 58))) := (hp_get (by decide)).trans rfl
  have e4 : mm_ty .boolean = true := rfl
  have e2 : Nat.blt 58 1000 = true := rfl
  rw [hc]
  simp only [a_alen, e2, cond_true, e3, e4, ra_len, mm_fI_eq]
  rfl
theorem g_284_0 (hc : code pc = a_get 12 0 nx) (kk : mm_W D code nx ls (iv (rd m 284 0) :: r) (fm m) Q) : mm_W D code pc ls (.ref 284 :: r) (fm m) Q := f_get hc (by decide) rfl rfl kk
theorem p_284_0 {m2 : Mm} (hc : code pc = a_put 12 0 .int nx) (hm : m2 = wt m 284 0 a) (kk : mm_W D code nx ls r (fm m2) Q) : mm_W D code pc ls (iv a :: .ref 284 :: r) (fm m) Q := f_put hc (by decide) rfl (Nat.le_of_ble_eq_true rfl) rfl hm kk
theorem g_284_1 (hc : code pc = a_get 12 1 nx) (kk : mm_W D code nx ls (.ref 285 :: r) (fm m) Q) : mm_W D code pc ls (.ref 284 :: r) (fm m) Q := f_getr hc (by decide) rfl rfl kk
theorem g_284_2 (hc : code pc = a_get 12 2 nx) (kk : mm_W D code nx ls (iv (rd m 284 2) :: r) (fm m) Q) : mm_W D code pc ls (.ref 284 :: r) (fm m) Q := f_get hc (by decide) rfl rfl kk
theorem p_284_2 {m2 : Mm} (hc : code pc = a_put 12 2 .int nx) (hm : m2 = wt m 284 2 a) (kk : mm_W D code nx ls r (fm m2) Q) : mm_W D code pc ls (iv a :: .ref 284 :: r) (fm m) Q := f_put hc (by decide) rfl (Nat.le_of_ble_eq_true rfl) rfl hm kk
theorem g_284_3 (hc : code pc = a_get 12 3 nx) (kk : mm_W D code nx ls (.ref 286 :: r) (fm m) Q) : mm_W D code pc ls (.ref 284 :: r) (fm m) Q := f_getr hc (by decide) rfl rfl kk
theorem g_284_4 (hc : code pc = a_get 12 4 nx) (kk : mm_W D code nx ls (iv (rd m 284 4) :: r) (fm m) Q) : mm_W D code pc ls (.ref 284 :: r) (fm m) Q := f_get hc (by decide) rfl rfl kk
theorem p_284_4 {m2 : Mm} (hc : code pc = a_put 12 4 .int nx) (hm : m2 = wt m 284 4 a) (kk : mm_W D code nx ls r (fm m2) Q) : mm_W D code pc ls (iv a :: .ref 284 :: r) (fm m) Q := f_put hc (by decide) rfl (Nat.le_of_ble_eq_true rfl) rfl hm kk
theorem g_284_5 (hc : code pc = a_get 12 5 nx) (kk : mm_W D code nx ls (.ref 287 :: r) (fm m) Q) : mm_W D code pc ls (.ref 284 :: r) (fm m) Q := f_getr hc (by decide) rfl rfl kk
theorem g_284_6 (hc : code pc = a_get 12 6 nx) (kk : mm_W D code nx ls (.ref 288 :: r) (fm m) Q) : mm_W D code pc ls (.ref 284 :: r) (fm m) Q := f_getr hc (by decide) rfl rfl kk
theorem g_284_7 (hc : code pc = a_get 12 7 nx) (kk : mm_W D code nx ls (.ref 289 :: r) (fm m) Q) : mm_W D code pc ls (.ref 284 :: r) (fm m) Q := f_getr hc (by decide) rfl rfl kk
theorem g_284_8 (hc : code pc = a_get 12 8 nx) (kk : mm_W D code nx ls (.ref 290 :: r) (fm m) Q) : mm_W D code pc ls (.ref 284 :: r) (fm m) Q := f_getr hc (by decide) rfl rfl kk
theorem g_284_9 (hc : code pc = a_get 12 9 nx) (kk : mm_W D code nx ls (.ref 291 :: r) (fm m) Q) : mm_W D code pc ls (.ref 284 :: r) (fm m) Q := f_getr hc (by decide) rfl rfl kk
theorem g_284_10 (hc : code pc = a_get 12 10 nx) (kk : mm_W D code nx ls (iv (rd m 284 10) :: r) (fm m) Q) : mm_W D code pc ls (.ref 284 :: r) (fm m) Q := f_get hc (by decide) rfl rfl kk
theorem p_284_10 {m2 : Mm} (hc : code pc = a_put 12 10 .int nx) (hm : m2 = wt m 284 10 a) (kk : mm_W D code nx ls r (fm m2) Q) : mm_W D code pc ls (iv a :: .ref 284 :: r) (fm m) Q := f_put hc (by decide) rfl (Nat.le_of_ble_eq_true rfl) rfl hm kk
theorem g_284_11 (hc : code pc = a_get 12 11 nx) (kk : mm_W D code nx ls (iv (rd m 284 11) :: r) (fm m) Q) : mm_W D code pc ls (.ref 284 :: r) (fm m) Q := f_get hc (by decide) rfl rfl kk
theorem p_284_11 {m2 : Mm} (hc : code pc = a_put 12 11 .int nx) (hm : m2 = wt m 284 11 a) (kk : mm_W D code nx ls r (fm m2) Q) : mm_W D code pc ls (iv a :: .ref 284 :: r) (fm m) Q := f_put hc (by decide) rfl (Nat.le_of_ble_eq_true rfl) rfl hm kk
theorem g_284_12 (hc : code pc = a_get 12 12 nx) (kk : mm_W D code nx ls (iv (rd m 284 12) :: r) (fm m) Q) : mm_W D code pc ls (.ref 284 :: r) (fm m) Q := f_get hc (by decide) rfl rfl kk
theorem p_284_12 {m2 : Mm} (hc : code pc = a_put 12 12 .int nx) (hm : m2 = wt m 284 12 a) (kk : mm_W D code nx ls r (fm m2) Q) : mm_W D code pc ls (iv a :: .ref 284 :: r) (fm m) Q := f_put hc (by decide) rfl (Nat.le_of_ble_eq_true rfl) rfl hm kk
theorem g_284_13 (hc : code pc = a_get 12 13 nx) (kk : mm_W D code nx ls (iv (rd m 284 13) :: r) (fm m) Q) : mm_W D code pc ls (.ref 284 :: r) (fm m) Q := f_get hc (by decide) rfl rfl kk
theorem p_284_13 {m2 : Mm} (hc : code pc = a_put 12 13 .int nx) (hm : m2 = wt m 284 13 a) (kk : mm_W D code nx ls r (fm m2) Q) : mm_W D code pc ls (iv a :: .ref 284 :: r) (fm m) Q := f_put hc (by decide) rfl (Nat.le_of_ble_eq_true rfl) rfl hm kk
theorem g_284_14 (hc : code pc = a_get 12 14 nx) (kk : mm_W D code nx ls (iv (rd m 284 14) :: r) (fm m) Q) : mm_W D code pc ls (.ref 284 :: r) (fm m) Q := f_get hc (by decide) rfl rfl kk
theorem p_284_14 {m2 : Mm} (hc : code pc = a_put 12 14 .int nx) (hm : m2 = wt m 284 14 a) (kk : mm_W D code nx ls r (fm m2) Q) : mm_W D code pc ls (iv a :: .ref 284 :: r) (fm m) Q := f_put hc (by decide) rfl (Nat.le_of_ble_eq_true rfl) rfl hm kk
theorem g_284_15 (hc : code pc = a_get 12 15 nx) (kk : mm_W D code nx ls (iv (rd m 284 15) :: r) (fm m) Q) : mm_W D code pc ls (.ref 284 :: r) (fm m) Q := f_get hc (by decide) rfl rfl kk
theorem p_284_15 {m2 : Mm} (hc : code pc = a_put 12 15 .int nx) (hm : m2 = wt m 284 15 a) (kk : mm_W D code nx ls r (fm m2) Q) : mm_W D code pc ls (iv a :: .ref 284 :: r) (fm m) Q := f_put hc (by decide) rfl (Nat.le_of_ble_eq_true rfl) rfl hm kk
theorem g_284_16 (hc : code pc = a_get 12 16 nx) (kk : mm_W D code nx ls (iv (rd m 284 16) :: r) (fm m) Q) : mm_W D code pc ls (.ref 284 :: r) (fm m) Q := f_get hc (by decide) rfl rfl kk
theorem p_284_16 {m2 : Mm} (hc : code pc = a_put 12 16 .int nx) (hm : m2 = wt m 284 16 a) (kk : mm_W D code nx ls r (fm m2) Q) : mm_W D code pc ls (iv a :: .ref 284 :: r) (fm m) Q := f_put hc (by decide) rfl (Nat.le_of_ble_eq_true rfl) rfl hm kk
theorem g_284_17 (hc : code pc = a_get 12 17 nx) (kk : mm_W D code nx ls (iv (rd m 284 17) :: r) (fm m) Q) : mm_W D code pc ls (.ref 284 :: r) (fm m) Q := f_get hc (by decide) rfl rfl kk
theorem p_284_17 {m2 : Mm} (hc : code pc = a_put 12 17 .int nx) (hm : m2 = wt m 284 17 a) (kk : mm_W D code nx ls r (fm m2) Q) : mm_W D code pc ls (iv a :: .ref 284 :: r) (fm m) Q := f_put hc (by decide) rfl (Nat.le_of_ble_eq_true rfl) rfl hm kk
theorem g_284_18 (hc : code pc = a_get 12 18 nx) (kk : mm_W D code nx ls (iv (rd m 284 18) :: r) (fm m) Q) : mm_W D code pc ls (.ref 284 :: r) (fm m) Q := f_get hc (by decide) rfl rfl kk
theorem p_284_18 {m2 : Mm} (hc : code pc = a_put 12 18 .int nx) (hm : m2 = wt m 284 18 a) (kk : mm_W D code nx ls r (fm m2) Q) : mm_W D code pc ls (iv a :: .ref 284 :: r) (fm m) Q := f_put hc (by decide) rfl (Nat.le_of_ble_eq_true rfl) rfl hm kk
theorem g_284_19 (hc : code pc = a_get 12 19 nx) (kk : mm_W D code nx ls (iv (rd m 284 19) :: r) (fm m) Q) : mm_W D code pc ls (.ref 284 :: r) (fm m) Q := f_get hc (by decide) rfl rfl kk
theorem p_284_19 {m2 : Mm} (hc : code pc = a_put 12 19 .int nx) (hm : m2 = wt m 284 19 a) (kk : mm_W D code nx ls r (fm m2) Q) : mm_W D code pc ls (iv a :: .ref 284 :: r) (fm m) Q := f_put hc (by decide) rfl (Nat.le_of_ble_eq_true rfl) rfl hm kk
theorem g_284_20 (hc : code pc = a_get 12 20 nx) (kk : mm_W D code nx ls (iv (rd m 284 20) :: r) (fm m) Q) : mm_W D code pc ls (.ref 284 :: r) (fm m) Q := f_get hc (by decide) rfl rfl kk
theorem p_284_20 {m2 : Mm} (hc : code pc = a_put 12 20 .int nx) (hm : m2 = wt m 284 20 a) (kk : mm_W D code nx ls r (fm m2) Q) : mm_W D code pc ls (iv a :: .ref 284 :: r) (fm m) Q := f_put hc (by decide) rfl (Nat.le_of_ble_eq_true rfl) rfl hm kk
theorem g_284_21 (hc : code pc = a_get 12 21 nx) (kk : mm_W D code nx ls (.ref 292 :: r) (fm m) Q) : mm_W D code pc ls (.ref 284 :: r) (fm m) Q := f_getr hc (by decide) rfl rfl kk
theorem g_284_22 (hc : code pc = a_get 12 22 nx) (kk : mm_W D code nx ls (.ref 293 :: r) (fm m) Q) : mm_W D code pc ls (.ref 284 :: r) (fm m) Q := f_getr hc (by decide) rfl rfl kk
theorem g_284_23 (hc : code pc = a_get 12 23 nx) (kk : mm_W D code nx ls (.ref 294 :: r) (fm m) Q) : mm_W D code pc ls (.ref 284 :: r) (fm m) Q := f_getr hc (by decide) rfl rfl kk
theorem g_284_24 (hc : code pc = a_get 12 24 nx) (kk : mm_W D code nx ls (.ref 295 :: r) (fm m) Q) : mm_W D code pc ls (.ref 284 :: r) (fm m) Q := f_getr hc (by decide) rfl rfl kk
theorem g_284_25 (hc : code pc = a_get 12 25 nx) (kk : mm_W D code nx ls (.ref 296 :: r) (fm m) Q) : mm_W D code pc ls (.ref 284 :: r) (fm m) Q := f_getr hc (by decide) rfl rfl kk
theorem g_284_26 (hc : code pc = a_get 12 26 nx) (kk : mm_W D code nx ls (.ref 297 :: r) (fm m) Q) : mm_W D code pc ls (.ref 284 :: r) (fm m) Q := f_getr hc (by decide) rfl rfl kk
theorem g_284_27 (hc : code pc = a_get 12 27 nx) (kk : mm_W D code nx ls (.ref 298 :: r) (fm m) Q) : mm_W D code pc ls (.ref 284 :: r) (fm m) Q := f_getr hc (by decide) rfl rfl kk
theorem g_284_28 (hc : code pc = a_get 12 28 nx) (kk : mm_W D code nx ls (.ref 299 :: r) (fm m) Q) : mm_W D code pc ls (.ref 284 :: r) (fm m) Q := f_getr hc (by decide) rfl rfl kk
theorem g_284_29 (hc : code pc = a_get 12 29 nx) (kk : mm_W D code nx ls (.ref 300 :: r) (fm m) Q) : mm_W D code pc ls (.ref 284 :: r) (fm m) Q := f_getr hc (by decide) rfl rfl kk
theorem g_284_30 (hc : code pc = a_get 12 30 nx) (kk : mm_W D code nx ls (.ref 301 :: r) (fm m) Q) : mm_W D code pc ls (.ref 284 :: r) (fm m) Q := f_getr hc (by decide) rfl rfl kk
theorem g_284_31 (hc : code pc = a_get 12 31 nx) (kk : mm_W D code nx ls (.ref 302 :: r) (fm m) Q) : mm_W D code pc ls (.ref 284 :: r) (fm m) Q := f_getr hc (by decide) rfl rfl kk
theorem g_284_32 (hc : code pc = a_get 12 32 nx) (kk : mm_W D code nx ls (.ref 303 :: r) (fm m) Q) : mm_W D code pc ls (.ref 284 :: r) (fm m) Q := f_getr hc (by decide) rfl rfl kk
theorem g_284_33 (hc : code pc = a_get 12 33 nx) (kk : mm_W D code nx ls (.ref 304 :: r) (fm m) Q) : mm_W D code pc ls (.ref 284 :: r) (fm m) Q := f_getr hc (by decide) rfl rfl kk
theorem g_284_34 (hc : code pc = a_get 12 34 nx) (kk : mm_W D code nx ls (.ref 305 :: r) (fm m) Q) : mm_W D code pc ls (.ref 284 :: r) (fm m) Q := f_getr hc (by decide) rfl rfl kk
theorem g_284_35 (hc : code pc = a_get 12 35 nx) (kk : mm_W D code nx ls (.ref 306 :: r) (fm m) Q) : mm_W D code pc ls (.ref 284 :: r) (fm m) Q := f_getr hc (by decide) rfl rfl kk
theorem g_284_36 (hc : code pc = a_get 12 36 nx) (kk : mm_W D code nx ls (.ref 307 :: r) (fm m) Q) : mm_W D code pc ls (.ref 284 :: r) (fm m) Q := f_getr hc (by decide) rfl rfl kk
theorem g_284_37 (hc : code pc = a_get 12 37 nx) (kk : mm_W D code nx ls (.ref 308 :: r) (fm m) Q) : mm_W D code pc ls (.ref 284 :: r) (fm m) Q := f_getr hc (by decide) rfl rfl kk
theorem g_284_38 (hc : code pc = a_get 12 38 nx) (kk : mm_W D code nx ls (iv (rd m 284 38) :: r) (fm m) Q) : mm_W D code pc ls (.ref 284 :: r) (fm m) Q := f_get hc (by decide) rfl rfl kk
theorem p_284_38 {m2 : Mm} (hc : code pc = a_put 12 38 .int nx) (hm : m2 = wt m 284 38 a) (kk : mm_W D code nx ls r (fm m2) Q) : mm_W D code pc ls (iv a :: .ref 284 :: r) (fm m) Q := f_put hc (by decide) rfl (Nat.le_of_ble_eq_true rfl) rfl hm kk
theorem g_284_39 (hc : code pc = a_get 12 39 nx) (kk : mm_W D code nx ls (.ref 309 :: r) (fm m) Q) : mm_W D code pc ls (.ref 284 :: r) (fm m) Q := f_getr hc (by decide) rfl rfl kk
theorem g_284_40 (hc : code pc = a_get 12 40 nx) (kk : mm_W D code nx ls (.ref 310 :: r) (fm m) Q) : mm_W D code pc ls (.ref 284 :: r) (fm m) Q := f_getr hc (by decide) rfl rfl kk
theorem g_284_41 (hc : code pc = a_get 12 41 nx) (kk : mm_W D code nx ls (.ref 311 :: r) (fm m) Q) : mm_W D code pc ls (.ref 284 :: r) (fm m) Q := f_getr hc (by decide) rfl rfl kk
theorem g_284_42 (hc : code pc = a_get 12 42 nx) (kk : mm_W D code nx ls (.ref 312 :: r) (fm m) Q) : mm_W D code pc ls (.ref 284 :: r) (fm m) Q := f_getr hc (by decide) rfl rfl kk
theorem g_284_43 (hc : code pc = a_get 12 43 nx) (kk : mm_W D code nx ls (.ref 313 :: r) (fm m) Q) : mm_W D code pc ls (.ref 284 :: r) (fm m) Q := f_getr hc (by decide) rfl rfl kk
theorem g_284_44 (hc : code pc = a_get 12 44 nx) (kk : mm_W D code nx ls (iv (rd m 284 44) :: r) (fm m) Q) : mm_W D code pc ls (.ref 284 :: r) (fm m) Q := f_get hc (by decide) rfl rfl kk
theorem p_284_44 {m2 : Mm} (hc : code pc = a_put 12 44 .int nx) (hm : m2 = wt m 284 44 a) (kk : mm_W D code nx ls r (fm m2) Q) : mm_W D code pc ls (iv a :: .ref 284 :: r) (fm m) Q := f_put hc (by decide) rfl (Nat.le_of_ble_eq_true rfl) rfl hm kk
theorem g_284_45 (hc : code pc = a_get 12 45 nx) (kk : mm_W D code nx ls (.ref 314 :: r) (fm m) Q) : mm_W D code pc ls (.ref 284 :: r) (fm m) Q := f_getr hc (by decide) rfl rfl kk
theorem g_284_46 (hc : code pc = a_get 12 46 nx) (kk : mm_W D code nx ls (.ref 315 :: r) (fm m) Q) : mm_W D code pc ls (.ref 284 :: r) (fm m) Q := f_getr hc (by decide) rfl rfl kk
theorem g_284_47 (hc : code pc = a_get 12 47 nx) (kk : mm_W D code nx ls (.ref 316 :: r) (fm m) Q) : mm_W D code pc ls (.ref 284 :: r) (fm m) Q := f_getr hc (by decide) rfl rfl kk
theorem g_284_48 (hc : code pc = a_get 12 48 nx) (kk : mm_W D code nx ls (iv (rd m 284 48) :: r) (fm m) Q) : mm_W D code pc ls (.ref 284 :: r) (fm m) Q := f_get hc (by decide) rfl rfl kk
theorem p_284_48 {m2 : Mm} (hc : code pc = a_put 12 48 .int nx) (hm : m2 = wt m 284 48 a) (kk : mm_W D code nx ls r (fm m2) Q) : mm_W D code pc ls (iv a :: .ref 284 :: r) (fm m) Q := f_put hc (by decide) rfl (Nat.le_of_ble_eq_true rfl) rfl hm kk
theorem g_284_49 (hc : code pc = a_get 12 49 nx) (kk : mm_W D code nx ls (.ref 317 :: r) (fm m) Q) : mm_W D code pc ls (.ref 284 :: r) (fm m) Q := f_getr hc (by decide) rfl rfl kk
theorem g_284_50 (hc : code pc = a_get 12 50 nx) (kk : mm_W D code nx ls (.ref 318 :: r) (fm m) Q) : mm_W D code pc ls (.ref 284 :: r) (fm m) Q := f_getr hc (by decide) rfl rfl kk
theorem g_284_51 (hc : code pc = a_get 12 51 nx) (kk : mm_W D code nx ls (iv (rd m 284 51) :: r) (fm m) Q) : mm_W D code pc ls (.ref 284 :: r) (fm m) Q := f_get hc (by decide) rfl rfl kk
theorem p_284_51 {m2 : Mm} (hc : code pc = a_put 12 51 .boolean nx) (hz : a = 0 ∨ a = 1) (hm : m2 = wt m 284 51 a) (kk : mm_W D code nx ls r (fm m2) Q) : mm_W D code pc ls (iv a :: .ref 284 :: r) (fm m) Q := f_putz hc (by decide) rfl (Nat.le_of_ble_eq_true rfl) rfl hz hm kk
theorem g_284_52 (hc : code pc = a_get 12 52 nx) (kk : mm_W D code nx ls (.ref 319 :: r) (fm m) Q) : mm_W D code pc ls (.ref 284 :: r) (fm m) Q := f_getr hc (by decide) rfl rfl kk
theorem g_284_53 (hc : code pc = a_get 12 53 nx) (kk : mm_W D code nx ls (.ref 320 :: r) (fm m) Q) : mm_W D code pc ls (.ref 284 :: r) (fm m) Q := f_getr hc (by decide) rfl rfl kk
theorem g_284_54 (hc : code pc = a_get 12 54 nx) (kk : mm_W D code nx ls (.ref 321 :: r) (fm m) Q) : mm_W D code pc ls (.ref 284 :: r) (fm m) Q := f_getr hc (by decide) rfl rfl kk
theorem g_284_55 (hc : code pc = a_get 12 55 nx) (kk : mm_W D code nx ls (iv (rd m 284 55) :: r) (fm m) Q) : mm_W D code pc ls (.ref 284 :: r) (fm m) Q := f_get hc (by decide) rfl rfl kk
theorem p_284_55 {m2 : Mm} (hc : code pc = a_put 12 55 .int nx) (hm : m2 = wt m 284 55 a) (kk : mm_W D code nx ls r (fm m2) Q) : mm_W D code pc ls (iv a :: .ref 284 :: r) (fm m) Q := f_put hc (by decide) rfl (Nat.le_of_ble_eq_true rfl) rfl hm kk
theorem g_284_56 (hc : code pc = a_get 12 56 nx) (kk : mm_W D code nx ls (.ref 322 :: r) (fm m) Q) : mm_W D code pc ls (.ref 284 :: r) (fm m) Q := f_getr hc (by decide) rfl rfl kk
theorem g_284_57 (hc : code pc = a_get 12 57 nx) (kk : mm_W D code nx ls (.ref 323 :: r) (fm m) Q) : mm_W D code pc ls (.ref 284 :: r) (fm m) Q := f_getr hc (by decide) rfl rfl kk
theorem g_284_58 (hc : code pc = a_get 12 58 nx) (kk : mm_W D code nx ls (iv (rd m 284 58) :: r) (fm m) Q) : mm_W D code pc ls (.ref 284 :: r) (fm m) Q := f_get hc (by decide) rfl rfl kk
theorem p_284_58 {m2 : Mm} (hc : code pc = a_put 12 58 .int nx) (hm : m2 = wt m 284 58 a) (kk : mm_W D code nx ls r (fm m2) Q) : mm_W D code pc ls (iv a :: .ref 284 :: r) (fm m) Q := f_put hc (by decide) rfl (Nat.le_of_ble_eq_true rfl) rfl hm kk
theorem g_284_59 (hc : code pc = a_get 12 59 nx) (kk : mm_W D code nx ls (iv (rd m 284 59) :: r) (fm m) Q) : mm_W D code pc ls (.ref 284 :: r) (fm m) Q := f_get hc (by decide) rfl rfl kk
theorem p_284_59 {m2 : Mm} (hc : code pc = a_put 12 59 .int nx) (hm : m2 = wt m 284 59 a) (kk : mm_W D code nx ls r (fm m2) Q) : mm_W D code pc ls (iv a :: .ref 284 :: r) (fm m) Q := f_put hc (by decide) rfl (Nat.le_of_ble_eq_true rfl) rfl hm kk
theorem g_284_60 (hc : code pc = a_get 12 60 nx) (kk : mm_W D code nx ls (iv (rd m 284 60) :: r) (fm m) Q) : mm_W D code pc ls (.ref 284 :: r) (fm m) Q := f_get hc (by decide) rfl rfl kk
theorem p_284_60 {m2 : Mm} (hc : code pc = a_put 12 60 .int nx) (hm : m2 = wt m 284 60 a) (kk : mm_W D code nx ls r (fm m2) Q) : mm_W D code pc ls (iv a :: .ref 284 :: r) (fm m) Q := f_put hc (by decide) rfl (Nat.le_of_ble_eq_true rfl) rfl hm kk
theorem g_284_61 (hc : code pc = a_get 12 61 nx) (kk : mm_W D code nx ls (.ref 324 :: r) (fm m) Q) : mm_W D code pc ls (.ref 284 :: r) (fm m) Q := f_getr hc (by decide) rfl rfl kk
theorem g_284_62 (hc : code pc = a_get 12 62 nx) (kk : mm_W D code nx ls (.ref 325 :: r) (fm m) Q) : mm_W D code pc ls (.ref 284 :: r) (fm m) Q := f_getr hc (by decide) rfl rfl kk
theorem g_284_63 (hc : code pc = a_get 12 63 nx) (kk : mm_W D code nx ls (.ref 326 :: r) (fm m) Q) : mm_W D code pc ls (.ref 284 :: r) (fm m) Q := f_getr hc (by decide) rfl rfl kk
theorem g_284_64 (hc : code pc = a_get 12 64 nx) (kk : mm_W D code nx ls (.ref 327 :: r) (fm m) Q) : mm_W D code pc ls (.ref 284 :: r) (fm m) Q := f_getr hc (by decide) rfl rfl kk
theorem g_284_65 (hc : code pc = a_get 12 65 nx) (kk : mm_W D code nx ls (.ref 328 :: r) (fm m) Q) : mm_W D code pc ls (.ref 284 :: r) (fm m) Q := f_getr hc (by decide) rfl rfl kk
theorem g_284_66 (hc : code pc = a_get 12 66 nx) (kk : mm_W D code nx ls (.ref 329 :: r) (fm m) Q) : mm_W D code pc ls (.ref 284 :: r) (fm m) Q := f_getr hc (by decide) rfl rfl kk
theorem g_284_67 (hc : code pc = a_get 12 67 nx) (kk : mm_W D code nx ls (iv (rd m 284 67) :: r) (fm m) Q) : mm_W D code pc ls (.ref 284 :: r) (fm m) Q := f_get hc (by decide) rfl rfl kk
theorem p_284_67 {m2 : Mm} (hc : code pc = a_put 12 67 .int nx) (hm : m2 = wt m 284 67 a) (kk : mm_W D code nx ls r (fm m2) Q) : mm_W D code pc ls (iv a :: .ref 284 :: r) (fm m) Q := f_put hc (by decide) rfl (Nat.le_of_ble_eq_true rfl) rfl hm kk
theorem g_284_68 (hc : code pc = a_get 12 68 nx) (kk : mm_W D code nx ls (.ref 330 :: r) (fm m) Q) : mm_W D code pc ls (.ref 284 :: r) (fm m) Q := f_getr hc (by decide) rfl rfl kk
theorem g_284_69 (hc : code pc = a_get 12 69 nx) (kk : mm_W D code nx ls (.ref 331 :: r) (fm m) Q) : mm_W D code pc ls (.ref 284 :: r) (fm m) Q := f_getr hc (by decide) rfl rfl kk
theorem g_284_70 (hc : code pc = a_get 12 70 nx) (kk : mm_W D code nx ls (.ref 332 :: r) (fm m) Q) : mm_W D code pc ls (.ref 284 :: r) (fm m) Q := f_getr hc (by decide) rfl rfl kk
theorem g_284_71 (hc : code pc = a_get 12 71 nx) (kk : mm_W D code nx ls (.ref 333 :: r) (fm m) Q) : mm_W D code pc ls (.ref 284 :: r) (fm m) Q := f_getr hc (by decide) rfl rfl kk
theorem g_284_72 (hc : code pc = a_get 12 72 nx) (kk : mm_W D code nx ls (iv (rd m 284 72) :: r) (fm m) Q) : mm_W D code pc ls (.ref 284 :: r) (fm m) Q := f_get hc (by decide) rfl rfl kk
theorem p_284_72 {m2 : Mm} (hc : code pc = a_put 12 72 .int nx) (hm : m2 = wt m 284 72 a) (kk : mm_W D code nx ls r (fm m2) Q) : mm_W D code pc ls (iv a :: .ref 284 :: r) (fm m) Q := f_put hc (by decide) rfl (Nat.le_of_ble_eq_true rfl) rfl hm kk
theorem g_284_73 (hc : code pc = a_get 12 73 nx) (kk : mm_W D code nx ls (.ref 334 :: r) (fm m) Q) : mm_W D code pc ls (.ref 284 :: r) (fm m) Q := f_getr hc (by decide) rfl rfl kk
theorem g_284_74 (hc : code pc = a_get 12 74 nx) (kk : mm_W D code nx ls (.ref 335 :: r) (fm m) Q) : mm_W D code pc ls (.ref 284 :: r) (fm m) Q := f_getr hc (by decide) rfl rfl kk
theorem g_284_75 (hc : code pc = a_get 12 75 nx) (kk : mm_W D code nx ls (.ref 336 :: r) (fm m) Q) : mm_W D code pc ls (.ref 284 :: r) (fm m) Q := f_getr hc (by decide) rfl rfl kk
theorem g_284_76 (hc : code pc = a_get 12 76 nx) (kk : mm_W D code nx ls (.ref 337 :: r) (fm m) Q) : mm_W D code pc ls (.ref 284 :: r) (fm m) Q := f_getr hc (by decide) rfl rfl kk
theorem g_284_77 (hc : code pc = a_get 12 77 nx) (kk : mm_W D code nx ls (.ref 338 :: r) (fm m) Q) : mm_W D code pc ls (.ref 284 :: r) (fm m) Q := f_getr hc (by decide) rfl rfl kk
theorem g_284_78 (hc : code pc = a_get 12 78 nx) (kk : mm_W D code nx ls (.ref 339 :: r) (fm m) Q) : mm_W D code pc ls (.ref 284 :: r) (fm m) Q := f_getr hc (by decide) rfl rfl kk
theorem g_284_79 (hc : code pc = a_get 12 79 nx) (kk : mm_W D code nx ls (.ref 340 :: r) (fm m) Q) : mm_W D code pc ls (.ref 284 :: r) (fm m) Q := f_getr hc (by decide) rfl rfl kk
theorem f_len309 (hc : code pc = a_alen mm_xt nx) (kk : mm_W D code nx ls (iv 260 :: r) (fm m) Q) : mm_W D code pc ls (.ref 309 :: r) (fm m) Q := by
  refine w_st (fun F => ?_) kk
  have e3 : mm_hg (fm m) 309 = some (.inr (.boolean, ra 260 (m.1 309))) := (hp_get (by decide)).trans rfl
  have e4 : mm_ty .boolean = true := rfl
  have e2 : Nat.blt 309 1000 = true := rfl
  rw [hc]
  simp only [a_alen, e2, cond_true, e3, e4, ra_len, mm_fI_eq]
  rfl
theorem f_len336 (hc : code pc = a_alen mm_xt nx) (kk : mm_W D code nx ls (iv 20 :: r) (fm m) Q) : mm_W D code pc ls (.ref 336 :: r) (fm m) Q := by
  refine w_st (fun F => ?_) kk
  have e3 : mm_hg (fm m) 336 = some (.inr (.boolean, ra 20 (m.1 336))) := (hp_get (by decide)).trans rfl
  have e4 : mm_ty .boolean = true := rfl
  have e2 : Nat.blt 336 1000 = true := rfl
  rw [hc]
  simp only [a_alen, e2, cond_true, e3, e4, ra_len, mm_fI_eq]
  rfl
theorem f_len339 (hc : code pc = a_alen mm_xt nx) (kk : mm_W D code nx ls (iv 3 :: r) (fm m) Q) : mm_W D code pc ls (.ref 339 :: r) (fm m) Q := by
  refine w_st (fun F => ?_) kk
  have e3 : mm_hg (fm m) 339 = some (.inr (.boolean, ra 3 (m.1 339))) := (hp_get (by decide)).trans rfl
  have e4 : mm_ty .boolean = true := rfl
  have e2 : Nat.blt 339 1000 = true := rfl
  rw [hc]
  simp only [a_alen, e2, cond_true, e3, e4, ra_len, mm_fI_eq]
  rfl
end GP
