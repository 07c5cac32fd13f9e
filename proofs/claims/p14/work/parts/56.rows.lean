/-! Rows of walks over heaps by cells -/
section VW
variable {D : Nat} {code : Nat → mm_A} {pc nx i : Nat} {ls : List (Option Value)} {r : List Value} {V : Nat → mm_C} {Q : mm_Q}
theorem v_get {ci k : Nat} {fs : List Value} {v : Value} (hc : code pc = a_get ci k nx) (hi : i < 341) (hg : V i = .inl (ci, fs)) (hv : fs[k]? = some v) (kk : mm_W D code nx ls (v :: r) (mm_hp V) Q) : mm_W D code pc ls (.ref i :: r) (mm_hp V) Q :=
  w_st (fun F => by rw [hc]; simp only [a_get, hp_get hi, hg, Nat.beq_refl, cond_true, hv]) kk
theorem v_put {ci k : Nat} {fs : List Value} {v : Value} {ty : FieldType} (hc : code pc = a_put ci k ty nx) (hi : i < 341) (hg : V i = .inl (ci, fs)) (hk : k < fs.length) (hf : mm_fit ty v = true) (kk : mm_W D code nx ls r (mm_hp (mm_up V i (.inl (ci, fs.set k v)))) Q) : mm_W D code pc ls (v :: .ref i :: r) (mm_hp V) Q :=
  w_st (fun F => by rw [hc]; simp only [a_put, hp_get hi, hg, Nat.beq_refl, hf, mm_blt, decide_eq_true hk, Bool.and_self, cond_true, mm_lK_eq, hp_put hi]) kk
theorem mm_in_of {j : Int32} {n : Nat} (h0 : 0 ≤ j.toInt) (h1 : j.toInt < n) : mm_in j n = true := by
  have hj : ¬ j < 0 := fun h => by
    have := Int32.lt_iff_toInt_lt.mp h
    have e : (0 : Int32).toInt = 0 := rfl
    omega
  unfold mm_in
  rw [decide_eq_false hj, mm_blt]
  show (true && decide (j.toInt.toNat < n)) = true
  rw [Bool.true_and]
  exact decide_eq_true (by omega)
end VW
/-! Rows over flat memory, numbers as Int -/
theorem fm_up {m : Mm} {i j : Nat} {v : Int} : mm_up (cV m) i (ck i (u1 (m.1 i) j (Int32.ofInt v)) (m.2 i)) = cV (wt m i j v) := by
  funext q
  by_cases h : q = i
  · subst h
    rw [mm_up_eq]
    show _ = ck q (fun b => if q = q then u1 (m.1 q) j (Int32.ofInt v) b else m.1 q b) (m.2 q)
    simp only [if_true]
  · rw [mm_up_ne h]
    show ck q (m.1 q) (m.2 q) = ck q (fun b => if q = i then u1 (m.1 i) j (Int32.ofInt v) b else m.1 q b) (m.2 q)
    simp only [h, if_false]
theorem fm_upl {m : Mm} {i j : Nat} {v : Int} : mm_up (cV m) i (ck i (m.1 i) (u2 (m.2 i) j (Int64.ofInt v))) = cV (wl m i j v) := by
  funext q
  by_cases h : q = i
  · subst h
    rw [mm_up_eq]
    show _ = ck q (m.1 q) (fun b => if q = q then u2 (m.2 q) j (Int64.ofInt v) b else m.2 q b)
    simp only [if_true]
  · rw [mm_up_ne h]
    show ck q (m.1 q) (m.2 q) = ck q (m.1 q) (fun b => if q = i then u2 (m.2 i) j (Int64.ofInt v) b else m.2 q b)
    simp only [h, if_false]
theorem fm_cp {m : Mm} {b sp d dp n : Nat} : mm_up (cV m) d (ck d (c1 (m.1 b) (m.1 d) sp dp n) (m.2 d)) = cV (cpm m b sp d dp n) := by
  funext q
  by_cases h : q = d
  · subst h
    rw [mm_up_eq]
    show _ = ck q (fun j => if q = q then c1 (m.1 b) (m.1 q) sp dp n j else m.1 q j) (m.2 q)
    simp only [if_true]
  · rw [mm_up_ne h]
    show ck q (m.1 q) (m.2 q) = ck q (fun j => if q = d then c1 (m.1 b) (m.1 d) sp dp n j else m.1 q j) (m.2 q)
    simp only [h, if_false]
/-- calls over flat memory: a number, nothing, a long -/
def CK (d k : Nat) (as : List Value) (m : Mm) (Q : Mm → Int → Prop) : Prop := mm_K d k as (fm m) (fun h r => ∃ (m2 : Mm) (v : Int), h = fm m2 ∧ r = some (iv v) ∧ rg v ∧ Q m2 v)
def CV (d k : Nat) (as : List Value) (m : Mm) (Q : Mm → Prop) : Prop := mm_K d k as (fm m) (fun h r => ∃ m2 : Mm, h = fm m2 ∧ r = none ∧ Q m2)
def CL (d k : Nat) (as : List Value) (m : Mm) (Q : Mm → Int → Prop) : Prop := mm_K d k as (fm m) (fun h r => ∃ (m2 : Mm) (v : Int), h = fm m2 ∧ r = some (lv v) ∧ rgl v ∧ Q m2 v)
theorem CK.mono {d d2 k : Nat} {as : List Value} {m : Mm} {Q Q2 : Mm → Int → Prop} (h : CK d k as m Q) (hd : d ≤ d2) (hq : ∀ m2 v, rg v → Q m2 v → Q2 m2 v) : CK d2 k as m Q2 :=
  mm_K.mono h hd (fun _ _ ⟨m2, v, e1, e2, e3, q⟩ => ⟨m2, v, e1, e2, e3, hq m2 v e3 q⟩)
theorem CV.mono {d d2 k : Nat} {as : List Value} {m : Mm} {Q Q2 : Mm → Prop} (h : CV d k as m Q) (hd : d ≤ d2) (hq : ∀ m2, Q m2 → Q2 m2) : CV d2 k as m Q2 :=
  mm_K.mono h hd (fun _ _ ⟨m2, e1, e2, q⟩ => ⟨m2, e1, e2, hq m2 q⟩)
theorem CL.mono {d d2 k : Nat} {as : List Value} {m : Mm} {Q Q2 : Mm → Int → Prop} (h : CL d k as m Q) (hd : d ≤ d2) (hq : ∀ m2 v, rgl v → Q m2 v → Q2 m2 v) : CL d2 k as m Q2 :=
  mm_K.mono h hd (fun _ _ ⟨m2, v, e1, e2, e3, q⟩ => ⟨m2, v, e1, e2, e3, hq m2 v e3 q⟩)
def XK (Q : Mm → Int → Prop) : mm_Q := fun h r => ∃ (m2 : Mm) (v : Int), h = fm m2 ∧ r = some (iv v) ∧ rg v ∧ Q m2 v
def XV (Q : Mm → Prop) : mm_Q := fun h r => ∃ m2 : Mm, h = fm m2 ∧ r = none ∧ Q m2
def XL (Q : Mm → Int → Prop) : mm_Q := fun h r => ∃ (m2 : Mm) (v : Int), h = fm m2 ∧ r = some (lv v) ∧ rgl v ∧ Q m2 v
theorem CK_of {D k : Nat} {as : List Value} {m : Mm} {Q : Mm → Int → Prop} (hn : Nat.ble (mm_en as).length (mm_nL k) = true) (hW : mm_W D (mm_cd k) 0 (mm_pad (mm_en as) (mm_nL k)) [] (fm m) (XK Q)) : CK (D + 1) k as m Q := by
  refine mm_K.of hn (hW.mono ?_)
  rintro h2 r ⟨m2, v, rfl, q⟩
  exact ⟨⟨Nat.le_of_ble_eq_true rfl, Nat.le_of_ble_eq_true rfl⟩, m2, v, rfl, q⟩
theorem CV_of {D k : Nat} {as : List Value} {m : Mm} {Q : Mm → Prop} (hn : Nat.ble (mm_en as).length (mm_nL k) = true) (hW : mm_W D (mm_cd k) 0 (mm_pad (mm_en as) (mm_nL k)) [] (fm m) (XV Q)) : CV (D + 1) k as m Q := by
  refine mm_K.of hn (hW.mono ?_)
  rintro h2 r ⟨m2, rfl, q⟩
  exact ⟨⟨Nat.le_of_ble_eq_true rfl, Nat.le_of_ble_eq_true rfl⟩, m2, rfl, q⟩
theorem CL_of {D k : Nat} {as : List Value} {m : Mm} {Q : Mm → Int → Prop} (hn : Nat.ble (mm_en as).length (mm_nL k) = true) (hW : mm_W D (mm_cd k) 0 (mm_pad (mm_en as) (mm_nL k)) [] (fm m) (XL Q)) : CL (D + 1) k as m Q := by
  refine mm_K.of hn (hW.mono ?_)
  rintro h2 r ⟨m2, v, rfl, q⟩
  exact ⟨⟨Nat.le_of_ble_eq_true rfl, Nat.le_of_ble_eq_true rfl⟩, m2, v, rfl, q⟩
/-- junk below a place that is written -/
def kj (g : Option Value) : Option Value := match g with
  | some (.long _) => none
  | some (.double _) => none
  | _ => g
def dvI (a b : Int) : Int := io (fun x y => x / y) a b
def rmI (a b : Int) : Int := io (fun x y => x - x / y * y) a b
def anI (a b : Int) : Int := io (fun x y => x &&& y) a b
def orI (a b : Int) : Int := io (fun x y => x ||| y) a b
def xoI (a b : Int) : Int := io (fun x y => x ^^^ y) a b
def slI (a b : Int) : Int := io (fun x y => x <<< (y &&& 31)) a b
def srI (a b : Int) : Int := io (fun x y => x >>> (y &&& 31)) a b
def urI (a b : Int) : Int := io (fun x y => (x.toUInt32 >>> (y.toUInt32 &&& Int32.toUInt32 31)).toInt32) a b
def ngI (a : Int) : Int := i1o (fun x => -x) a
def ncI (a : Int) : Int := i1o (fun x => (x.toUInt32 % 65536).toInt32) a
theorem nb_rg (a : Int) : rg (nb a) := i_rg _
theorem nz_rg (a : Int) : rg (nz a) := i_rg _
theorem st_l0 {a : Nat} (h : isSt a) : a < 341 := by have := st_lt h; omega
theorem lw_l0 {a : Nat} (h : isLw a) : a < 341 := by have := lw_lt h; omega
theorem st_ring {j : Int} (h : 0 ≤ j ∧ j < 40) : isSt (59 + 5 * j.toNat) := by unfold isSt; omega
theorem st_slot {j : Int} (h : 0 ≤ j ∧ j < 3) : isSt (259 + 5 * j.toNat) := by unfold isSt; omega
theorem st_274 : isSt 274 := by unfold isSt; omega
theorem st_279 : isSt 279 := by unfold isSt; omega
theorem lw_11 : isLw 11 := Or.inl rfl
theorem lw_20 : isLw 20 := Or.inr rfl
section FR
variable {D : Nat} {code : Nat → mm_A} {pc nx i : Nat} {ls ls2 : List (Option Value)} {r st : List Value} {m : Mm} {Q : mm_Q} {a b : Int} {h : mm_H}
theorem f_int {v : Int32} (n : Int) (hc : code pc = a_int v nx) (hv : v = Int32.ofInt n) (k : mm_W D code nx ls (iv n :: st) h Q) : mm_W D code pc ls st h Q := by
  subst hv
  exact w_st (fun F => by rw [hc]; rfl) k
theorem f_long {v : Int64} (n : Int) (hc : code pc = a_long v nx) (hv : v = Int64.ofInt n) (k : mm_W D code nx ls (lv n :: st) h Q) : mm_W D code pc ls st h Q := by
  subst hv
  exact w_st (fun F => by rw [hc]; rfl) k
theorem f_add (hc : code pc = a_i2 (fun x y => x + y) nx) (k : mm_W D code nx ls (iv (wr (a + b)) :: r) h Q) : mm_W D code pc ls (iv b :: iv a :: r) h Q := w_i2 hc (by rw [ad_of]; exact k)
theorem f_sub (hc : code pc = a_i2 (fun x y => x - y) nx) (k : mm_W D code nx ls (iv (wr (a - b)) :: r) h Q) : mm_W D code pc ls (iv b :: iv a :: r) h Q := w_i2 hc (by rw [sb_of]; exact k)
theorem f_mul (hc : code pc = a_i2 (fun x y => x * y) nx) (k : mm_W D code nx ls (iv (wr (a * b)) :: r) h Q) : mm_W D code pc ls (iv b :: iv a :: r) h Q := w_i2 hc (by rw [ml_of]; exact k)
theorem f_op {op : Int32 → Int32 → Int32} (hc : code pc = a_i2 op nx) (k : mm_W D code nx ls (iv (io op a b) :: r) h Q) : mm_W D code pc ls (iv b :: iv a :: r) h Q := w_i2 hc (by rw [← io_of op a b]; exact k)
theorem f_op1 {op : Int32 → Int32} (hc : code pc = a_i1 op nx) (k : mm_W D code nx ls (iv (i1o op a) :: r) h Q) : mm_W D code pc ls (iv a :: r) h Q := w_i1 hc (by rw [← i1o_of op a]; exact k)
theorem f_dv {op : Int32 → Int32 → Int32} (hc : code pc = a_id op nx) (hb : rg b) (h0 : ¬ b = 0) (k : mm_W D code nx ls (iv (io op a b) :: r) h Q) : mm_W D code pc ls (iv b :: iv a :: r) h Q := w_id hc (fun w => h0 ((eq_of hb rg0).mp w)) (by rw [← io_of op a b]; exact k)
theorem f_dvI (hc : code pc = a_id (fun x y => x / y) nx) (hb : rg b) (h0 : ¬ b = 0) (k : mm_W D code nx ls (iv (dvI a b) :: r) h Q) : mm_W D code pc ls (iv b :: iv a :: r) h Q := f_dv hc hb h0 k
theorem f_rmI (hc : code pc = a_id (fun x y => x - x / y * y) nx) (hb : rg b) (h0 : ¬ b = 0) (k : mm_W D code nx ls (iv (rmI a b) :: r) h Q) : mm_W D code pc ls (iv b :: iv a :: r) h Q := f_dv hc hb h0 k
theorem f_anI (hc : code pc = a_i2 (fun x y => x &&& y) nx) (k : mm_W D code nx ls (iv (anI a b) :: r) h Q) : mm_W D code pc ls (iv b :: iv a :: r) h Q := f_op hc k
theorem f_orI (hc : code pc = a_i2 (fun x y => x ||| y) nx) (k : mm_W D code nx ls (iv (orI a b) :: r) h Q) : mm_W D code pc ls (iv b :: iv a :: r) h Q := f_op hc k
theorem f_xoI (hc : code pc = a_i2 (fun x y => x ^^^ y) nx) (k : mm_W D code nx ls (iv (xoI a b) :: r) h Q) : mm_W D code pc ls (iv b :: iv a :: r) h Q := f_op hc k
theorem f_slI (hc : code pc = a_i2 (fun x y => x <<< (y &&& 31)) nx) (k : mm_W D code nx ls (iv (slI a b) :: r) h Q) : mm_W D code pc ls (iv b :: iv a :: r) h Q := f_op hc k
theorem f_srI (hc : code pc = a_i2 (fun x y => x >>> (y &&& 31)) nx) (k : mm_W D code nx ls (iv (srI a b) :: r) h Q) : mm_W D code pc ls (iv b :: iv a :: r) h Q := f_op hc k
theorem f_urI (hc : code pc = a_i2 (fun x y => (x.toUInt32 >>> (y.toUInt32 &&& Int32.toUInt32 31)).toInt32) nx) (k : mm_W D code nx ls (iv (urI a b) :: r) h Q) : mm_W D code pc ls (iv b :: iv a :: r) h Q := f_op hc k
theorem f_ngI (hc : code pc = a_i1 (fun x => -x) nx) (k : mm_W D code nx ls (iv (ngI a) :: r) h Q) : mm_W D code pc ls (iv a :: r) h Q := f_op1 hc k
theorem f_ncI (hc : code pc = a_i1 (fun x => (x.toUInt32 % 65536).toInt32) nx) (k : mm_W D code nx ls (iv (ncI a) :: r) h Q) : mm_W D code pc ls (iv a :: r) h Q := f_op1 hc k
theorem f_nbI (hc : code pc = a_i1 (fun x => x.toInt8.toInt32) nx) (k : mm_W D code nx ls (iv (nb a) :: r) h Q) : mm_W D code pc ls (iv a :: r) h Q := f_op1 hc k
theorem f_addl (hc : code pc = a_l2 (fun x y => x + y) nx) (k : mm_W D code nx ls (lv (wrl (a + b)) :: r) h Q) : mm_W D code pc ls (lv b :: lv a :: r) h Q := w_l2 hc (by rw [adl_of]; exact k)
theorem f_subl (hc : code pc = a_l2 (fun x y => x - y) nx) (k : mm_W D code nx ls (lv (wrl (a - b)) :: r) h Q) : mm_W D code pc ls (lv b :: lv a :: r) h Q := w_l2 hc (by rw [sbl_of]; exact k)
theorem f_mull (hc : code pc = a_l2 (fun x y => x * y) nx) (k : mm_W D code nx ls (lv (wrl (a * b)) :: r) h Q) : mm_W D code pc ls (lv b :: lv a :: r) h Q := w_l2 hc (by rw [mll_of]; exact k)
theorem f_i2l (hc : code pc = a_i2l nx) (ha : rg a) (k : mm_W D code nx ls (lv a :: r) h Q) : mm_W D code pc ls (iv a :: r) h Q := w_i2l hc (by
  rw [show (Int32.ofInt a).toInt64 = Int64.ofInt a from by
    apply of_eql
    rw [Int32.toInt_toInt64, to_of_rg ha, wrl_id (by have := ha.1; omega) (by have := ha.2; omega)]]
  exact k)
theorem f_l2i (hc : code pc = a_l2i nx) (k : mm_W D code nx ls (iv (wr a) :: r) h Q) : mm_W D code pc ls (lv a :: r) h Q := w_l2i hc (by
  rw [show (Int64.ofInt a).toInt32 = Int32.ofInt (wr a) from by
    apply of_eq
    rw [Int64.toInt_toInt32, to_ofl, wr_bmod]
    unfold wr wrl
    omega]
  exact k)
theorem f_lcmp (hc : code pc = a_lcmp nx) (ha : rgl a) (hb : rgl b) (k : mm_W D code nx ls (iv (lcm2 a b) :: r) h Q) : mm_W D code pc ls (lv b :: lv a :: r) h Q := w_lcmp hc (by
  rw [show lg_cmp (Int64.ofInt a) (Int64.ofInt b) = Int32.ofInt (lcm2 a b) from by
    unfold lg_cmp lcm2
    have e1 : (Int64.ofInt a > Int64.ofInt b) ↔ b < a := by rw [gt_iff_lt, Int64.lt_iff_toInt_lt, to_of_rgl ha, to_of_rgl hb]
    have e2 : (Int64.ofInt a = Int64.ofInt b) ↔ a = b := by
      constructor
      · intro w; rw [← to_of_rgl ha, w, to_of_rgl hb]
      · intro w; rw [w]
    by_cases q1 : b < a
    · rw [if_pos (e1.mpr q1), if_pos q1]; rfl
    · rw [if_neg (fun w => q1 (e1.mp w)), if_neg q1]
      by_cases q2 : a = b
      · rw [if_pos (e2.mpr q2), if_pos q2]; rfl
      · rw [if_neg (fun w => q2 (e2.mp w)), if_neg q2]; rfl]
  exact k)
theorem f_max (hc : code pc = a_mm (fun x y => if x < y then y else x) nx) (ha : rg a) (hb : rg b) (hr : Nat.ble (mm_cat r) 8 = true) (k : mm_W D code nx ls (iv (max a b) :: r) h Q) : mm_W D code pc ls (iv b :: iv a :: r) h Q :=
  w_st (fun F => by
    rw [hc]
    show (bif Nat.ble (mm_cat r) 8 then mm_fI (if Int32.ofInt a < Int32.ofInt b then Int32.ofInt b else Int32.ofInt a) (fun z => some (Sum.inl (nx, ls, Value.int z :: r, h))) else none) = _
    rw [hr, mm_fI_eq]
    rw [show (if Int32.ofInt a < Int32.ofInt b then Int32.ofInt b else Int32.ofInt a) = Int32.ofInt (max a b) from by
      by_cases q : a < b
      · rw [if_pos ((lt_of ha hb).mpr q), Int.max_eq_right (by omega)]
      · rw [if_neg (fun w => q ((lt_of ha hb).mp w)), Int.max_eq_left (by omega)]]
    rfl) k
theorem f_min (hc : code pc = a_mm (fun x y => if y < x then y else x) nx) (ha : rg a) (hb : rg b) (hr : Nat.ble (mm_cat r) 8 = true) (k : mm_W D code nx ls (iv (min a b) :: r) h Q) : mm_W D code pc ls (iv b :: iv a :: r) h Q :=
  w_st (fun F => by
    rw [hc]
    show (bif Nat.ble (mm_cat r) 8 then mm_fI (if Int32.ofInt b < Int32.ofInt a then Int32.ofInt b else Int32.ofInt a) (fun z => some (Sum.inl (nx, ls, Value.int z :: r, h))) else none) = _
    rw [hr, mm_fI_eq]
    rw [show (if Int32.ofInt b < Int32.ofInt a then Int32.ofInt b else Int32.ofInt a) = Int32.ofInt (min a b) from by
      by_cases q : b < a
      · rw [if_pos ((lt_of hb ha).mpr q), Int.min_eq_right (by omega)]
      · rw [if_neg (fun w => q ((lt_of hb ha).mp w)), Int.min_eq_left (by omega)]]
    rfl) k
theorem mx_rg {a b : Int} (ha : rg a) (hb : rg b) : rg (max a b) := by unfold rg at *; omega
theorem mn_rg {a b : Int} (ha : rg a) (hb : rg b) : rg (min a b) := by unfold rg at *; omega
/-- branches: of two numbers -/
theorem b_le {t n2 : Nat} (hc : code pc = a_ic (fun x y => decide (x ≤ y)) t n2) (ha : rg a) (hb : rg b) (h1 : a ≤ b → mm_W D code t ls r h Q) (h2 : ¬ a ≤ b → mm_W D code n2 ls r h Q) : mm_W D code pc ls (iv b :: iv a :: r) h Q := w_ic hc (fun q => h1 ((le_of ha hb).mp (of_decide_eq_true q))) (fun q => h2 (fun w => of_decide_eq_false q ((le_of ha hb).mpr w)))
theorem b_lt {t n2 : Nat} (hc : code pc = a_ic (fun x y => decide (x < y)) t n2) (ha : rg a) (hb : rg b) (h1 : a < b → mm_W D code t ls r h Q) (h2 : ¬ a < b → mm_W D code n2 ls r h Q) : mm_W D code pc ls (iv b :: iv a :: r) h Q := w_ic hc (fun q => h1 ((lt_of ha hb).mp (of_decide_eq_true q))) (fun q => h2 (fun w => of_decide_eq_false q ((lt_of ha hb).mpr w)))
theorem b_ge {t n2 : Nat} (hc : code pc = a_ic (fun x y => decide (y ≤ x)) t n2) (ha : rg a) (hb : rg b) (h1 : b ≤ a → mm_W D code t ls r h Q) (h2 : ¬ b ≤ a → mm_W D code n2 ls r h Q) : mm_W D code pc ls (iv b :: iv a :: r) h Q := w_ic hc (fun q => h1 ((le_of hb ha).mp (of_decide_eq_true q))) (fun q => h2 (fun w => of_decide_eq_false q ((le_of hb ha).mpr w)))
theorem b_gt {t n2 : Nat} (hc : code pc = a_ic (fun x y => decide (y < x)) t n2) (ha : rg a) (hb : rg b) (h1 : b < a → mm_W D code t ls r h Q) (h2 : ¬ b < a → mm_W D code n2 ls r h Q) : mm_W D code pc ls (iv b :: iv a :: r) h Q := w_ic hc (fun q => h1 ((lt_of hb ha).mp (of_decide_eq_true q))) (fun q => h2 (fun w => of_decide_eq_false q ((lt_of hb ha).mpr w)))
theorem b_eq {t n2 : Nat} (hc : code pc = a_ic (fun x y => decide (x = y)) t n2) (ha : rg a) (hb : rg b) (h1 : a = b → mm_W D code t ls r h Q) (h2 : ¬ a = b → mm_W D code n2 ls r h Q) : mm_W D code pc ls (iv b :: iv a :: r) h Q := w_ic hc (fun q => h1 ((eq_of ha hb).mp (of_decide_eq_true q))) (fun q => h2 (fun w => of_decide_eq_false q ((eq_of ha hb).mpr w)))
theorem b_ne {t n2 : Nat} (hc : code pc = a_ic (fun x y => decide (¬ x = y)) t n2) (ha : rg a) (hb : rg b) (h1 : ¬ a = b → mm_W D code t ls r h Q) (h2 : a = b → mm_W D code n2 ls r h Q) : mm_W D code pc ls (iv b :: iv a :: r) h Q := by
  by_cases e : a = b
  · exact w_ic hc (fun q => absurd ((eq_of ha hb).mpr e) (of_decide_eq_true q)) (fun _ => h2 e)
  · exact w_ic hc (fun _ => h1 e) (fun q => by
    have t : decide (¬ Int32.ofInt a = Int32.ofInt b) = true := decide_eq_true (fun w => e ((eq_of ha hb).mp w))
    exact absurd (q.symm.trans t) (by decide))
/-- of one, against 0 -/
theorem z_eq {t n2 : Nat} (hc : code pc = a_if (fun x => decide (x = 0)) t n2) (ha : rg a) (h1 : a = 0 → mm_W D code t ls r h Q) (h2 : ¬ a = 0 → mm_W D code n2 ls r h Q) : mm_W D code pc ls (iv a :: r) h Q := w_ifz hc (fun q => h1 ((eq_of ha rg0).mp (of_decide_eq_true q))) (fun q => h2 (fun w => of_decide_eq_false q ((eq_of ha rg0).mpr w)))
theorem z_ne {t n2 : Nat} (hc : code pc = a_if (fun x => decide (¬ x = 0)) t n2) (ha : rg a) (h1 : ¬ a = 0 → mm_W D code t ls r h Q) (h2 : a = 0 → mm_W D code n2 ls r h Q) : mm_W D code pc ls (iv a :: r) h Q := by
  by_cases e : a = 0
  · exact w_ifz hc (fun q => absurd ((eq_of ha rg0).mpr e) (of_decide_eq_true q)) (fun _ => h2 e)
  · exact w_ifz hc (fun _ => h1 e) (fun q => by
    have t : decide (¬ Int32.ofInt a = 0) = true := decide_eq_true (fun w => e ((eq_of ha rg0).mp w))
    exact absurd (q.symm.trans t) (by decide))
theorem z_lt {t n2 : Nat} (hc : code pc = a_if (fun x => decide (x < 0)) t n2) (ha : rg a) (h1 : a < 0 → mm_W D code t ls r h Q) (h2 : ¬ a < 0 → mm_W D code n2 ls r h Q) : mm_W D code pc ls (iv a :: r) h Q := w_ifz hc (fun q => h1 ((lt_of ha rg0).mp (of_decide_eq_true q))) (fun q => h2 (fun w => of_decide_eq_false q ((lt_of ha rg0).mpr w)))
theorem z_ge {t n2 : Nat} (hc : code pc = a_if (fun x => decide (0 ≤ x)) t n2) (ha : rg a) (h1 : 0 ≤ a → mm_W D code t ls r h Q) (h2 : ¬ 0 ≤ a → mm_W D code n2 ls r h Q) : mm_W D code pc ls (iv a :: r) h Q := w_ifz hc (fun q => h1 ((le_of rg0 ha).mp (of_decide_eq_true q))) (fun q => h2 (fun w => of_decide_eq_false q ((le_of rg0 ha).mpr w)))
theorem z_gt {t n2 : Nat} (hc : code pc = a_if (fun x => decide (0 < x)) t n2) (ha : rg a) (h1 : 0 < a → mm_W D code t ls r h Q) (h2 : ¬ 0 < a → mm_W D code n2 ls r h Q) : mm_W D code pc ls (iv a :: r) h Q := w_ifz hc (fun q => h1 ((lt_of rg0 ha).mp (of_decide_eq_true q))) (fun q => h2 (fun w => of_decide_eq_false q ((lt_of rg0 ha).mpr w)))
theorem z_le {t n2 : Nat} (hc : code pc = a_if (fun x => decide (x ≤ 0)) t n2) (ha : rg a) (h1 : a ≤ 0 → mm_W D code t ls r h Q) (h2 : ¬ a ≤ 0 → mm_W D code n2 ls r h Q) : mm_W D code pc ls (iv a :: r) h Q := w_ifz hc (fun q => h1 ((le_of ha rg0).mp (of_decide_eq_true q))) (fun q => h2 (fun w => of_decide_eq_false q ((le_of ha rg0).mpr w)))
theorem f_iinc {j : Nat} {n : Int32} {x2 : Int} (c : Int) (hc : code pc = a_iinc j n nx) (hn : n = Int32.ofInt c) (hl : ls[j]? = some (some (iv a))) (hx : x2 = wr (a + c)) (he : (mm_kl ls j).set j (some (iv x2)) = ls2) (k : mm_W D code nx ls2 st h Q) : mm_W D code pc ls st h Q := by
  subst he hn hx
  exact w_iinc hc hl (by rw [ad_of]; exact k)
theorem kl_J {j : Nat} {g : Option Value} (hg : ls[j]? = some g) : mm_kl ls (j + 1) = ls.set j (kj g) := by
  have hs : ls.set j g = ls := by
    apply List.ext_getElem?
    intro q
    rw [List.getElem?_set]
    by_cases e : j = q
    · subst e
      rw [if_pos rfl, if_pos (List.getElem?_eq_some_iff.mp hg).1, hg]
    · rw [if_neg e]
  show (match ls[j]? with
    | some (some (.long _)) => ls.set j none
    | some (some (.double _)) => ls.set j none
    | _ => ls) = _
  rw [hg]
  unfold kj
  cases g with
  | none => exact hs.symm
  | some v => cases v <;> first | rfl | exact hs.symm
theorem f_iincJ {j : Nat} {n : Int32} {x2 : Int} {g : Option Value} (c : Int) (hc : code pc = a_iinc (j + 1) n nx) (hn : n = Int32.ofInt c) (hl : ls[j + 1]? = some (some (iv a))) (hg : ls[j]? = some g) (hx : x2 = wr (a + c)) (he : (ls.set j (kj g)).set (j + 1) (some (iv x2)) = ls2) (k : mm_W D code nx ls2 st h Q) : mm_W D code pc ls st h Q := by
  subst hn hx
  refine w_iinc hc hl ?_
  rw [kl_J hg, ad_of, he]
  exact k
theorem f_istJ {j : Nat} {g : Option Value} {y : Int32} (hc : code pc = a_istore (j + 1) nx) (hg : ls[j]? = some g) (he : (ls.set j (kj g)).set (j + 1) (some (.int y)) = ls2) (k : mm_W D code nx ls2 r h Q) : mm_W D code pc ls (.int y :: r) h Q := by
  refine w_istore hc ?_
  rw [kl_J hg, he]
  exact k
/-- a number gets a name -/
theorem f_nm {x e : Int} (hx : x = e) (k : mm_W D code pc ls (iv x :: st) h Q) : mm_W D code pc ls (iv e :: st) h Q := by subst hx; exact k
theorem f_nml {x e : Int} (hx : x = e) (k : mm_W D code pc ls (lv x :: st) h Q) : mm_W D code pc ls (lv e :: st) h Q := by subst hx; exact k
/-- switches -/
theorem f_tsw {lo hi : Int} {ts : List Nat} {df t : Nat} (n : Int) (hc : code pc = a_tsw lo hi ts df) (ha : rg a) (e : a = n) (hb : (decide (n < lo) || decide (hi < n)) = false) (ht : ts[(n - lo).toNat]? = some t) (k : mm_W D code t ls r h Q) : mm_W D code pc ls (iv a :: r) h Q := by
  subst e
  refine w_st (fun F => ?_) k
  rw [hc]
  show (bif decide ((Int32.ofInt a).toInt < lo) || decide (hi < (Int32.ofInt a).toInt) then some (Sum.inl (df, ls, r, h)) else match ts[((Int32.ofInt a).toInt - lo).toNat]? with
    | some t => some (Sum.inl (t, ls, r, h))
    | none => none) = _
  rw [to_of_rg ha, hb, ht]
  rfl
theorem f_tswd {lo hi : Int} {ts : List Nat} {df : Nat} (hc : code pc = a_tsw lo hi ts df) (ha : rg a) (hb : a < lo ∨ hi < a) (k : mm_W D code df ls r h Q) : mm_W D code pc ls (iv a :: r) h Q := by
  refine w_st (fun F => ?_) k
  rw [hc]
  show (bif decide ((Int32.ofInt a).toInt < lo) || decide (hi < (Int32.ofInt a).toInt) then some (Sum.inl (df, ls, r, h)) else _) = _
  have e : (decide ((Int32.ofInt a).toInt < lo) || decide (hi < (Int32.ofInt a).toInt)) = true := by
    rw [to_of_rg ha]
    rcases hb with q | q
    · rw [decide_eq_true q]; rfl
    · rw [decide_eq_true q, Bool.or_true]
  rw [e]
  rfl
theorem f_lsw {ps : List (Int × Nat)} {df t : Nat} (hc : code pc = a_lsw ps df) (ha : rg a) (ht : mm_lk ps df a = t) (k : mm_W D code t ls r h Q) : mm_W D code pc ls (iv a :: r) h Q := by
  refine w_st (fun F => ?_) k
  rw [hc]
  show mm_fN (mm_lk ps df (Int32.ofInt a).toInt) (fun t => some (Sum.inl (t, ls, r, h))) = _
  rw [to_of_rg ha, ht, mm_fN_eq]
theorem lk_hit {qs : List (Int × Nat)} {df t : Nat} {n x : Int} (h : x = n) : mm_lk ((n, t) :: qs) df x = t := by
  unfold mm_lk
  rw [decide_eq_true h]
  rfl
theorem lk_miss {qs : List (Int × Nat)} {df t u : Nat} {n x : Int} (h : ¬ x = n) (k : mm_lk qs df x = u) : mm_lk ((n, t) :: qs) df x = u := by
  unfold mm_lk
  rw [decide_eq_false h]
  exact k
/-- fields -/
theorem f_get {ci k : Nat} {fs : List Value} (hc : code pc = a_get ci k nx) (hi : i < 341) (hg : ck i (m.1 i) (m.2 i) = .inl (ci, fs)) (hv : fs[k]? = some (.int (m.1 i k))) (kk : mm_W D code nx ls (iv (rd m i k) :: r) (fm m) Q) : mm_W D code pc ls (.ref i :: r) (fm m) Q := by
  have e : Value.int (m.1 i k) = iv (rd m i k) := congrArg Value.int (of_to (m.1 i k)).symm
  refine v_get (V := cV m) hc hi hg hv ?_
  rw [e]
  exact kk
theorem f_getr {ci k c : Nat} {fs : List Value} (hc : code pc = a_get ci k nx) (hi : i < 341) (hg : ck i (m.1 i) (m.2 i) = .inl (ci, fs)) (hv : fs[k]? = some (.ref c)) (kk : mm_W D code nx ls (.ref c :: r) (fm m) Q) : mm_W D code pc ls (.ref i :: r) (fm m) Q :=
  v_get (V := cV m) hc hi hg hv kk
theorem f_put {ci k : Nat} {fs : List Value} (hc : code pc = a_put ci k .int nx) (hi : i < 341) (hg : ck i (m.1 i) (m.2 i) = .inl (ci, fs)) (hk : k < fs.length) (he : ck i (u1 (m.1 i) k (Int32.ofInt a)) (m.2 i) = .inl (ci, fs.set k (iv a))) {m2 : Mm} (hm : m2 = wt m i k a) (kk : mm_W D code nx ls r (fm m2) Q) : mm_W D code pc ls (iv a :: .ref i :: r) (fm m) Q := by
  subst hm
  refine v_put (V := cV m) hc hi hg hk rfl ?_
  rw [← he, fm_up]
  exact kk
theorem f_putz {ci k : Nat} {fs : List Value} (hc : code pc = a_put ci k .boolean nx) (hi : i < 341) (hg : ck i (m.1 i) (m.2 i) = .inl (ci, fs)) (hk : k < fs.length) (he : ck i (u1 (m.1 i) k (Int32.ofInt a)) (m.2 i) = .inl (ci, fs.set k (iv a))) (hz : a = 0 ∨ a = 1) {m2 : Mm} (hm : m2 = wt m i k a) (kk : mm_W D code nx ls r (fm m2) Q) : mm_W D code pc ls (iv a :: .ref i :: r) (fm m) Q := by
  subst hm
  refine v_put (V := cV m) hc hi hg hk (by rcases hz with rfl | rfl <;> rfl) ?_
  rw [← he, fm_up]
  exact kk
theorem f_putr {ci k c : Nat} {ty : FieldType} {fs : List Value} (hc : code pc = a_put ci k (.array ty) nx) (hi : i < 341) (hg : ck i (m.1 i) (m.2 i) = .inl (ci, fs)) (hk : k < fs.length) (he : ck i (u1 (m.1 i) k (Int32.ofInt c)) (m.2 i) = .inl (ci, fs.set k (.ref c))) {m2 : Mm} (hm : m2 = wt m i k c) (kk : mm_W D code nx ls r (fm m2) Q) : mm_W D code pc ls (.ref c :: .ref i :: r) (fm m) Q := by
  subst hm
  refine v_put (V := cV m) hc hi hg hk rfl ?_
  rw [← he, fm_up]
  exact kk
/-- rows of numbers -/
theorem of_nn {j : Int} (hr : rg j) (h : 0 ≤ j) : ¬ Int32.ofInt j < 0 := fun w => by
  have := (lt_of hr rg0).mp w
  omega
theorem cl_of {j : Int} (hr : rg j) : (Int32.ofInt j).toNatClampNeg = j.toNat := by
  show (Int32.ofInt j).toInt.toNat = _
  rw [to_of_rg hr]
theorem f_ld {n : Nat} {j : Int} (hR : isR n i) (hc : code pc = a_iald mm_xt nx) (hj : 0 ≤ j ∧ j < n) (kk : mm_W D code nx ls (iv (rd m i j.toNat) :: r) (fm m) Q) : mm_W D code pc ls (iv j :: .ref i :: r) (fm m) Q := by
  have hr : rg j := by have := hR.2.1; unfold rg; omega
  refine w_st (fun F => ?_) kk
  have e2 : Nat.blt i 1000 = true := by rw [mm_blt]; exact decide_eq_true (by have := hR.1; omega)
  have e3 : mm_hg (fm m) i = some (.inr (.int, ra n (m.1 i))) := (hp_get hR.1).trans (congrArg some (hR.2.2 _ _))
  have e4 : (ra n (m.1 i))[j.toNat]? = some (.int (m.1 i j.toNat)) := ra_get (by omega)
  rw [hc]
  simp only [a_iald, decide_eq_false (of_nn hr hj.1), cond_false, e2, cond_true, e3, cl_of hr, e4]
  show _ = some (Sum.inl (nx, ls, Value.int (Int32.ofInt (m.1 i j.toNat).toInt) :: r, fm m))
  rw [of_to]
theorem f_st {n : Nat} {j : Int} (hR : isR n i) (hc : code pc = a_iast nx) (hj : 0 ≤ j ∧ j < n) {m2 : Mm} (hm : m2 = wt m i j.toNat a) (kk : mm_W D code nx ls r (fm m2) Q) : mm_W D code pc ls (iv a :: iv j :: .ref i :: r) (fm m) Q := by
  subst hm
  have hr : rg j := by have := hR.2.1; unfold rg; omega
  refine w_st (fun F => ?_) kk
  have e3 : mm_hg (fm m) i = some (.inr (.int, ra n (m.1 i))) := (hp_get hR.1).trans (congrArg some (hR.2.2 _ _))
  have e4 : mm_in (Int32.ofInt j) (ra n (m.1 i)).length = true := by rw [ra_len]; exact mm_in_of (by rw [to_of_rg hr]; exact hj.1) (by rw [to_of_rg hr]; exact hj.2)
  rw [hc]
  simp only [a_iast, e3, e4, cond_true, mm_lK_eq, cl_of hr, ra_set]
  have e5 := hp_put (V := cV m) (i := i) (c := .inr (.int, ra n (u1 (m.1 i) j.toNat (Int32.ofInt a)))) hR.1 (fun h2 => some (Sum.inl (nx, ls, r, h2) : mm_O))
  refine e5.trans ?_
  rw [← hR.2.2 _ (m.2 i), fm_up]
  rfl
theorem f_len {n : Nat} (hR : isR n i) (hc : code pc = a_alen mm_xt nx) (kk : mm_W D code nx ls (iv n :: r) (fm m) Q) : mm_W D code pc ls (.ref i :: r) (fm m) Q := by
  refine w_st (fun F => ?_) kk
  have e2 : Nat.blt i 1000 = true := by rw [mm_blt]; exact decide_eq_true (by have := hR.1; omega)
  have e3 : mm_hg (fm m) i = some (.inr (.int, ra n (m.1 i))) := (hp_get hR.1).trans (congrArg some (hR.2.2 _ _))
  have e4 : mm_ty .int = true := rfl
  rw [hc]
  simp only [a_alen, e2, cond_true, e3, e4, ra_len, mm_fI_eq]
  rfl
theorem f_ac {nb nd b d : Nat} {n sp dp : Int} (hB : isR nb b) (hD : isR nd d) (hc : code pc = a_ac nx) (h1 : 0 ≤ sp ∧ 0 ≤ dp ∧ 0 ≤ n ∧ sp + n ≤ nb ∧ dp + n ≤ nd) (hr : Nat.ble (mm_cat r) 8 = true) {m2 : Mm} (hm : m2 = cpm m b sp.toNat d dp.toNat n.toNat) (kk : mm_W D code nx ls r (fm m2) Q) : mm_W D code pc ls (iv n :: iv dp :: .ref d :: iv sp :: .ref b :: r) (fm m) Q := by
  subst hm
  obtain ⟨h1, h2, h3, h4, h5⟩ := h1
  have z1 := hB.2.1
  have z2 := hD.2.1
  have r1 : rg n := by unfold rg; omega
  have r2 : rg sp := by unfold rg; omega
  have r3 : rg dp := by unfold rg; omega
  refine w_st (fun F => ?_) kk
  have e3 : mm_hg (fm m) b = some (.inr (.int, ra nb (m.1 b))) := (hp_get hB.1).trans (congrArg some (hB.2.2 _ _))
  have e4 : mm_hg (fm m) d = some (.inr (.int, ra nd (m.1 d))) := (hp_get hD.1).trans (congrArg some (hD.2.2 _ _))
  have b1 : Nat.ble (sp.toNat + n.toNat) nb = true := Nat.ble_eq_true_of_le (by omega)
  have b2 : Nat.ble (dp.toNat + n.toNat) nd = true := Nat.ble_eq_true_of_le (by omega)
  rw [hc]
  simp only [a_ac, e3, e4, hr, decide_eq_false (of_nn r1 h3), decide_eq_false (of_nn r3 h2), decide_eq_false (of_nn r2 h1), cl_of r1, cl_of r2, cl_of r3, ra_len, b1, b2, ra_fit, Bool.not_false, Bool.and_self, cond_true]
  have e5 := hp_put (V := cV m) (i := d) (c := .inr (.int, mm_cp (ra nb (m.1 b)) (ra nd (m.1 d)) sp.toNat dp.toNat n.toNat)) hD.1 (fun h2 => some (Sum.inl (nx, ls, r, h2) : mm_O))
  refine e5.trans ?_
  rw [ra_cp (by omega) (by omega), ← hD.2.2 _ (m.2 d), fm_cp]
  rfl
/-- bytes, booleans -/
theorem f_ldb {n : Nat} {j : Int} (hi : i < 341) (hR : ck i (m.1 i) (m.2 i) = .inr (.byte, ra n (m.1 i))) (hn : n < 100000) (hc : code pc = a_bald nx) (hj : 0 ≤ j ∧ j < n) (kk : mm_W D code nx ls (iv (rd m i j.toNat) :: r) (fm m) Q) : mm_W D code pc ls (iv j :: .ref i :: r) (fm m) Q := by
  have hr : rg j := by unfold rg; omega
  refine w_st (fun F => ?_) kk
  have e3 : mm_hg (fm m) i = some (.inr (.byte, ra n (m.1 i))) := (hp_get hi).trans (congrArg some hR)
  have e4 : (ra n (m.1 i))[j.toNat]? = some (.int (m.1 i j.toNat)) := ra_get (by omega)
  rw [hc]
  simp only [a_bald, decide_eq_false (of_nn hr hj.1), cond_false, e3, cl_of hr, e4]
  show _ = some (Sum.inl (nx, ls, Value.int (Int32.ofInt (m.1 i j.toNat).toInt) :: r, fm m))
  rw [of_to]
theorem f_ldz {n : Nat} {j : Int} (hi : i < 341) (hR : ck i (m.1 i) (m.2 i) = .inr (.boolean, ra n (m.1 i))) (hn : n < 100000) (hc : code pc = a_bald nx) (hj : 0 ≤ j ∧ j < n) (kk : mm_W D code nx ls (iv (rd m i j.toNat) :: r) (fm m) Q) : mm_W D code pc ls (iv j :: .ref i :: r) (fm m) Q := by
  have hr : rg j := by unfold rg; omega
  refine w_st (fun F => ?_) kk
  have e3 : mm_hg (fm m) i = some (.inr (.boolean, ra n (m.1 i))) := (hp_get hi).trans (congrArg some hR)
  have e4 : (ra n (m.1 i))[j.toNat]? = some (.int (m.1 i j.toNat)) := ra_get (by omega)
  rw [hc]
  simp only [a_bald, decide_eq_false (of_nn hr hj.1), cond_false, e3, cl_of hr, e4]
  show _ = some (Sum.inl (nx, ls, Value.int (Int32.ofInt (m.1 i j.toNat).toInt) :: r, fm m))
  rw [of_to]
theorem f_stb {n : Nat} {j : Int} (hi : i < 341) (hR : ∀ x : Nat → Int32, ck i x (m.2 i) = .inr (.byte, ra n x)) (hn : n < 100000) (hc : code pc = a_bast nx) (hj : 0 ≤ j ∧ j < n) {m2 : Mm} (hm : m2 = wt m i j.toNat (nb a)) (kk : mm_W D code nx ls r (fm m2) Q) : mm_W D code pc ls (iv a :: iv j :: .ref i :: r) (fm m) Q := by
  subst hm
  have hr : rg j := by unfold rg; omega
  refine w_st (fun F => ?_) kk
  have e3 : mm_hg (fm m) i = some (.inr (.byte, ra n (m.1 i))) := (hp_get hi).trans (congrArg some (hR _))
  have e4 : mm_in (Int32.ofInt j) (ra n (m.1 i)).length = true := by rw [ra_len]; exact mm_in_of (by rw [to_of_rg hr]; exact hj.1) (by rw [to_of_rg hr]; exact hj.2)
  have e6 : vp_nar .byte (Int32.ofInt a) = Int32.ofInt (nb a) := (of_to _).symm
  rw [hc]
  simp only [a_bast, e3, e4, cond_true, mm_lK_eq, mm_fI_eq, e6, cl_of hr, ra_set]
  have e5 := hp_put (V := cV m) (i := i) (c := .inr (.byte, ra n (u1 (m.1 i) j.toNat (Int32.ofInt (nb a))))) hi (fun h2 => some (Sum.inl (nx, ls, r, h2) : mm_O))
  refine e5.trans ?_
  rw [← hR, fm_up]
  rfl
theorem f_stz {n : Nat} {j : Int} (hi : i < 341) (hR : ∀ x : Nat → Int32, ck i x (m.2 i) = .inr (.boolean, ra n x)) (hn : n < 100000) (hc : code pc = a_bast nx) (hj : 0 ≤ j ∧ j < n) {m2 : Mm} (hm : m2 = wt m i j.toNat (nz a)) (kk : mm_W D code nx ls r (fm m2) Q) : mm_W D code pc ls (iv a :: iv j :: .ref i :: r) (fm m) Q := by
  subst hm
  have hr : rg j := by unfold rg; omega
  refine w_st (fun F => ?_) kk
  have e3 : mm_hg (fm m) i = some (.inr (.boolean, ra n (m.1 i))) := (hp_get hi).trans (congrArg some (hR _))
  have e4 : mm_in (Int32.ofInt j) (ra n (m.1 i)).length = true := by rw [ra_len]; exact mm_in_of (by rw [to_of_rg hr]; exact hj.1) (by rw [to_of_rg hr]; exact hj.2)
  have e6 : vp_nar .boolean (Int32.ofInt a) = Int32.ofInt (nz a) := (of_to _).symm
  rw [hc]
  simp only [a_bast, e3, e4, cond_true, mm_lK_eq, mm_fI_eq, e6, cl_of hr, ra_set]
  have e5 := hp_put (V := cV m) (i := i) (c := .inr (.boolean, ra n (u1 (m.1 i) j.toNat (Int32.ofInt (nz a))))) hi (fun h2 => some (Sum.inl (nx, ls, r, h2) : mm_O))
  refine e5.trans ?_
  rw [← hR, fm_up]
  rfl
/-- longs -/
theorem f_ldl {n : Nat} {j : Int} (hi : i < 341) (hR : ck i (m.1 i) (m.2 i) = .inr (.long, rl n (m.2 i))) (hn : n < 100000) (hc : code pc = a_lald nx) (hj : 0 ≤ j ∧ j < n) (kk : mm_W D code nx ls (lv (ld m i j.toNat) :: r) (fm m) Q) : mm_W D code pc ls (iv j :: .ref i :: r) (fm m) Q := by
  have hr : rg j := by unfold rg; omega
  refine w_st (fun F => ?_) kk
  have e3 : mm_hg (fm m) i = some (.inr (.long, rl n (m.2 i))) := (hp_get hi).trans (congrArg some hR)
  have e4 : (rl n (m.2 i))[j.toNat]? = some (.long (m.2 i j.toNat)) := rl_get (by omega)
  rw [hc]
  simp only [a_lald, decide_eq_false (of_nn hr hj.1), cond_false, e3, cl_of hr, e4]
  show _ = some (Sum.inl (nx, ls, Value.long (Int64.ofInt (m.2 i j.toNat).toInt) :: r, fm m))
  rw [of_tol]
theorem f_stl {n : Nat} {j : Int} (hi : i < 341) (hR : ∀ x : Nat → Int64, ck i (m.1 i) x = .inr (.long, rl n x)) (hn : n < 100000) (hc : code pc = a_last nx) (hj : 0 ≤ j ∧ j < n) {m2 : Mm} (hm : m2 = wl m i j.toNat a) (kk : mm_W D code nx ls r (fm m2) Q) : mm_W D code pc ls (lv a :: iv j :: .ref i :: r) (fm m) Q := by
  subst hm
  have hr : rg j := by unfold rg; omega
  refine w_st (fun F => ?_) kk
  have e3 : mm_hg (fm m) i = some (.inr (.long, rl n (m.2 i))) := (hp_get hi).trans (congrArg some (hR _))
  have e4 : mm_in (Int32.ofInt j) (rl n (m.2 i)).length = true := by rw [rl_len]; exact mm_in_of (by rw [to_of_rg hr]; exact hj.1) (by rw [to_of_rg hr]; exact hj.2)
  rw [hc]
  simp only [a_last, e3, e4, cond_true, mm_lK_eq, cl_of hr, rl_set]
  have e5 := hp_put (V := cV m) (i := i) (c := .inr (.long, rl n (u2 (m.2 i) j.toNat (Int64.ofInt a)))) hi (fun h2 => some (Sum.inl (nx, ls, r, h2) : mm_O))
  refine e5.trans ?_
  rw [← hR, fm_upl]
  rfl
/-- rows of States -/
theorem f_ring {j : Int} (hc : code pc = a_aald nx) (hj : 0 ≤ j ∧ j < 40) (kk : mm_W D code nx ls (.ref (59 + 5 * j.toNat) :: r) (fm m) Q) : mm_W D code pc ls (iv j :: .ref 56 :: r) (fm m) Q := by
  have hr : rg j := by unfold rg; omega
  refine w_st (fun F => ?_) kk
  obtain ⟨xs, e0, e4⟩ : ∃ xs : List Value, cV m 56 = .inr (.object "TippedCrates$State", xs) ∧ ∀ q, q < 40 → xs[q]? = some (.ref (59 + 5 * q)) := ⟨_, rfl, by decide +kernel⟩
  have e3 : mm_hg (fm m) 56 = some (.inr (.object "TippedCrates$State", xs)) := (hp_get (by decide)).trans (congrArg some e0)
  have e5 : mm_ty (.object "TippedCrates$State") = true := by decide
  rw [hc]
  simp only [a_aald, decide_eq_false (of_nn hr hj.1), cond_false, e3, e5, cond_true, cl_of hr, e4 j.toNat (by omega)]
theorem f_slots {j : Int} (hc : code pc = a_aald nx) (hj : 0 ≤ j ∧ j < 3) (kk : mm_W D code nx ls (.ref (259 + 5 * j.toNat) :: r) (fm m) Q) : mm_W D code pc ls (iv j :: .ref 57 :: r) (fm m) Q := by
  have hr : rg j := by unfold rg; omega
  refine w_st (fun F => ?_) kk
  obtain ⟨xs, e0, e4⟩ : ∃ xs : List Value, cV m 57 = .inr (.object "TippedCrates$State", xs) ∧ ∀ q, q < 3 → xs[q]? = some (.ref (259 + 5 * q)) := ⟨_, rfl, by decide +kernel⟩
  have e3 : mm_hg (fm m) 57 = some (.inr (.object "TippedCrates$State", xs)) := (hp_get (by decide)).trans (congrArg some e0)
  have e5 : mm_ty (.object "TippedCrates$State") = true := by decide
  rw [hc]
  simp only [a_aald, decide_eq_false (of_nn hr hj.1), cond_false, e3, e5, cond_true, cl_of hr, e4 j.toNat (by omega)]
/-- static rows -/
def sx (q : Nat) (j : Int) : Int := ((mm_sl.getD q []).getD j.toNat 0).toInt
theorem sx_rg (q : Nat) (j : Int) : rg (sx q j) := i_rg _
theorem f_sx {n : Nat} {j : Int} (q : Nat) (hq : q < 5) (hn : (mm_sl.getD q []).length = n) (hc : code pc = a_iald mm_xt nx) (hj : 0 ≤ j ∧ j < n) (kk : mm_W D code nx ls (iv (sx q j) :: r) h Q) : mm_W D code pc ls (iv j :: .ref (1000 + q) :: r) h Q := by
  have hn2 : n ≤ 7 := by
    have k : ∀ q, q < 5 → (mm_sl.getD q []).length ≤ 7 := by decide
    rw [← hn]; exact k q hq
  have hr : rg j := by unfold rg; omega
  refine w_st (fun F => ?_) kk
  have e2 : Nat.blt (1000 + q) 1000 = false := by rw [mm_blt]; exact decide_eq_false (by omega)
  have e3 : 1000 + q - 1000 = q := by omega
  have e6 : mm_xt q = some (mm_sl.getD q []) := by
    show mm_sl[q]? = some (mm_sl.getD q [])
    have hl : mm_sl.length = 5 := rfl
    rw [List.getD_eq_getElem?_getD, List.getElem?_eq_getElem (by omega)]
    rfl
  have e4 : (mm_sl.getD q [])[j.toNat]? = some ((mm_sl.getD q []).getD j.toNat 0) := by
    generalize mm_sl.getD q [] = xs at hn
    rw [List.getD_eq_getElem?_getD, List.getElem?_eq_getElem (by omega)]
    rfl
  rw [hc]
  simp only [a_iald, decide_eq_false (of_nn hr hj.1), cond_false, e2, e3, e6, cl_of hr, e4]
  show _ = some (Sum.inl (nx, ls, Value.int (Int32.ofInt ((mm_sl.getD q []).getD j.toNat 0).toInt) :: r, h))
  rw [of_to]
/-- returns -/
theorem f_iret {Q : Mm → Int → Prop} (hc : code pc = a_iret .int) (ha : rg a) (q : Q m a) : mm_W D code pc ls [iv a] (fm m) (XK Q) := w_rt (fun F => by rw [hc]; rfl) ⟨m, a, rfl, rfl, ha, q⟩
theorem f_zret {Q : Mm → Int → Prop} (hc : code pc = a_iret .boolean) (ha : rg a) (hz : a = 0 ∨ a = 1) (q : Q m a) : mm_W D code pc ls [iv a] (fm m) (XK Q) := w_rt (fun F => by rw [hc]; rcases hz with rfl | rfl <;> rfl) ⟨m, a, rfl, rfl, ha, q⟩
theorem f_lret {Q : Mm → Int → Prop} (hc : code pc = a_lret) (ha : rgl a) (q : Q m a) : mm_W D code pc ls [lv a] (fm m) (XL Q) := w_rt (fun F => by rw [hc]; rfl) ⟨m, a, rfl, rfl, ha, q⟩
theorem f_ret {Q : Mm → Prop} (hc : code pc = a_ret) (q : Q m) : mm_W D code pc ls [] (fm m) (XV Q) := w_rt (fun F => by rw [hc]; rfl) ⟨m, rfl, rfl, q⟩
/-- calls -/
theorem k_SK {k n : Nat} {as : List Value} {P : Mm → Int → Prop} (hc : code pc = a_ivS k n nx) (hm : ∀ pc, mm_mo (code pc)) (hst : st = as.reverse ++ r) (hn : as.length = n) (hr : Nat.ble (mm_cat r) 8 = true) (hK : CK D k as m P) (kk : ∀ m2 v, rg v → P m2 v → mm_W D code nx ls (iv v :: r) (fm m2) Q) : mm_W D code pc ls st (fm m) Q :=
  w_ivS hc hm hst hn hr (mm_K.mono hK (Nat.le_refl D) (fun _ _ ⟨m2, v, e1, e2, e3, q⟩ => by subst e1 e2; exact kk m2 v e3 q))
theorem k_SV {k n : Nat} {as : List Value} {P : Mm → Prop} (hc : code pc = a_ivS k n nx) (hm : ∀ pc, mm_mo (code pc)) (hst : st = as.reverse ++ r) (hn : as.length = n) (hr : Nat.ble (mm_cat r) 8 = true) (hK : CV D k as m P) (kk : ∀ m2, P m2 → mm_W D code nx ls r (fm m2) Q) : mm_W D code pc ls st (fm m) Q :=
  w_ivS hc hm hst hn hr (mm_K.mono hK (Nat.le_refl D) (fun _ _ ⟨m2, e1, e2, q⟩ => by subst e1 e2; exact kk m2 q))
theorem k_SL {k n : Nat} {as : List Value} {P : Mm → Int → Prop} (hc : code pc = a_ivS k n nx) (hm : ∀ pc, mm_mo (code pc)) (hst : st = as.reverse ++ r) (hn : as.length = n) (hr : Nat.ble (mm_cat r) 8 = true) (hK : CL D k as m P) (kk : ∀ m2 v, rgl v → P m2 v → mm_W D code nx ls (lv v :: r) (fm m2) Q) : mm_W D code pc ls st (fm m) Q :=
  w_ivS hc hm hst hn hr (mm_K.mono hK (Nat.le_refl D) (fun _ _ ⟨m2, v, e1, e2, e3, q⟩ => by subst e1 e2; exact kk m2 v e3 q))
theorem fm_cl {ci : Nat} {fs : List Value} (hi : i < 341) (hg : ck i (m.1 i) (m.2 i) = .inl (ci, fs)) : mm_hg (fm m) i = some (.inl (ci, fs)) := (hp_get hi).trans (congrArg some hg)
theorem k_VK {ci k n : Nat} {as fs : List Value} {P : Mm → Int → Prop} (hc : code pc = a_ivV ci k n nx) (hm : ∀ pc, mm_mo (code pc)) (hst : st = as.reverse ++ (.ref i :: r)) (hn : as.length = n) (hi : i < 341) (hg : ck i (m.1 i) (m.2 i) = .inl (ci, fs)) (hr : Nat.ble (mm_cat r) 8 = true) (hK : CK D k (.ref i :: as) m P) (kk : ∀ m2 v, rg v → P m2 v → mm_W D code nx ls (iv v :: r) (fm m2) Q) : mm_W D code pc ls st (fm m) Q :=
  w_ivV hc hm hst hn (fm_cl hi hg) hr (mm_K.mono hK (Nat.le_refl D) (fun _ _ ⟨m2, v, e1, e2, e3, q⟩ => by subst e1 e2; exact kk m2 v e3 q))
theorem k_VV {ci k n : Nat} {as fs : List Value} {P : Mm → Prop} (hc : code pc = a_ivV ci k n nx) (hm : ∀ pc, mm_mo (code pc)) (hst : st = as.reverse ++ (.ref i :: r)) (hn : as.length = n) (hi : i < 341) (hg : ck i (m.1 i) (m.2 i) = .inl (ci, fs)) (hr : Nat.ble (mm_cat r) 8 = true) (hK : CV D k (.ref i :: as) m P) (kk : ∀ m2, P m2 → mm_W D code nx ls r (fm m2) Q) : mm_W D code pc ls st (fm m) Q :=
  w_ivV hc hm hst hn (fm_cl hi hg) hr (mm_K.mono hK (Nat.le_refl D) (fun _ _ ⟨m2, e1, e2, q⟩ => by subst e1 e2; exact kk m2 q))
theorem k_XK {ns k n : Nat} {as : List Value} {P : Mm → Int → Prop} (hc : code pc = a_ivX ns k n nx) (hm : ∀ pc, mm_mo (code pc)) (hst : st = as.reverse ++ (.ref i :: r)) (hn : as.length = n) (hg : (Nat.ble 1100 i && Nat.blt (i - 1100) ns) = true) (hr : Nat.ble (mm_cat r) 8 = true) (hK : CK D k (.ref i :: as) m P) (kk : ∀ m2 v, rg v → P m2 v → mm_W D code nx ls (iv v :: r) (fm m2) Q) : mm_W D code pc ls st (fm m) Q :=
  w_ivX hc hm hst hn hg hr (mm_K.mono hK (Nat.le_refl D) (fun _ _ ⟨m2, v, e1, e2, e3, q⟩ => by subst e1 e2; exact kk m2 v e3 q))
end FR
