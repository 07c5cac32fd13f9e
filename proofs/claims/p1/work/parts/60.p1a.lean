/-! One call on a fresh object: what is common to all. -/
section WP2
variable {D : Nat} {code : Nat → mm_A} {pc : Nat} {ls : List (Option Value)} {r : List Value} {h : mm_H} {Q : mm_Q}
theorem w_icT {t : Int32 → Int32 → Bool} {tgt nx : Nat} {x y : Int32} (hc : code pc = a_ic t tgt nx) (hq : t x y = true) (k : mm_W D code tgt ls r h Q) : mm_W D code pc ls (.int y :: .int x :: r) h Q := w_ic hc (fun _ => k) (fun q => absurd (hq.symm.trans q) (by decide))
theorem w_icF {t : Int32 → Int32 → Bool} {tgt nx : Nat} {x y : Int32} (hc : code pc = a_ic t tgt nx) (hq : t x y = false) (k : mm_W D code nx ls r h Q) : mm_W D code pc ls (.int y :: .int x :: r) h Q := w_ic hc (fun q => absurd (hq.symm.trans q) (by decide)) (fun _ => k)
theorem w_ifT {t : Int32 → Bool} {tgt nx : Nat} {x : Int32} (hc : code pc = a_if t tgt nx) (hq : t x = true) (k : mm_W D code tgt ls r h Q) : mm_W D code pc ls (.int x :: r) h Q := w_ifz hc (fun _ => k) (fun q => absurd (hq.symm.trans q) (by decide))
theorem w_ifF {t : Int32 → Bool} {tgt nx : Nat} {x : Int32} (hc : code pc = a_if t tgt nx) (hq : t x = false) (k : mm_W D code nx ls r h Q) : mm_W D code pc ls (.int x :: r) h Q := w_ifz hc (fun q => absurd (hq.symm.trans q) (by decide)) (fun _ => k)
theorem w_tswO {lo hi : Int} {ts : List Nat} {df : Nat} {x : Int32} (hc : code pc = a_tsw lo hi ts df) (hq : x.toInt < lo ∨ hi < x.toInt) (k : mm_W D code df ls r h Q) : mm_W D code pc ls (.int x :: r) h Q :=
  w_st (fun F => by
    rw [hc]
    show (bif decide (x.toInt < lo) || decide (hi < x.toInt) then some (Sum.inl (df, ls, r, h)) else _) = _
    have e : (decide (x.toInt < lo) || decide (hi < x.toInt)) = true := by
      rcases hq with q | q
      · rw [decide_eq_true q]; rfl
      · rw [decide_eq_true q, Bool.or_true]
    rw [e]
    rfl) k
end WP2
def mm_b (p : Prop) [Decidable p] : Int32 := if p then 1 else 0
theorem mm_bT {p : Prop} [Decidable p] (h : p) : mm_b p = 1 := if_pos h
theorem mm_bF {p : Prop} [Decidable p] (h : ¬ p) : mm_b p = 0 := if_neg h
/-- the class's answer is the model's -/
def p1_pr (kx km : Nat) (as : List Value) : Prop := mm_K 9 kx (.ref 0 :: as) hM (fun h2 v => ∃ (z : Int32) (fs : List Value), v = some (.int z) ∧ mm_hg h2 284 = some (.inl (12, fs)) ∧ mm_K 9 km (.ref 284 :: as) h2 (fun h3 w => w = some (.int z) ∧ h3.1 ≤ 600000 ∧ h3.2.1 ≤ 7302250))
noncomputable def p1_t2 (km : Nat) (as : List Value) (z : Int32) (h2 : mm_H) : Bool := match mm_exec mm_cd mm_nL 20000 9 km (.ref 284 :: as) h2 with
  | some (h3, some (.int y)) => mm_eV (.int z) (.int y) && (Nat.ble h3.1 600000 && Nat.ble h3.2.1 7302250)
  | _ => false
def p1_t3 (h2 : mm_H) : Bool := match mm_hg h2 284 with
  | some (.inl (c, _)) => Nat.beq c 12
  | _ => false
noncomputable def p1_t (kx km : Nat) (as : List Value) : Bool := match mm_exec mm_cd mm_nL 20000 9 kx (.ref 0 :: as) hM with
  | some (h2, some (.int z)) => p1_t3 h2 && p1_t2 km as z h2
  | _ => false
theorem p1_t_ok {kx km : Nat} {as : List Value} (e : p1_t kx km as = true) : p1_pr kx km as := by
  unfold p1_t at e
  split at e
  · next h2 z hx =>
    rw [Bool.and_eq_true] at e
    obtain ⟨e1, e2⟩ := e
    unfold p1_t3 at e1
    split at e1
    · next c fs hg =>
      have := Nat.eq_of_beq_eq_true e1
      subst this
      unfold p1_t2 at e2
      split at e2
      · next h3 y hm =>
        rw [Bool.and_eq_true, Bool.and_eq_true] at e2
        have := mm_eV_eq e2.1
        exact mm_K.calc hx ⟨z, fs, rfl, hg, mm_K.calc hm ⟨by rw [this], Nat.le_of_ble_eq_true e2.2.1, Nat.le_of_ble_eq_true e2.2.2⟩⟩
      · cases e2
    · cases e1
  · cases e
/-- both answer a number, and the heap stays as it is at the class's -/
theorem p1_both {kx km : Nat} {as : List Value} {z : Int32} (hx : mm_K 9 kx (.ref 0 :: as) hM (fun h2 v => h2 = hM ∧ v = some (.int z))) (hm : mm_K 9 km (.ref 284 :: as) hM (fun h3 w => h3 = hM ∧ w = some (.int z))) : p1_pr kx km as := by
  refine hx.mono (Nat.le_refl _) ?_
  rintro _ _ ⟨rfl, rfl⟩
  refine ⟨z, _, rfl, rfl, hm.mono (Nat.le_refl _) ?_⟩
  rintro _ _ ⟨rfl, rfl⟩
  exact ⟨rfl, Nat.le_of_ble_eq_true rfl, Nat.le_of_ble_eq_true rfl⟩
theorem p1_in {x : Int32} {k : Nat} (hk : k < 2147483648) (h : 0 ≤ x ∧ x ≤ Int32.ofNat k) : ∃ n, n < k + 1 ∧ x = Int32.ofNat n := by
  refine ⟨x.toNatClampNeg, ?_, (Int32.ofNat_toNatClampNeg x h.1).symm⟩
  have h1 := Int32.le_iff_toInt_le.mp h.1
  have h2 := Int32.le_iff_toInt_le.mp h.2
  rw [Int32.toInt_ofNat_of_lt (by simpa using hk)] at h2
  have h3 : x.toNatClampNeg = x.toInt.toNat := rfl
  have h4 : (0 : Int32).toInt = 0 := rfl
  omega
section WP3
variable {D : Nat} {code : Nat → mm_A} {pc : Nat} {ls : List (Option Value)} {r : List Value} {h : mm_H} {Q : mm_Q}
theorem w_get {ci k nx i : Nat} {fs : List Value} {v : Value} (hc : code pc = a_get ci k nx) (hg : mm_hg h i = some (.inl (ci, fs))) (hv : fs[k]? = some v) (kk : mm_W D code nx ls (v :: r) h Q) : mm_W D code pc ls (.ref i :: r) h Q :=
  w_st (fun F => by rw [hc]; simp only [a_get, hg, Nat.beq_refl, cond_true, hv]) kk
theorem w_iald {X : mm_X} {nx i : Nat} {xs : List Value} {j v : Int32} (hc : code pc = a_iald X nx) (hi : Nat.blt i 1000 = true) (hg : mm_hg h i = some (.inr (.int, xs))) (hj : ¬ j < 0) (hv : xs[j.toNatClampNeg]? = some (.int v)) (kk : mm_W D code nx ls (.int v :: r) h Q) : mm_W D code pc ls (.int j :: .ref i :: r) h Q :=
  w_st (fun F => by rw [hc]; simp only [a_iald, decide_eq_false hj, cond_false, hi, cond_true, hg, hv]) kk
end WP3
theorem p1_nn {m : Nat} (hm : m < 16) : ¬ (Int32.ofNat m < 0) := by
  rw [Int32.lt_iff_toInt_lt, Int32.toInt_ofNat_of_lt (by omega)]
  show ¬ ((m : Int) < (0 : Int32).toInt)
  have : (0 : Int32).toInt = 0 := rfl
  omega
/-- checks of single cells -/
def p1_sz (h : mm_H) : Bool := Nat.beq h.1 341 && Nat.beq h.2.1 33469
theorem p1_sz_eq {h : mm_H} (e : p1_sz h = true) : h.1 = 341 ∧ h.2.1 = 33469 := by
  unfold p1_sz at e
  rw [Bool.and_eq_true] at e
  exact ⟨Nat.eq_of_beq_eq_true e.1, Nat.eq_of_beq_eq_true e.2⟩
def p1_fd (h : mm_H) (i ci k : Nat) (w : Value) : Bool := match mm_hg h i with
  | some (.inl (c, fs)) => Nat.beq c ci && (match fs[k]? with
    | some v => mm_eV v w
    | none => false)
  | _ => false
theorem p1_fd_at {h : mm_H} {i ci k : Nat} {w : Value} (e : p1_fd h i ci k w = true) : ∃ fs, mm_hg h i = some (.inl (ci, fs)) ∧ fs[k]? = some w := by
  unfold p1_fd at e
  split at e
  · next c fs hg =>
    rw [Bool.and_eq_true] at e
    have e1 := Nat.eq_of_beq_eq_true e.1
    subst e1
    have e2 := e.2
    split at e2
    · next v hv => exact ⟨fs, hg, by rw [hv, mm_eV_eq e2]⟩
    · cases e2
  · cases e
def p1_z (h : mm_H) (i : Nat) : Bool := match mm_hg h i with
  | some (.inr (.int, xs)) => (List.range 16).all (fun j => match xs[j]? with
    | some v => mm_eV v (.int 0)
    | none => false)
  | _ => false
theorem p1_z_at {h : mm_H} {i : Nat} (e : p1_z h i = true) : ∃ xs, mm_hg h i = some (.inr (.int, xs)) ∧ ∀ j, j < 16 → xs[j]? = some (.int 0) := by
  unfold p1_z at e
  split at e
  · next xs hg =>
    refine ⟨xs, hg, fun j hj => ?_⟩
    have e2 := List.all_eq_true.mp e j (List.mem_range.mpr hj)
    split at e2
    · next v hv => rw [hv, mm_eV_eq e2]
    · cases e2
  · cases e
noncomputable def p1_eq (h : mm_H) (i : Nat) : Bool := mm_eO (mm_hg h i) (mm_hg hM i)
theorem p1_eq_at {h : mm_H} {i : Nat} (e : p1_eq h i = true) : mm_hg h i = mm_hg hM i := mm_eO_eq e
set_option maxRecDepth 20000 in
theorem c_wiT {x lo hi : Int32} (h : mm_H) (q : lo ≤ x ∧ x ≤ hi) : mm_K 1 166 [.int x, .int lo, .int hi] h (fun h2 v => h2 = h ∧ v = some (.int 1)) := by
  refine mm_K.of rfl ?_
  show mm_W 0 mc_166 0 [some (.int x), some (.int lo), some (.int hi)] [] h _
  refine w_st (fun _ => rfl) ?_
  refine w_st (fun _ => rfl) ?_
  refine w_icF rfl (decide_eq_false (Int32.not_lt.mpr q.1)) ?_
  refine w_st (fun _ => rfl) ?_
  refine w_st (fun _ => rfl) ?_
  refine w_icF rfl (decide_eq_false (Int32.not_lt.mpr q.2)) ?_
  refine w_st (fun _ => rfl) ?_
  refine w_st (fun _ => rfl) ?_
  exact w_rt (fun _ => rfl) ⟨⟨Nat.le_refl _, Nat.le_refl _⟩, rfl, rfl⟩
set_option maxRecDepth 20000 in
theorem c_wiF {x lo hi : Int32} (h : mm_H) (q : ¬ (lo ≤ x ∧ x ≤ hi)) : mm_K 1 166 [.int x, .int lo, .int hi] h (fun h2 v => h2 = h ∧ v = some (.int 0)) := by
  by_cases c : x < lo
  · refine mm_K.of rfl ?_
    show mm_W 0 mc_166 0 [some (.int x), some (.int lo), some (.int hi)] [] h _
    refine w_st (fun _ => rfl) ?_
    refine w_st (fun _ => rfl) ?_
    refine w_icT rfl (decide_eq_true c) ?_
    refine w_st (fun _ => rfl) ?_
    exact w_rt (fun _ => rfl) ⟨⟨Nat.le_refl _, Nat.le_refl _⟩, rfl, rfl⟩
  · refine mm_K.of rfl ?_
    show mm_W 0 mc_166 0 [some (.int x), some (.int lo), some (.int hi)] [] h _
    refine w_st (fun _ => rfl) ?_
    refine w_st (fun _ => rfl) ?_
    refine w_icF rfl (decide_eq_false c) ?_
    refine w_st (fun _ => rfl) ?_
    refine w_st (fun _ => rfl) ?_
    refine w_icT rfl (decide_eq_true (Int32.not_le.mp fun e => q ⟨Int32.not_lt.mp c, e⟩)) ?_
    refine w_st (fun _ => rfl) ?_
    exact w_rt (fun _ => rfl) ⟨⟨Nat.le_refl _, Nat.le_refl _⟩, rfl, rfl⟩
set_option maxRecDepth 20000 in
theorem c_inT {x lo hi : Int32} (h : mm_H) (q : lo ≤ x ∧ x ≤ hi) : mm_K 1 206 [.int x, .int lo, .int hi] h (fun h2 v => h2 = h ∧ v = some (.int 1)) := by
  refine mm_K.of rfl ?_
  show mm_W 0 mc_206 0 [some (.int x), some (.int lo), some (.int hi)] [] h _
  refine w_st (fun _ => rfl) ?_
  refine w_st (fun _ => rfl) ?_
  refine w_icF rfl (decide_eq_false (Int32.not_lt.mpr q.1)) ?_
  refine w_st (fun _ => rfl) ?_
  refine w_st (fun _ => rfl) ?_
  refine w_icF rfl (decide_eq_false (Int32.not_lt.mpr q.2)) ?_
  refine w_st (fun _ => rfl) ?_
  refine w_st (fun _ => rfl) ?_
  exact w_rt (fun _ => rfl) ⟨⟨Nat.le_refl _, Nat.le_refl _⟩, rfl, rfl⟩
set_option maxRecDepth 20000 in
theorem c_inF {x lo hi : Int32} (h : mm_H) (q : ¬ (lo ≤ x ∧ x ≤ hi)) : mm_K 1 206 [.int x, .int lo, .int hi] h (fun h2 v => h2 = h ∧ v = some (.int 0)) := by
  by_cases c : x < lo
  · refine mm_K.of rfl ?_
    show mm_W 0 mc_206 0 [some (.int x), some (.int lo), some (.int hi)] [] h _
    refine w_st (fun _ => rfl) ?_
    refine w_st (fun _ => rfl) ?_
    refine w_icT rfl (decide_eq_true c) ?_
    refine w_st (fun _ => rfl) ?_
    exact w_rt (fun _ => rfl) ⟨⟨Nat.le_refl _, Nat.le_refl _⟩, rfl, rfl⟩
  · refine mm_K.of rfl ?_
    show mm_W 0 mc_206 0 [some (.int x), some (.int lo), some (.int hi)] [] h _
    refine w_st (fun _ => rfl) ?_
    refine w_st (fun _ => rfl) ?_
    refine w_icF rfl (decide_eq_false c) ?_
    refine w_st (fun _ => rfl) ?_
    refine w_st (fun _ => rfl) ?_
    refine w_icT rfl (decide_eq_true (Int32.not_le.mp fun e => q ⟨Int32.not_lt.mp c, e⟩)) ?_
    refine w_st (fun _ => rfl) ?_
    exact w_rt (fun _ => rfl) ⟨⟨Nat.le_refl _, Nat.le_refl _⟩, rfl, rfl⟩
theorem p1_no (x : Int32) : ¬ ((0 : Int32) ≤ x ∧ x ≤ 0 - 1) := fun ⟨a, b⟩ => absurd (Int32.le_trans a b) (by decide)
set_option maxRecDepth 20000 in
theorem c_cr (x : Int32) : mm_K 2 162 [.ref 0, .int x] hM (fun h2 v => h2 = hM ∧ v = some (.int 0)) := by
  refine mm_K.of rfl ?_
  show mm_W 1 mc_162 0 [some (.ref 0), some (.int x)] [] hM _
  refine w_st (fun _ => rfl) ?_
  refine w_st (fun _ => rfl) ?_
  refine w_st (fun _ => rfl) ?_
  refine w_st (fun _ => rfl) ?_
  refine w_st (fun _ => rfl) ?_
  refine w_st (fun _ => rfl) ?_
  refine w_i2 rfl ?_
  refine w_ivS (as := [_, _, _]) rfl mg_162 rfl rfl rfl ?_
  refine (c_wiF (lo := 0) (hi := 0 - 1) hM (p1_no x)).mono (Nat.le_of_ble_eq_true rfl) ?_
  rintro _ _ ⟨rfl, rfl⟩
  exact w_rt (fun _ => rfl) ⟨⟨Nat.le_refl _, Nat.le_refl _⟩, rfl, rfl⟩
set_option maxRecDepth 20000 in
theorem c_flT {x : Int32} (q : ((0 : Int32) ≤ x ∧ x ≤ 4 * 4 - 1)) : mm_K 2 163 [.ref 0, .int x] hM (fun h2 v => h2 = hM ∧ v = some (.int 1)) := by
  refine mm_K.of rfl ?_
  show mm_W 1 mc_163 0 [some (.ref 0), some (.int x)] [] hM _
  refine w_st (fun _ => rfl) ?_
  refine w_st (fun _ => rfl) ?_
  refine w_st (fun _ => rfl) ?_
  refine w_st (fun _ => rfl) ?_
  refine w_st (fun _ => rfl) ?_
  refine w_st (fun _ => rfl) ?_
  refine w_st (fun _ => rfl) ?_
  refine w_st (fun _ => rfl) ?_
  refine w_i2 rfl ?_
  refine w_st (fun _ => rfl) ?_
  refine w_i2 rfl ?_
  refine w_ivS (as := [_, _, _]) rfl mg_163 rfl rfl rfl ?_
  refine (c_wiT (lo := 0) (hi := 4 * 4 - 1) hM q).mono (Nat.le_of_ble_eq_true rfl) ?_
  rintro _ _ ⟨rfl, rfl⟩
  exact w_rt (fun _ => rfl) ⟨⟨Nat.le_refl _, Nat.le_refl _⟩, rfl, rfl⟩
set_option maxRecDepth 20000 in
theorem c_mkT {x : Int32} (h : mm_H) (q : ((0 : Int32) ≤ x ∧ x ≤ 9)) : mm_K 2 164 [.int x] h (fun h2 v => h2 = h ∧ v = some (.int 1)) := by
  refine mm_K.of rfl ?_
  show mm_W 1 mc_164 0 [some (.int x)] [] h _
  refine w_st (fun _ => rfl) ?_
  refine w_st (fun _ => rfl) ?_
  refine w_st (fun _ => rfl) ?_
  refine w_ivS (as := [_, _, _]) rfl mg_164 rfl rfl rfl ?_
  refine (c_wiT (lo := 0) (hi := 9) h q).mono (Nat.le_of_ble_eq_true rfl) ?_
  rintro _ _ ⟨rfl, rfl⟩
  exact w_rt (fun _ => rfl) ⟨⟨Nat.le_refl _, Nat.le_refl _⟩, rfl, rfl⟩
set_option maxRecDepth 20000 in
theorem m_mkT {x : Int32} (h : mm_H) (q : ((0 : Int32) ≤ x ∧ x ≤ 9)) : mm_K 2 211 [.int x] h (fun h2 v => h2 = h ∧ v = some (.int 1)) := by
  refine mm_K.of rfl ?_
  show mm_W 1 mc_211 0 [some (.int x)] [] h _
  refine w_st (fun _ => rfl) ?_
  refine w_st (fun _ => rfl) ?_
  refine w_st (fun _ => rfl) ?_
  refine w_ivS (as := [_, _, _]) rfl mg_211 rfl rfl rfl ?_
  refine (c_inT (lo := 0) (hi := 9) h q).mono (Nat.le_of_ble_eq_true rfl) ?_
  rintro _ _ ⟨rfl, rfl⟩
  exact w_rt (fun _ => rfl) ⟨⟨Nat.le_refl _, Nat.le_refl _⟩, rfl, rfl⟩
set_option maxRecDepth 20000 in
theorem m_loT {x : Int32} (h : mm_H) (q : ((0 : Int32) ≤ x ∧ x ≤ 60)) : mm_K 2 243 [.int x] h (fun h2 v => h2 = h ∧ v = some (.int 1)) := by
  refine mm_K.of rfl ?_
  show mm_W 1 mc_243 0 [some (.int x)] [] h _
  refine w_st (fun _ => rfl) ?_
  refine w_st (fun _ => rfl) ?_
  refine w_st (fun _ => rfl) ?_
  refine w_ivS (as := [_, _, _]) rfl mg_243 rfl rfl rfl ?_
  refine (c_inT (lo := 0) (hi := 60) h q).mono (Nat.le_of_ble_eq_true rfl) ?_
  rintro _ _ ⟨rfl, rfl⟩
  exact w_rt (fun _ => rfl) ⟨⟨Nat.le_refl _, Nat.le_refl _⟩, rfl, rfl⟩
set_option maxRecDepth 20000 in
theorem c_flF {x : Int32} (q : ¬ ((0 : Int32) ≤ x ∧ x ≤ 4 * 4 - 1)) : mm_K 2 163 [.ref 0, .int x] hM (fun h2 v => h2 = hM ∧ v = some (.int 0)) := by
  refine mm_K.of rfl ?_
  show mm_W 1 mc_163 0 [some (.ref 0), some (.int x)] [] hM _
  refine w_st (fun _ => rfl) ?_
  refine w_st (fun _ => rfl) ?_
  refine w_st (fun _ => rfl) ?_
  refine w_st (fun _ => rfl) ?_
  refine w_st (fun _ => rfl) ?_
  refine w_st (fun _ => rfl) ?_
  refine w_st (fun _ => rfl) ?_
  refine w_st (fun _ => rfl) ?_
  refine w_i2 rfl ?_
  refine w_st (fun _ => rfl) ?_
  refine w_i2 rfl ?_
  refine w_ivS (as := [_, _, _]) rfl mg_163 rfl rfl rfl ?_
  refine (c_wiF (lo := 0) (hi := 4 * 4 - 1) hM q).mono (Nat.le_of_ble_eq_true rfl) ?_
  rintro _ _ ⟨rfl, rfl⟩
  exact w_rt (fun _ => rfl) ⟨⟨Nat.le_refl _, Nat.le_refl _⟩, rfl, rfl⟩
set_option maxRecDepth 20000 in
theorem c_mkF {x : Int32} (h : mm_H) (q : ¬ ((0 : Int32) ≤ x ∧ x ≤ 9)) : mm_K 2 164 [.int x] h (fun h2 v => h2 = h ∧ v = some (.int 0)) := by
  refine mm_K.of rfl ?_
  show mm_W 1 mc_164 0 [some (.int x)] [] h _
  refine w_st (fun _ => rfl) ?_
  refine w_st (fun _ => rfl) ?_
  refine w_st (fun _ => rfl) ?_
  refine w_ivS (as := [_, _, _]) rfl mg_164 rfl rfl rfl ?_
  refine (c_wiF (lo := 0) (hi := 9) h q).mono (Nat.le_of_ble_eq_true rfl) ?_
  rintro _ _ ⟨rfl, rfl⟩
  exact w_rt (fun _ => rfl) ⟨⟨Nat.le_refl _, Nat.le_refl _⟩, rfl, rfl⟩
set_option maxRecDepth 20000 in
theorem m_mkF {x : Int32} (h : mm_H) (q : ¬ ((0 : Int32) ≤ x ∧ x ≤ 9)) : mm_K 2 211 [.int x] h (fun h2 v => h2 = h ∧ v = some (.int 0)) := by
  refine mm_K.of rfl ?_
  show mm_W 1 mc_211 0 [some (.int x)] [] h _
  refine w_st (fun _ => rfl) ?_
  refine w_st (fun _ => rfl) ?_
  refine w_st (fun _ => rfl) ?_
  refine w_ivS (as := [_, _, _]) rfl mg_211 rfl rfl rfl ?_
  refine (c_inF (lo := 0) (hi := 9) h q).mono (Nat.le_of_ble_eq_true rfl) ?_
  rintro _ _ ⟨rfl, rfl⟩
  exact w_rt (fun _ => rfl) ⟨⟨Nat.le_refl _, Nat.le_refl _⟩, rfl, rfl⟩
set_option maxRecDepth 20000 in
theorem m_loF {x : Int32} (h : mm_H) (q : ¬ ((0 : Int32) ≤ x ∧ x ≤ 60)) : mm_K 2 243 [.int x] h (fun h2 v => h2 = h ∧ v = some (.int 0)) := by
  refine mm_K.of rfl ?_
  show mm_W 1 mc_243 0 [some (.int x)] [] h _
  refine w_st (fun _ => rfl) ?_
  refine w_st (fun _ => rfl) ?_
  refine w_st (fun _ => rfl) ?_
  refine w_ivS (as := [_, _, _]) rfl mg_243 rfl rfl rfl ?_
  refine (c_inF (lo := 0) (hi := 60) h q).mono (Nat.le_of_ble_eq_true rfl) ?_
  rintro _ _ ⟨rfl, rfl⟩
  exact w_rt (fun _ => rfl) ⟨⟨Nat.le_refl _, Nat.le_refl _⟩, rfl, rfl⟩
set_option maxRecDepth 20000 in
theorem c_ar (k c l : Int32) : mm_K 3 161 [.ref 0, .int k, .int c, .int l] hM (fun h2 v => h2 = hM ∧ v = some (.int 0)) := by
  by_cases q : (0 : Int32) ≤ k ∧ k ≤ 0
  · refine mm_K.of rfl ?_
    show mm_W 2 mc_161 0 [some (.ref 0), some (.int k), some (.int c), some (.int l)] [] hM _
    refine w_st (fun _ => rfl) ?_
    refine w_st (fun _ => rfl) ?_
    refine w_st (fun _ => rfl) ?_
    refine w_st (fun _ => rfl) ?_
    refine w_st (fun _ => rfl) ?_
    refine w_ivS (as := [_, _, _]) rfl mg_161 rfl rfl rfl ?_
    refine (c_wiT (lo := 0) (hi := 0) hM q).mono (Nat.le_of_ble_eq_true rfl) ?_
    rintro _ _ ⟨rfl, rfl⟩
    refine w_st (fun _ => rfl) ?_
    refine w_st (fun _ => rfl) ?_
    refine w_st (fun _ => rfl) ?_
    refine w_ivV (as := [_]) rfl mg_161 rfl rfl rfl rfl ?_
    refine (c_cr c).mono (Nat.le_of_ble_eq_true rfl) ?_
    rintro _ _ ⟨rfl, rfl⟩
    refine w_st (fun _ => rfl) ?_
    refine w_st (fun _ => rfl) ?_
    exact w_rt (fun _ => rfl) ⟨⟨Nat.le_refl _, Nat.le_refl _⟩, rfl, rfl⟩
  · refine mm_K.of rfl ?_
    show mm_W 2 mc_161 0 [some (.ref 0), some (.int k), some (.int c), some (.int l)] [] hM _
    refine w_st (fun _ => rfl) ?_
    refine w_st (fun _ => rfl) ?_
    refine w_st (fun _ => rfl) ?_
    refine w_st (fun _ => rfl) ?_
    refine w_st (fun _ => rfl) ?_
    refine w_ivS (as := [_, _, _]) rfl mg_161 rfl rfl rfl ?_
    refine (c_wiF (lo := 0) (hi := 0) hM q).mono (Nat.le_of_ble_eq_true rfl) ?_
    rintro _ _ ⟨rfl, rfl⟩
    refine w_st (fun _ => rfl) ?_
    refine w_st (fun _ => rfl) ?_
    exact w_rt (fun _ => rfl) ⟨⟨Nat.le_refl _, Nat.le_refl _⟩, rfl, rfl⟩
set_option maxRecDepth 20000 in
theorem m_cr (x : Int32) : mm_K 2 210 [.ref 284, .int x] hM (fun h2 v => h2 = hM ∧ v = some (.int 0)) := by
  refine mm_K.of rfl ?_
  show mm_W 1 mc_210 0 [some (.ref 284), some (.int x)] [] hM _
  refine w_st (fun _ => rfl) ?_
  refine w_st (fun _ => rfl) ?_
  refine w_st (fun _ => rfl) ?_
  refine w_st (fun _ => rfl) ?_
  refine w_st (fun _ => rfl) ?_
  refine w_st (fun _ => rfl) ?_
  refine w_st (fun _ => rfl) ?_
  refine w_st (fun _ => rfl) ?_
  refine w_i2 rfl ?_
  refine w_ivS (as := [_, _, _]) rfl mg_210 rfl rfl rfl ?_
  refine (c_inF (lo := 0) (hi := 0 - 1) hM (p1_no x)).mono (Nat.le_of_ble_eq_true rfl) ?_
  rintro _ _ ⟨rfl, rfl⟩
  exact w_rt (fun _ => rfl) ⟨⟨Nat.le_refl _, Nat.le_refl _⟩, rfl, rfl⟩
set_option maxRecDepth 20000 in
theorem m_fs : mm_K 1 208 [.ref 284] hM (fun h2 v => h2 = hM ∧ v = some (.int (4 * 4))) := by
  refine mm_K.of rfl ?_
  show mm_W 0 mc_208 0 [some (.ref 284)] [] hM _
  refine w_st (fun _ => rfl) ?_
  refine w_st (fun _ => rfl) ?_
  refine w_st (fun _ => rfl) ?_
  refine w_st (fun _ => rfl) ?_
  refine w_st (fun _ => rfl) ?_
  refine w_st (fun _ => rfl) ?_
  refine w_st (fun _ => rfl) ?_
  refine w_st (fun _ => rfl) ?_
  refine w_st (fun _ => rfl) ?_
  refine w_st (fun _ => rfl) ?_
  refine w_i2 rfl ?_
  exact w_rt (fun _ => rfl) ⟨⟨Nat.le_refl _, Nat.le_refl _⟩, rfl, rfl⟩
set_option maxRecDepth 20000 in
theorem m_flT {x : Int32} (q : ((0 : Int32) ≤ x ∧ x ≤ 4 * 4 - 1)) : mm_K 2 209 [.ref 284, .int x] hM (fun h2 v => h2 = hM ∧ v = some (.int 1)) := by
  refine mm_K.of rfl ?_
  show mm_W 1 mc_209 0 [some (.ref 284), some (.int x)] [] hM _
  refine w_st (fun _ => rfl) ?_
  refine w_st (fun _ => rfl) ?_
  refine w_st (fun _ => rfl) ?_
  refine w_ivV (as := []) rfl mg_209 rfl rfl rfl rfl ?_
  refine (m_fs).mono (Nat.le_of_ble_eq_true rfl) ?_
  rintro _ _ ⟨rfl, rfl⟩
  refine w_st (fun _ => rfl) ?_
  refine w_i2 rfl ?_
  refine w_ivS (as := [_, _, _]) rfl mg_209 rfl rfl rfl ?_
  refine (c_inT (lo := 0) (hi := 4 * 4 - 1) hM q).mono (Nat.le_of_ble_eq_true rfl) ?_
  rintro _ _ ⟨rfl, rfl⟩
  exact w_rt (fun _ => rfl) ⟨⟨Nat.le_refl _, Nat.le_refl _⟩, rfl, rfl⟩
set_option maxRecDepth 20000 in
theorem m_flF {x : Int32} (q : ¬ ((0 : Int32) ≤ x ∧ x ≤ 4 * 4 - 1)) : mm_K 2 209 [.ref 284, .int x] hM (fun h2 v => h2 = hM ∧ v = some (.int 0)) := by
  refine mm_K.of rfl ?_
  show mm_W 1 mc_209 0 [some (.ref 284), some (.int x)] [] hM _
  refine w_st (fun _ => rfl) ?_
  refine w_st (fun _ => rfl) ?_
  refine w_st (fun _ => rfl) ?_
  refine w_ivV (as := []) rfl mg_209 rfl rfl rfl rfl ?_
  refine (m_fs).mono (Nat.le_of_ble_eq_true rfl) ?_
  rintro _ _ ⟨rfl, rfl⟩
  refine w_st (fun _ => rfl) ?_
  refine w_i2 rfl ?_
  refine w_ivS (as := [_, _, _]) rfl mg_209 rfl rfl rfl ?_
  refine (c_inF (lo := 0) (hi := 4 * 4 - 1) hM q).mono (Nat.le_of_ble_eq_true rfl) ?_
  rintro _ _ ⟨rfl, rfl⟩
  exact w_rt (fun _ => rfl) ⟨⟨Nat.le_refl _, Nat.le_refl _⟩, rfl, rfl⟩
set_option maxRecDepth 20000 in
theorem m_as (k c l : Int32) : mm_K 3 281 [.ref 284, .int k, .int c, .int l] hM (fun h2 v => h2 = hM ∧ v = some (.int 0)) := by
  by_cases q : (0 : Int32) ≤ k ∧ k ≤ 0
  · refine mm_K.of rfl ?_
    show mm_W 2 mc_281 0 [some (.ref 284), some (.int k), some (.int c), some (.int l)] [] hM _
    refine w_st (fun _ => rfl) ?_
    refine w_st (fun _ => rfl) ?_
    refine w_st (fun _ => rfl) ?_
    refine w_st (fun _ => rfl) ?_
    refine w_ivS (as := [_, _, _]) rfl mg_281 rfl rfl rfl ?_
    refine (c_inT (lo := 0) (hi := 0) hM q).mono (Nat.le_of_ble_eq_true rfl) ?_
    rintro _ _ ⟨rfl, rfl⟩
    refine w_st (fun _ => rfl) ?_
    refine w_st (fun _ => rfl) ?_
    refine w_st (fun _ => rfl) ?_
    refine w_ivV (as := [_]) rfl mg_281 rfl rfl rfl rfl ?_
    refine (m_cr c).mono (Nat.le_of_ble_eq_true rfl) ?_
    rintro _ _ ⟨rfl, rfl⟩
    refine w_st (fun _ => rfl) ?_
    refine w_st (fun _ => rfl) ?_
    exact w_rt (fun _ => rfl) ⟨⟨Nat.le_refl _, Nat.le_refl _⟩, rfl, rfl⟩
  · refine mm_K.of rfl ?_
    show mm_W 2 mc_281 0 [some (.ref 284), some (.int k), some (.int c), some (.int l)] [] hM _
    refine w_st (fun _ => rfl) ?_
    refine w_st (fun _ => rfl) ?_
    refine w_st (fun _ => rfl) ?_
    refine w_st (fun _ => rfl) ?_
    refine w_ivS (as := [_, _, _]) rfl mg_281 rfl rfl rfl ?_
    refine (c_inF (lo := 0) (hi := 0) hM q).mono (Nat.le_of_ble_eq_true rfl) ?_
    rintro _ _ ⟨rfl, rfl⟩
    refine w_st (fun _ => rfl) ?_
    refine w_st (fun _ => rfl) ?_
    exact w_rt (fun _ => rfl) ⟨⟨Nat.le_refl _, Nat.le_refl _⟩, rfl, rfl⟩
set_option maxRecDepth 1000000 in
theorem p1_kco : mm_is (mm_exec mm_cd mm_nL 2000 1 216 [.ref 284] hM) hM = true := by decide +kernel
theorem m_co : mm_K 1 216 [.ref 284] hM (fun h2 v => h2 = hM ∧ v = none) := mm_K.calc (mm_is_eq p1_kco) ⟨rfl, rfl⟩
