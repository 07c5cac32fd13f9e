/-! Numbers as Int, memory as numbers -/
abbrev Mm : Type := (Nat → Nat → Int32) × (Nat → Nat → Int64)
def ra (n : Nat) (a : Nat → Int32) : List Value := (List.range n).map (fun j => Value.int (a j))
def rl (n : Nat) (a : Nat → Int64) : List Value := (List.range n).map (fun j => Value.long (a j))
def rd (m : Mm) (i j : Nat) : Int := (m.1 i j).toInt
def ld (m : Mm) (i j : Nat) : Int := (m.2 i j).toInt
def u1 (a : Nat → Int32) (j : Nat) (v : Int32) : Nat → Int32 := fun q => if q = j then v else a q
def u2 (a : Nat → Int64) (j : Nat) (v : Int64) : Nat → Int64 := fun q => if q = j then v else a q
def wt (m : Mm) (i j : Nat) (v : Int) : Mm := (fun a b => if a = i then u1 (m.1 i) j (Int32.ofInt v) b else m.1 a b, m.2)
def wl (m : Mm) (i j : Nat) (v : Int) : Mm := (m.1, fun a b => if a = i then u2 (m.2 i) j (Int64.ofInt v) b else m.2 a b)
/-- n numbers of row b, from sp on, come to row d, from dp on -/
def c1 (x y : Nat → Int32) (sp dp n : Nat) : Nat → Int32 := fun j => if dp ≤ j ∧ j < dp + n then x (j - dp + sp) else y j
def cpm (m : Mm) (b sp d dp n : Nat) : Mm := (fun a j => if a = d then c1 (m.1 b) (m.1 d) sp dp n j else m.1 a j, m.2)
abbrev iv (n : Int) : Value := .int (Int32.ofInt n)
abbrev lv (n : Int) : Value := .long (Int64.ofInt n)
def wr (x : Int) : Int := (x + 2147483648) % 4294967296 - 2147483648
def wrl (x : Int) : Int := (x + 9223372036854775808) % 18446744073709551616 - 9223372036854775808
abbrev rg (x : Int) : Prop := -2147483648 ≤ x ∧ x ≤ 2147483647
abbrev rgl (x : Int) : Prop := -9223372036854775808 ≤ x ∧ x ≤ 9223372036854775807
theorem wr_rg (x : Int) : rg (wr x) := by unfold rg wr; omega
theorem wrl_rg (x : Int) : rgl (wrl x) := by unfold rgl wrl; omega
theorem wr_id {x : Int} (h1 : -2147483648 ≤ x) (h2 : x ≤ 2147483647) : wr x = x := by unfold wr; omega
theorem wrl_id {x : Int} (h1 : -9223372036854775808 ≤ x) (h2 : x ≤ 9223372036854775807) : wrl x = x := by unfold wrl; omega
theorem wr_i {x : Int} (h : rg x) : wr x = x := wr_id h.1 h.2
theorem wr_bmod (x : Int) : x.bmod (2 ^ 32) = wr x := by
  have e : (2 : Nat) ^ 32 = 4294967296 := by decide
  rw [e, Int.bmod_def]
  unfold wr
  split <;> omega
theorem wrl_bmod (x : Int) : x.bmod (2 ^ 64) = wrl x := by
  have e : (2 : Nat) ^ 64 = 18446744073709551616 := by decide
  rw [e, Int.bmod_def]
  unfold wrl
  split <;> omega
theorem to_of (x : Int) : (Int32.ofInt x).toInt = wr x := by rw [Int32.toInt_ofInt, ← wr_bmod]
theorem to_ofl (x : Int) : (Int64.ofInt x).toInt = wrl x := by rw [Int64.toInt_ofInt, ← wrl_bmod]
theorem of_to (x : Int32) : Int32.ofInt x.toInt = x := Int32.ofInt_toInt x
theorem of_tol (x : Int64) : Int64.ofInt x.toInt = x := Int64.ofInt_toInt x
theorem of_eq {x : Int32} {n : Int} (h : x.toInt = wr n) : x = Int32.ofInt n := by rw [← of_to x, h, ← to_of, of_to]
theorem of_eql {x : Int64} {n : Int} (h : x.toInt = wrl n) : x = Int64.ofInt n := by rw [← of_tol x, h, ← to_ofl, of_tol]
theorem i_rg (x : Int32) : rg x.toInt := by
  have h1 := Int32.le_toInt x
  have h2 := Int32.toInt_lt x
  exact ⟨by omega, by omega⟩
theorem l_rg (x : Int64) : rgl x.toInt := by
  have h1 := Int64.le_toInt x
  have h2 := Int64.toInt_lt x
  exact ⟨by omega, by omega⟩
theorem rd_rg (m : Mm) (i j : Nat) : rg (rd m i j) := i_rg _
theorem ld_rg (m : Mm) (i j : Nat) : rgl (ld m i j) := l_rg _
theorem to_of_rg {x : Int} (h : rg x) : (Int32.ofInt x).toInt = x := by rw [to_of, wr_i h]
theorem to_of_rgl {x : Int} (h : rgl x) : (Int64.ofInt x).toInt = x := by rw [to_ofl, wrl_id h.1 h.2]
theorem rd_wt (m : Mm) (i j : Nat) (v : Int) (a b : Nat) : rd (wt m i j v) a b = if a = i ∧ b = j then wr v else rd m a b := by
  unfold rd wt u1
  by_cases h : a = i
  · by_cases h2 : b = j
    · simp only [h, h2, if_true, and_self]; exact to_of v
    · simp only [h, h2, if_true, if_false, and_false]
  · simp only [h, if_false, false_and]
theorem ld_wt (m : Mm) (i j : Nat) (v : Int) (a b : Nat) : ld (wt m i j v) a b = ld m a b := rfl
theorem rd_wl (m : Mm) (i j : Nat) (v : Int) (a b : Nat) : rd (wl m i j v) a b = rd m a b := rfl
theorem ld_wl (m : Mm) (i j : Nat) (v : Int) (a b : Nat) : ld (wl m i j v) a b = if a = i ∧ b = j then wrl v else ld m a b := by
  unfold ld wl u2
  by_cases h : a = i
  · by_cases h2 : b = j
    · simp only [h, h2, if_true, and_self]; exact to_ofl v
    · simp only [h, h2, if_true, if_false, and_false]
  · simp only [h, if_false, false_and]
theorem rd_cpm (m : Mm) (b sp d dp n : Nat) (i j : Nat) : rd (cpm m b sp d dp n) i j = if i = d ∧ dp ≤ j ∧ j < dp + n then rd m b (j - dp + sp) else rd m i j := by
  unfold rd cpm c1
  by_cases h : i = d
  · by_cases h2 : dp ≤ j ∧ j < dp + n
    · simp only [h, h2, if_true, and_self]
    · rw [if_neg (fun w => h2 ⟨w.2.1, w.2.2⟩)]
      simp only [h, h2, if_true, if_false]
  · simp only [h, if_false, false_and]
theorem ld_cpm (m : Mm) (b sp d dp n : Nat) (i j : Nat) : ld (cpm m b sp d dp n) i j = ld m i j := rfl
/-- two memories that read alike are one -/
theorem mm_ext {m k : Mm} (h : ∀ i j, rd m i j = rd k i j) (hl : ∀ i j, ld m i j = ld k i j) : m = k := by
  obtain ⟨m1, m2⟩ := m
  obtain ⟨k1, k2⟩ := k
  have e1 : m1 = k1 := by
    funext i j
    have := h i j
    have e : (m1 i j).toInt = (k1 i j).toInt := this
    rw [← of_to (m1 i j), e, of_to]
  have e2 : m2 = k2 := by
    funext i j
    have := hl i j
    have e : (m2 i j).toInt = (k2 i j).toInt := this
    rw [← of_tol (m2 i j), e, of_tol]
  rw [e1, e2]
theorem ra_len (n : Nat) (a : Nat → Int32) : (ra n a).length = n := by unfold ra; rw [List.length_map, List.length_range]
theorem rl_len (n : Nat) (a : Nat → Int64) : (rl n a).length = n := by unfold rl; rw [List.length_map, List.length_range]
theorem ra_get {n j : Nat} {a : Nat → Int32} (h : j < n) : (ra n a)[j]? = some (.int (a j)) := by
  unfold ra
  rw [List.getElem?_map, List.getElem?_range h]
  rfl
theorem rl_get {n j : Nat} {a : Nat → Int64} (h : j < n) : (rl n a)[j]? = some (.long (a j)) := by
  unfold rl
  rw [List.getElem?_map, List.getElem?_range h]
  rfl
theorem ra_set {n j : Nat} {a : Nat → Int32} {v : Int32} : (ra n a).set j (.int v) = ra n (u1 a j v) := by
  apply List.ext_getElem?
  intro q
  by_cases hq : q < n
  · rw [ra_get hq, List.getElem?_set]
    by_cases e : j = q
    · subst e
      rw [if_pos rfl, ra_len, if_pos hq]
      unfold u1
      rw [if_pos rfl]
    · rw [if_neg e, ra_get hq]
      unfold u1
      rw [if_neg (fun w => e w.symm)]
  · rw [List.getElem?_eq_none (by rw [List.length_set, ra_len]; omega), List.getElem?_eq_none (by rw [ra_len]; omega)]
theorem rl_set {n j : Nat} {a : Nat → Int64} {v : Int64} : (rl n a).set j (.long v) = rl n (u2 a j v) := by
  apply List.ext_getElem?
  intro q
  by_cases hq : q < n
  · rw [rl_get hq, List.getElem?_set]
    by_cases e : j = q
    · subst e
      rw [if_pos rfl, rl_len, if_pos hq]
      unfold u2
      rw [if_pos rfl]
    · rw [if_neg e, rl_get hq]
      unfold u2
      rw [if_neg (fun w => e w.symm)]
  · rw [List.getElem?_eq_none (by rw [List.length_set, rl_len]; omega), List.getElem?_eq_none (by rw [rl_len]; omega)]
theorem ra_fit (n : Nat) (a : Nat → Int32) : (ra n a).all (mm_fit .int) = true := by
  unfold ra
  rw [List.all_map]
  apply List.all_eq_true.mpr
  intro x _
  rfl
theorem ra_cp {n k sp dp c : Nat} {x y : Nat → Int32} (h1 : sp + c ≤ n) (h2 : dp + c ≤ k) : mm_cp (ra n x) (ra k y) sp dp c = ra k (c1 x y sp dp c) := by
  unfold mm_cp
  apply List.ext_getElem?
  intro q
  by_cases hq : q < k
  · rw [ra_get hq]
    unfold c1
    rw [List.getElem?_append]
    simp only [List.length_take, ra_len]
    by_cases h3 : q < dp
    · rw [if_pos (by omega), List.getElem?_take, if_pos h3, ra_get hq, if_neg (by omega)]
    · rw [if_neg (by omega), List.getElem?_append]
      simp only [List.length_take, List.length_drop, ra_len]
      by_cases h4 : q < dp + c
      · rw [if_pos (by omega), List.getElem?_take, if_pos (by omega), List.getElem?_drop, ra_get (by omega), if_pos ⟨by omega, h4⟩]
        congr 3
        omega
      · rw [if_neg (by omega), List.getElem?_drop, ra_get (by omega), if_neg (by omega)]
        congr 3
        omega
  · rw [List.getElem?_eq_none, List.getElem?_eq_none (by rw [ra_len]; omega)]
    simp only [List.length_append, List.length_take, List.length_drop, ra_len]
    omega
/-- what else is computed -/
def io (op : Int32 → Int32 → Int32) (a b : Int) : Int := (op (Int32.ofInt a) (Int32.ofInt b)).toInt
theorem io_rg (op : Int32 → Int32 → Int32) (a b : Int) : rg (io op a b) := i_rg _
theorem io_of (op : Int32 → Int32 → Int32) (a b : Int) : Int32.ofInt (io op a b) = op (Int32.ofInt a) (Int32.ofInt b) := of_to _
def i1o (op : Int32 → Int32) (a : Int) : Int := (op (Int32.ofInt a)).toInt
theorem i1o_rg (op : Int32 → Int32) (a : Int) : rg (i1o op a) := i_rg _
theorem i1o_of (op : Int32 → Int32) (a : Int) : Int32.ofInt (i1o op a) = op (Int32.ofInt a) := of_to _
def lcm2 (a b : Int) : Int := if b < a then 1 else if a = b then 0 else -1
theorem lcm2_rg (a b : Int) : rg (lcm2 a b) := by unfold lcm2 rg; split <;> (try split) <;> omega
/-- a byte, a boolean, as a row keeps them -/
def nb (v : Int) : Int := (vp_nar .byte (Int32.ofInt v)).toInt
def nz (v : Int) : Int := (vp_nar .boolean (Int32.ofInt v)).toInt
theorem ad_of (a b : Int) : Int32.ofInt a + Int32.ofInt b = Int32.ofInt (wr (a + b)) := by
  apply of_eq
  rw [Int32.toInt_add, to_of, to_of]
  have e : ∀ x : Int, x.bmod (2 ^ 32) = wr x := wr_bmod
  rw [e]
  unfold wr
  omega
theorem sb_of (a b : Int) : Int32.ofInt a - Int32.ofInt b = Int32.ofInt (wr (a - b)) := by
  apply of_eq
  rw [Int32.toInt_sub, to_of, to_of]
  have e : ∀ x : Int, x.bmod (2 ^ 32) = wr x := wr_bmod
  rw [e]
  unfold wr
  omega
theorem ml_of (a b : Int) : Int32.ofInt a * Int32.ofInt b = Int32.ofInt (wr (a * b)) := by
  have h : Int32.ofInt (a * b) = Int32.ofInt a * Int32.ofInt b := Int32.ofInt_mul a b
  rw [← h]
  apply of_eq
  rw [to_of]
  unfold wr
  omega
theorem adl_of (a b : Int) : Int64.ofInt a + Int64.ofInt b = Int64.ofInt (wrl (a + b)) := by
  rw [← Int64.ofInt_add]
  apply of_eql
  rw [to_ofl]
  unfold wrl
  omega
theorem sbl_of (a b : Int) : Int64.ofInt a - Int64.ofInt b = Int64.ofInt (wrl (a - b)) := by
  rw [← Int64.ofInt_sub]
  apply of_eql
  rw [to_ofl]
  unfold wrl
  omega
theorem mll_of (a b : Int) : Int64.ofInt a * Int64.ofInt b = Int64.ofInt (wrl (a * b)) := by
  rw [← Int64.ofInt_mul]
  apply of_eql
  rw [to_ofl]
  unfold wrl
  omega
theorem le_of {a b : Int} (ha : rg a) (hb : rg b) : Int32.ofInt a ≤ Int32.ofInt b ↔ a ≤ b := by rw [Int32.le_iff_toInt_le, to_of_rg ha, to_of_rg hb]
theorem lt_of {a b : Int} (ha : rg a) (hb : rg b) : Int32.ofInt a < Int32.ofInt b ↔ a < b := by rw [Int32.lt_iff_toInt_lt, to_of_rg ha, to_of_rg hb]
theorem eq_of {a b : Int} (ha : rg a) (hb : rg b) : Int32.ofInt a = Int32.ofInt b ↔ a = b := by
  constructor
  · intro h
    rw [← to_of_rg ha, h, to_of_rg hb]
  · intro h
    rw [h]
theorem rg0 : rg 0 := ⟨by decide, by decide⟩
