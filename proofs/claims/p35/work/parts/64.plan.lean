/-! within, in (any heap); the plan's small methods -/
set_option maxRecDepth 20000 in
theorem c_wiT {x lo hi : Int32} (h : mm_H) (q : lo ≤ x ∧ x ≤ hi) : mm_K 1 166 [.int x, .int lo, .int hi] h (fun h2 v => h2 = h ∧ v = some (.int 1)) := by
  refine mm_K.of rfl ?_
  show mm_W 0 mc_166 0 [some (.int x), some (.int lo), some (.int hi)] [] h _
  refine w_st (fun _ => rfl) ?_
  refine w_st (fun _ => rfl) ?_
  refine w_icF rfl (decide_eq_false (Int32.not_lt.mpr q.1)) ?_
  refine w_st (fun _ => rfl) ?_
  refine w_st (fun _ => rfl) ?_
  refine w_icF rfl (decide_eq_false (Int32.not_lt.mpr q.2)) ?_
  refine w_st (fun _ => rfl) ?_
  refine w_st (fun _ => rfl) ?_
  exact w_rt (fun _ => rfl) ⟨⟨Nat.le_refl _, Nat.le_refl _⟩, rfl, rfl⟩
set_option maxRecDepth 20000 in
theorem c_wiF {x lo hi : Int32} (h : mm_H) (q : ¬ (lo ≤ x ∧ x ≤ hi)) : mm_K 1 166 [.int x, .int lo, .int hi] h (fun h2 v => h2 = h ∧ v = some (.int 0)) := by
  by_cases c : x < lo
  · refine mm_K.of rfl ?_
    show mm_W 0 mc_166 0 [some (.int x), some (.int lo), some (.int hi)] [] h _
    refine w_st (fun _ => rfl) ?_
    refine w_st (fun _ => rfl) ?_
    refine w_icT rfl (decide_eq_true c) ?_
    refine w_st (fun _ => rfl) ?_
    exact w_rt (fun _ => rfl) ⟨⟨Nat.le_refl _, Nat.le_refl _⟩, rfl, rfl⟩
  · refine mm_K.of rfl ?_
    show mm_W 0 mc_166 0 [some (.int x), some (.int lo), some (.int hi)] [] h _
    refine w_st (fun _ => rfl) ?_
    refine w_st (fun _ => rfl) ?_
    refine w_icF rfl (decide_eq_false c) ?_
    refine w_st (fun _ => rfl) ?_
    refine w_st (fun _ => rfl) ?_
    refine w_icT rfl (decide_eq_true (Int32.not_le.mp fun e => q ⟨Int32.not_lt.mp c, e⟩)) ?_
    refine w_st (fun _ => rfl) ?_
    exact w_rt (fun _ => rfl) ⟨⟨Nat.le_refl _, Nat.le_refl _⟩, rfl, rfl⟩
set_option maxRecDepth 20000 in
theorem c_inT {x lo hi : Int32} (h : mm_H) (q : lo ≤ x ∧ x ≤ hi) : mm_K 1 206 [.int x, .int lo, .int hi] h (fun h2 v => h2 = h ∧ v = some (.int 1)) := by
  refine mm_K.of rfl ?_
  show mm_W 0 mc_206 0 [some (.int x), some (.int lo), some (.int hi)] [] h _
  refine w_st (fun _ => rfl) ?_
  refine w_st (fun _ => rfl) ?_
  refine w_icF rfl (decide_eq_false (Int32.not_lt.mpr q.1)) ?_
  refine w_st (fun _ => rfl) ?_
  refine w_st (fun _ => rfl) ?_
  refine w_icF rfl (decide_eq_false (Int32.not_lt.mpr q.2)) ?_
  refine w_st (fun _ => rfl) ?_
  refine w_st (fun _ => rfl) ?_
  exact w_rt (fun _ => rfl) ⟨⟨Nat.le_refl _, Nat.le_refl _⟩, rfl, rfl⟩
set_option maxRecDepth 20000 in
theorem c_inF {x lo hi : Int32} (h : mm_H) (q : ¬ (lo ≤ x ∧ x ≤ hi)) : mm_K 1 206 [.int x, .int lo, .int hi] h (fun h2 v => h2 = h ∧ v = some (.int 0)) := by
  by_cases c : x < lo
  · refine mm_K.of rfl ?_
    show mm_W 0 mc_206 0 [some (.int x), some (.int lo), some (.int hi)] [] h _
    refine w_st (fun _ => rfl) ?_
    refine w_st (fun _ => rfl) ?_
    refine w_icT rfl (decide_eq_true c) ?_
    refine w_st (fun _ => rfl) ?_
    exact w_rt (fun _ => rfl) ⟨⟨Nat.le_refl _, Nat.le_refl _⟩, rfl, rfl⟩
  · refine mm_K.of rfl ?_
    show mm_W 0 mc_206 0 [some (.int x), some (.int lo), some (.int hi)] [] h _
    refine w_st (fun _ => rfl) ?_
    refine w_st (fun _ => rfl) ?_
    refine w_icF rfl (decide_eq_false c) ?_
    refine w_st (fun _ => rfl) ?_
    refine w_st (fun _ => rfl) ?_
    refine w_icT rfl (decide_eq_true (Int32.not_le.mp fun e => q ⟨Int32.not_lt.mp c, e⟩)) ?_
    refine w_st (fun _ => rfl) ?_
    exact w_rt (fun _ => rfl) ⟨⟨Nat.le_refl _, Nat.le_refl _⟩, rfl, rfl⟩

section PLAN
variable {A : mA} {F : mF} {L : mL} {sw : Bool}
theorem isI_18 : isI 18 := ⟨by decide, fun _ _ _ _ => rfl⟩
/-- the plan's yard: WIDE, HIGH 2 .. 5 -/
def yardOk (F : mF) : Prop := (2 ≤ (F 7 0).toInt ∧ (F 7 0).toInt ≤ 5) ∧ (2 ≤ (F 7 1).toInt ∧ (F 7 1).toInt ≤ 5)
set_option maxRecDepth 20000 in
theorem c_nextFlag (f w : Int32) (l18 : (A 18).length = 100) (f0 : 0 ≤ f.toInt) (f1 : f.toInt < 25) (w0 : 0 ≤ w.toInt) (w1 : w.toInt < 4) : mm_K 1 30 [.ref 7, .int f, .int w] (mh A F L sw) (fun h2 v => h2 = mh A F L sw ∧ ∃ x : Int32, (A 18)[(f.toInt * 4 + w.toInt).toNat]? = some x ∧ v = some (.int x)) := by
  have e4 : (4 : Int32).toInt = 4 := rfl
  refine K_of rfl ?_
  show mm_W 0 mc_30 0 [some (.ref 7), some (.int f), some (.int w)] [] (mh A F L sw) _
  refine w_st (fun _ => rfl) ?_
  refine g_7_11 rfl ?_
  refine w_st (fun _ => rfl) ?_
  refine w_st (fun _ => rfl) ?_
  refine r_mul rfl (by rw [e4]; omega) (by rw [e4]; omega) (fun z hz => ?_)
  rw [e4] at hz
  refine w_st (fun _ => rfl) ?_
  refine r_add rfl (by omega) (by omega) (fun y hy => ?_)
  refine la isI_18 rfl (by omega) (by omega) (fun x hx => ?_)
  refine w_rt (fun _ => rfl) ⟨⟨_, _, _, _, rfl⟩, rfl, x, ?_, rfl⟩
  rw [hy, hz] at hx
  exact hx
/-- a flag that is shut -/
def shutI (F : mF) (f : Int32) : Int32 := if (F 7 4 >>> (f &&& 31)) &&& 1 = 1 then 1 else 0
set_option maxRecDepth 20000 in
theorem c_isShut (f : Int32) : mm_K 1 31 [.ref 7, .int f] (mh A F L sw) (fun h2 v => h2 = mh A F L sw ∧ v = some (.int (shutI F f))) := by
  refine K_of rfl ?_
  show mm_W 0 mc_31 0 [some (.ref 7), some (.int f)] [] (mh A F L sw) _
  refine w_st (fun _ => rfl) ?_
  refine g_7_4 rfl ?_
  refine w_st (fun _ => rfl) ?_
  refine w_i2 rfl ?_
  refine w_st (fun _ => rfl) ?_
  refine w_i2 rfl ?_
  refine w_st (fun _ => rfl) ?_
  by_cases q : (F 7 4 >>> (f &&& 31)) &&& 1 = 1
  · refine w_icF rfl (decide_eq_false (fun w => w q)) ?_
    refine w_st (fun _ => rfl) ?_
    refine w_st (fun _ => rfl) ?_
    exact w_rt (fun _ => rfl) ⟨⟨_, _, _, _, rfl⟩, rfl, by unfold shutI; rw [if_pos q]⟩
  · refine w_icT rfl (decide_eq_true q) ?_
    refine w_st (fun _ => rfl) ?_
    exact w_rt (fun _ => rfl) ⟨⟨_, _, _, _, rfl⟩, rfl, by unfold shutI; rw [if_neg q]⟩
end PLAN
