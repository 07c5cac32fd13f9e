/-! LOTS: the same on both sides -/
def ushr (x y : Int32) : Int32 := (x.toUInt32 >>> (y.toUInt32 &&& Int32.toUInt32 31)).toInt32
def mixI (x y : Int32) : Int32 := ((x ^^^ y) * 1103515245 + 12345) ^^^ ushr ((x ^^^ y) * 1103515245 + 12345) 15
set_option maxRecDepth 20000 in
theorem c_mix11 (x y : Int32) (h : mm_H) : mm_K 1 11 [.int x, .int y] h (fun h2 v => h2 = h ∧ v = some (.int (mixI x y))) := by
  refine mm_K.of rfl ?_
  show mm_W 0 mc_11 0 [some (.int x), some (.int y), none] [] h _
  refine w_st (fun _ => rfl) ?_
  refine w_st (fun _ => rfl) ?_
  refine w_i2 rfl ?_
  refine w_st (fun _ => rfl) ?_
  refine w_i2 rfl ?_
  refine w_st (fun _ => rfl) ?_
  refine w_i2 rfl ?_
  refine w_st (fun _ => rfl) ?_
  refine w_st (fun _ => rfl) ?_
  refine w_st (fun _ => rfl) ?_
  refine w_st (fun _ => rfl) ?_
  refine w_i2 rfl ?_
  refine w_i2 rfl ?_
  exact w_rt (fun _ => rfl) ⟨⟨Nat.le_refl _, Nat.le_refl _⟩, rfl, rfl⟩
set_option maxRecDepth 20000 in
theorem c_mix217 (x y : Int32) (h : mm_H) : mm_K 1 217 [.int x, .int y] h (fun h2 v => h2 = h ∧ v = some (.int (mixI x y))) := by
  refine mm_K.of rfl ?_
  show mm_W 0 mc_217 0 [some (.int x), some (.int y), none] [] h _
  refine w_st (fun _ => rfl) ?_
  refine w_st (fun _ => rfl) ?_
  refine w_i2 rfl ?_
  refine w_st (fun _ => rfl) ?_
  refine w_i2 rfl ?_
  refine w_st (fun _ => rfl) ?_
  refine w_i2 rfl ?_
  refine w_st (fun _ => rfl) ?_
  refine w_st (fun _ => rfl) ?_
  refine w_st (fun _ => rfl) ?_
  refine w_st (fun _ => rfl) ?_
  refine w_i2 rfl ?_
  refine w_i2 rfl ?_
  exact w_rt (fun _ => rfl) ⟨⟨Nat.le_refl _, Nat.le_refl _⟩, rfl, rfl⟩
