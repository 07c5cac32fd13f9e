/-! canTip -/
def canP (A : mA) (F : mF) (a : Nat) (x : Int32) : Prop := x ≠ -1 ∧ shutI F x = 0 ∧ oI (crOn A F a x) (-1) = -1
theorem c30_cell {A : mA} {F : mF} {L : mL} {sw : Bool} : ∃ fs, mm_hg (mh A F L sw) 7 = some (.inl (3, fs)) := ⟨_, hp_get (by decide)⟩
set_option maxRecDepth 20000 in
theorem c_canTip {a : Nat} (ha : a ∈ stL) (c w f : Int32) (A : mA) (F : mF) (L : mL) (sw : Bool) (oa : stOk A a) (l18 : (A 18).length = 100) (h0 : 0 ≤ (F a 4).toInt) (h3 : (F a 4).toInt ≤ 3) (c0 : 0 ≤ c.toInt) (c1 : c.toInt < 3) (hf : (A (a + 2))[c.toInt.toNat]? = some f) (f0 : 0 ≤ f.toInt) (f1 : f.toInt < 25) (w0 : 0 ≤ w.toInt) (w1 : w.toInt < 4) : mm_K 2 1 [.ref 30, .ref a, .int c, .int w] (mh A F L sw) (fun h2 v => h2 = mh A F L sw ∧ ∃ x z : Int32, (A 18)[(f.toInt * 4 + w.toInt).toNat]? = some x ∧ v = some (.int z) ∧ ((canP A F a x ∧ z = 1) ∨ (¬ canP A F a x ∧ z = 0))) := by
  have l2 := oa.2.1
  refine K_of rfl ?_
  show mm_W 1 mc_1 0 [some (.ref 30), some (.ref a), some (.int c), some (.int w), none] [] (mh A F L sw) _
  refine w_st (fun _ => rfl) ?_
  refine g_30_0 rfl ?_
  refine w_st (fun _ => rfl) ?_
  refine gs_1 ha rfl ?_
  refine w_st (fun _ => rfl) ?_
  refine la (st_I2 ha) rfl c0 (by omega) (fun f2 hf2 => ?_)
  obtain rfl : f = f2 := Option.some.inj (hf.symm.trans hf2)
  refine w_st (fun _ => rfl) ?_
  refine w_ivV (as := [_, _]) rfl mg_1 rfl rfl (hp_get (by decide)) rfl ?_
  refine (c_nextFlag f w l18 f0 f1 w0 w1).mono (Nat.le_refl _) ?_
  rintro _ _ ⟨rfl, x, hx, rfl⟩
  refine w_st (fun _ => rfl) ?_
  refine w_st (fun _ => rfl) ?_
  refine w_st (fun _ => rfl) ?_
  by_cases q1 : x = -1
  · refine w_icT rfl (decide_eq_true q1) ?_
    refine w_st (fun _ => rfl) ?_
    exact w_rt (fun _ => rfl) ⟨⟨_, _, _, _, rfl⟩, rfl, x, 0, hx, rfl, Or.inr ⟨fun k => k.1 q1, rfl⟩⟩
  · refine w_icF rfl (decide_eq_false q1) ?_
    refine w_st (fun _ => rfl) ?_
    refine g_30_0 rfl ?_
    refine w_st (fun _ => rfl) ?_
    refine w_ivV (as := [_]) rfl mg_1 rfl rfl (hp_get (by decide)) rfl ?_
    refine (c_isShut x).mono (Nat.le_refl _) ?_
    rintro _ _ ⟨rfl, rfl⟩
    by_cases q2 : shutI F x = 0
    · refine w_ifF rfl (decide_eq_false (fun k => k q2)) ?_
      refine w_st (fun _ => rfl) ?_
      refine w_st (fun _ => rfl) ?_
      refine w_ivV (as := [_]) rfl mg_1 rfl rfl (st_cell ha) rfl ?_
      refine (c_crateOn ha x A F L sw oa h0 h3).mono (Nat.le_refl _) ?_
      rintro _ _ ⟨rfl, rfl⟩
      refine w_st (fun _ => rfl) ?_
      by_cases q3 : oI (crOn A F a x) (-1) = -1
      · refine w_icF rfl (decide_eq_false (fun k => k q3)) ?_
        refine w_st (fun _ => rfl) ?_
        refine w_st (fun _ => rfl) ?_
        exact w_rt (fun _ => rfl) ⟨⟨_, _, _, _, rfl⟩, rfl, x, 1, hx, rfl, Or.inl ⟨⟨q1, q2, q3⟩, rfl⟩⟩
      · refine w_icT rfl (decide_eq_true q3) ?_
        refine w_st (fun _ => rfl) ?_
        exact w_rt (fun _ => rfl) ⟨⟨_, _, _, _, rfl⟩, rfl, x, 0, hx, rfl, Or.inr ⟨fun k => q3 k.2.2, rfl⟩⟩
    · refine w_ifT rfl (decide_eq_true q2) ?_
      refine w_st (fun _ => rfl) ?_
      exact w_rt (fun _ => rfl) ⟨⟨_, _, _, _, rfl⟩, rfl, x, 0, hx, rfl, Or.inr ⟨fun k => q2 k.2.1, rfl⟩⟩
