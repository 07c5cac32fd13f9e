/-- numbers 2 .. 5 -/
theorem sta_rng {xs : List Int32} (h : ∀ x ∈ xs, 2 ≤ x.toInt ∧ x.toInt ≤ 5) {j : Nat} {x : Int32} (hx : xs[j]? = some x) : 2 ≤ x.toInt ∧ x.toInt ≤ 5 := h x (List.mem_of_getElem? hx)
set_option maxRecDepth 20000 in
theorem c_lookAt {a : Nat} (ha : a ∈ stL) (c f w : Int32) (A : mA) (F : mF) (L : mL) (sw : Bool) (oa : stOk A a) (l12 : (A 12).length = 9) (l16 : (A 16).length = 25) (l17 : (A 17).length = 25) (l18 : (A 18).length = 100) (c0 : 0 ≤ c.toInt) (c1 : c.toInt < 3) (hf : (A (a + 2))[c.toInt.toNat]? = some f) (f0 : 0 ≤ f.toInt) (f1 : f.toInt < 25) (w0 : 0 ≤ w.toInt) (w1 : w.toInt < 4) (hn : ∀ x, (A 18)[(f.toInt * 4 + w.toInt).toNat]? = some x → x = -1 ∨ (0 ≤ x.toInt ∧ x.toInt < 25)) : mm_K 3 2 [.ref 30, .ref a, .int c, .int w] (mh A F L sw) (fun h2 v => v = none ∧ ∃ ov un x cx sx ly sy mk tp tw bw : Int32, ([4, 2, 5, 3] : List Int32)[w.toInt.toNat]? = some tw ∧ ([5, 3, 4, 2] : List Int32)[w.toInt.toNat]? = some bw ∧ (A (a + 3))[(c.toInt * 6 + tw.toInt).toNat]? = some ov ∧ (A (a + 3))[(c.toInt * 6 + bw.toInt).toNat]? = some un ∧ (A 18)[(f.toInt * 4 + w.toInt).toNat]? = some x ∧ (A 16)[f.toInt.toNat]? = some cx ∧ ([1, 0, -1, 0] : List Int32)[w.toInt.toNat]? = some sx ∧ (A 17)[f.toInt.toNat]? = some ly ∧ ([0, 1, 0, -1] : List Int32)[w.toInt.toNat]? = some sy ∧ ((x = -1 ∧ mk = 0) ∨ (x ≠ -1 ∧ (A (a + 1))[x.toInt.toNat]? = some mk)) ∧ (A (a + 4))[c.toInt.toNat]? = some tp ∧ h2 = mh (uA A 12 [cx + sx, ly + sy, mk, ov, un, tp, F a 5, c, w]) F L sw) := by
  have o1 := oa
  obtain ⟨-, o2, o3, -⟩ := o1
  have e6 : (6 : Int32).toInt = 6 := rfl
  refine K_of rfl ?_
  show mm_W 2 mc_2 0 [some (.ref 30), some (.ref a), some (.int c), some (.int w), none, none] [] (mh A F L sw) _
  refine w_st (fun _ => rfl) ?_
  refine gs_2 ha rfl ?_
  refine w_st (fun _ => rfl) ?_
  refine w_st (fun _ => rfl) ?_
  refine r_mul rfl (by rw [e6]; omega) (by rw [e6]; omega) (fun z hz => ?_)
  rw [e6] at hz
  refine w_st (fun _ => rfl) ?_
  refine w_st (fun _ => rfl) ?_
  refine l_sta 1 (xs := [4, 2, 5, 3]) rfl rfl w0 w1 (fun tw htw => ?_)
  have rtw := sta_rng (by decide) htw
  refine r_add rfl (by omega) (by omega) (fun z2 hz2 => ?_)
  refine la (st_I3 ha) rfl (by omega) (by omega) (fun ov hov => ?_)
  rw [hz2, hz] at hov
  refine w_st (fun _ => rfl) ?_
  refine w_st (fun _ => rfl) ?_
  refine gs_2 ha rfl ?_
  refine w_st (fun _ => rfl) ?_
  refine w_st (fun _ => rfl) ?_
  refine r_mul rfl (by rw [e6]; omega) (by rw [e6]; omega) (fun y hy => ?_)
  rw [e6] at hy
  refine w_st (fun _ => rfl) ?_
  refine w_st (fun _ => rfl) ?_
  refine l_sta 0 (xs := [5, 3, 4, 2]) rfl rfl w0 w1 (fun bw hbw => ?_)
  have rbw := sta_rng (by decide) hbw
  refine r_add rfl (by omega) (by omega) (fun y2 hy2 => ?_)
  refine la (st_I3 ha) rfl (by omega) (by omega) (fun un hun => ?_)
  rw [hy2, hy] at hun
  refine w_st (fun _ => rfl) ?_
  refine w_st (fun _ => rfl) ?_
  refine w_st (fun _ => rfl) ?_
  refine w_st (fun _ => rfl) ?_
  refine w_st (fun _ => rfl) ?_
  refine gs_1 ha rfl ?_
  refine w_st (fun _ => rfl) ?_
  refine la (st_I2 ha) rfl c0 (by omega) (fun f2 hf2 => ?_)
  obtain rfl : f = f2 := Option.some.inj (hf.symm.trans hf2)
  refine w_st (fun _ => rfl) ?_
  refine w_st (fun _ => rfl) ?_
  refine w_st (fun _ => rfl) ?_
  refine w_ivV (as := [_, _, _, _, _, _]) rfl mg_2 rfl rfl (hp_get (by decide)) rfl ?_
  refine (c_lookFrom ha c f w ov un A F L sw oa l12 l16 l17 l18 c0 c1 f0 f1 w0 w1 hn).mono (Nat.le_refl _) ?_
  rintro _ _ ⟨rfl, x, cx, sx, ly, sy, mk, tp, k1, k2, k3, k4, k5, k6, k7, rfl⟩
  exact w_rt (fun _ => rfl) ⟨⟨_, _, _, _, rfl⟩, rfl, ov, un, x, cx, sx, ly, sy, mk, tp, tw, bw, htw, hbw, hov, hun, k1, k2, k3, k4, k5, k6, k7, rfl⟩
