set_option maxRecDepth 20000 in
theorem m_fsA (h : mm_H) (e1 : mm_hg h 284 = mm_hg hM 284) (e2 : mm_hg h 293 = mm_hg hM 293) (e3 : mm_hg h 294 = mm_hg hM 294) : mm_K 1 208 [.ref 284] h (fun h2 v => h2 = h ∧ v = some (.int (4 * 4))) := by
  refine mm_K.of rfl ?_
  show mm_W 0 mc_208 0 [some (.ref 284)] [] h _
  refine w_st (fun _ => rfl) ?_
  refine w_get rfl (e1.trans rfl) rfl ?_
  refine w_st (fun _ => rfl) ?_
  refine w_get rfl (e1.trans rfl) rfl ?_
  refine w_iald rfl rfl (e2.trans rfl) (by decide) rfl ?_
  refine w_st (fun _ => rfl) ?_
  refine w_get rfl (e1.trans rfl) rfl ?_
  refine w_st (fun _ => rfl) ?_
  refine w_get rfl (e1.trans rfl) rfl ?_
  refine w_iald rfl rfl (e3.trans rfl) (by decide) rfl ?_
  refine w_i2 rfl ?_
  exact w_rt (fun _ => rfl) ⟨⟨Nat.le_refl _, Nat.le_refl _⟩, rfl, rfl⟩
set_option maxRecDepth 20000 in
theorem m_flA (h : mm_H) (e1 : mm_hg h 284 = mm_hg hM 284) (e2 : mm_hg h 293 = mm_hg hM 293) (e3 : mm_hg h 294 = mm_hg hM 294) {x : Int32} (q : (0 : Int32) ≤ x ∧ x ≤ 4 * 4 - 1) : mm_K 2 209 [.ref 284, .int x] h (fun h2 v => h2 = h ∧ v = some (.int 1)) := by
  refine mm_K.of rfl ?_
  show mm_W 1 mc_209 0 [some (.ref 284), some (.int x)] [] h _
  refine w_st (fun _ => rfl) ?_
  refine w_st (fun _ => rfl) ?_
  refine w_st (fun _ => rfl) ?_
  refine w_ivV (as := []) rfl mg_209 rfl rfl (e1.trans rfl) rfl ?_
  refine (m_fsA h e1 e2 e3).mono (Nat.le_of_ble_eq_true rfl) ?_
  rintro _ _ ⟨rfl, rfl⟩
  refine w_st (fun _ => rfl) ?_
  refine w_i2 rfl ?_
  refine w_ivS (as := [_, _, _]) rfl mg_209 rfl rfl rfl ?_
  refine (c_inT (lo := 0) (hi := 4 * 4 - 1) _ q).mono (Nat.le_of_ble_eq_true rfl) ?_
  rintro _ _ ⟨rfl, rfl⟩
  exact w_rt (fun _ => rfl) ⟨⟨Nat.le_refl _, Nat.le_refl _⟩, rfl, rfl⟩
noncomputable def p1_f4 (n : Nat) (h3 : mm_H) : Bool := match mm_exec mm_cd mm_nL 20000 8 235 [.ref 284, .int (Int32.ofNat n)] h3 with
  | some (h4, none) => p1_fd h4 284 12 57 (.ref 323) && (p1_z h4 323 && p1_sz h4)
  | _ => false
noncomputable def p1_f3 (n : Nat) (h2 : mm_H) : Bool := match mm_exec mm_cd mm_nL 20000 8 216 [.ref 284] h2 with
  | some (h3, none) => p1_fd h3 284 12 57 (.ref 323) && p1_f4 n h3
  | _ => false
noncomputable def p1_f2 (n : Nat) : Bool := match mm_exec mm_cd mm_nL 20000 8 160 [.ref 0, .int (Int32.ofNat n), .int 0] hM with
  | some (h2, none) => (p1_fd h2 0 11 10 (.ref 279) && (p1_fd h2 279 7 0 (.ref 280) && (p1_z h2 280 && p1_sz h2))) && ((p1_eq h2 284 && (p1_eq h2 293 && p1_eq h2 294)) && p1_f3 n h2)
  | _ => false
set_option maxRecDepth 1000000 in
theorem fa_fi_0 : ∀ n, n < 8 → p1_f2 (n + 0) = true := by decide +kernel
set_option maxRecDepth 1000000 in
theorem fa_fi_1 : ∀ n, n < 8 → p1_f2 (n + 8) = true := by decide +kernel
set_option maxRecDepth 1000000 in
theorem fa_fi_2 : ∀ n, n < 8 → p1_f2 (n + 16) = true := by decide +kernel
set_option maxRecDepth 1000000 in
theorem fa_fi_3 : ∀ n, n < 8 → p1_f2 (n + 24) = true := by decide +kernel
set_option maxRecDepth 1000000 in
theorem fa_fi_4 : ∀ n, n < 8 → p1_f2 (n + 32) = true := by decide +kernel
set_option maxRecDepth 1000000 in
theorem fa_fi_5 : ∀ n, n < 8 → p1_f2 (n + 40) = true := by decide +kernel
set_option maxRecDepth 1000000 in
theorem fa_fi_6 : ∀ n, n < 8 → p1_f2 (n + 48) = true := by decide +kernel
set_option maxRecDepth 1000000 in
theorem fa_fi_7 : ∀ n, n < 5 → p1_f2 (n + 56) = true := by decide +kernel
theorem fa_fi : ∀ n, n < 61 → p1_f2 n = true := fun n hn => by
  by_cases h0 : n < 8
  · have e := fa_fi_0 (n - 0) (by omega)
    rw [show n - 0 + 0 = n by omega] at e
    exact e
  by_cases h1 : n < 16
  · have e := fa_fi_1 (n - 8) (by omega)
    rw [show n - 8 + 8 = n by omega] at e
    exact e
  by_cases h2 : n < 24
  · have e := fa_fi_2 (n - 16) (by omega)
    rw [show n - 16 + 16 = n by omega] at e
    exact e
  by_cases h3 : n < 32
  · have e := fa_fi_3 (n - 24) (by omega)
    rw [show n - 24 + 24 = n by omega] at e
    exact e
  by_cases h4 : n < 40
  · have e := fa_fi_4 (n - 32) (by omega)
    rw [show n - 32 + 32 = n by omega] at e
    exact e
  by_cases h5 : n < 48
  · have e := fa_fi_5 (n - 40) (by omega)
    rw [show n - 40 + 40 = n by omega] at e
    exact e
  by_cases h6 : n < 56
  · have e := fa_fi_6 (n - 48) (by omega)
    rw [show n - 48 + 48 = n by omega] at e
    exact e
  have e := fa_fi_7 (n - 56) (by omega)
  rw [show n - 56 + 56 = n by omega] at e
  exact e
set_option maxRecDepth 20000 in
theorem pr_flagIn2 (m n : Nat) (hm : m < 16) (hn : n < 61) (q : (0 : Int32) ≤ Int32.ofNat m ∧ Int32.ofNat m ≤ 4 * 4 - 1) (q2 : (0 : Int32) ≤ Int32.ofNat n ∧ Int32.ofNat n ≤ 60) : p1_pr 148 274 [.int (Int32.ofNat m), .int (Int32.ofNat n)] := by
  have e := fa_fi n hn
  unfold p1_f2 at e
  split at e
  · next h2 h2e =>
    rw [Bool.and_eq_true, Bool.and_eq_true, Bool.and_eq_true, Bool.and_eq_true, Bool.and_eq_true, Bool.and_eq_true, Bool.and_eq_true] at e
    obtain ⟨⟨a0, a1, a2, a3⟩, ⟨b1, b2, b3⟩, c⟩ := e
    obtain ⟨f0, g0, v0⟩ := p1_fd_at a0
    obtain ⟨f1, g1, v1⟩ := p1_fd_at a1
    obtain ⟨x2, z2, y2⟩ := p1_z_at a2
    have s2 := p1_sz_eq a3
    have e1 := p1_eq_at b1
    have e2 := p1_eq_at b2
    have e3 := p1_eq_at b3
    unfold p1_f3 at c
    split at c
    · next h3 h3e =>
      rw [Bool.and_eq_true] at c
      obtain ⟨c0, c⟩ := c
      obtain ⟨f3, g3, v3⟩ := p1_fd_at c0
      unfold p1_f4 at c
      split at c
      · next h4 h4e =>
        rw [Bool.and_eq_true, Bool.and_eq_true] at c
        obtain ⟨c1, c2, c3⟩ := c
        obtain ⟨f4, g4, v4⟩ := p1_fd_at c1
        obtain ⟨x4, z4, y4⟩ := p1_z_at c2
        have s4 := p1_sz_eq c3
        refine mm_K.of rfl ?_
        show mm_W 8 mc_148 0 [some (.ref 0), some (.int (Int32.ofNat m)), some (.int (Int32.ofNat n))] [] hM _
        refine w_st (fun _ => rfl) ?_
        refine w_st (fun _ => rfl) ?_
        refine w_ivV (as := [_]) rfl mg_148 rfl rfl rfl rfl ?_
        refine (c_flT q).mono (Nat.le_of_ble_eq_true rfl) ?_
        rintro _ _ ⟨rfl, rfl⟩
        refine w_st (fun _ => rfl) ?_
        refine w_st (fun _ => rfl) ?_
        refine w_st (fun _ => rfl) ?_
        refine w_st (fun _ => rfl) ?_
        refine w_ivS (as := [_, _, _]) rfl mg_148 rfl rfl rfl ?_
        refine (c_wiT (lo := 0) (hi := 60) hM q2).mono (Nat.le_of_ble_eq_true rfl) ?_
        rintro _ _ ⟨rfl, rfl⟩
        refine w_st (fun _ => rfl) ?_
        refine w_st (fun _ => rfl) ?_
        refine w_st (fun _ => rfl) ?_
        refine w_st (fun _ => rfl) ?_
        refine w_st (fun _ => rfl) ?_
        refine w_st (fun _ => rfl) ?_
        refine w_ivV (as := [_, _]) rfl mg_148 rfl rfl rfl rfl ?_
        refine mm_K.calc h2e ?_
        refine w_st (fun _ => rfl) ?_
        refine w_get rfl g0 v0 ?_
        refine w_get rfl g1 v1 ?_
        refine w_st (fun _ => rfl) ?_
        refine w_iald rfl rfl z2 (p1_nn hm) (by rw [Int32.toNatClampNeg_ofNat_of_lt (by omega)]; exact y2 m hm) ?_
        refine w_rt (fun _ => rfl) ⟨⟨by rw [s2.1]; exact Nat.le_refl _, by rw [s2.2]; exact Nat.le_refl _⟩, 0, _, rfl, e1.trans rfl, ?_⟩
        refine mm_K.of rfl ?_
        show mm_W 8 mc_274 0 [some (.ref 284), some (.int (Int32.ofNat m)), some (.int (Int32.ofNat n))] [] h2 _
        refine w_st (fun _ => rfl) ?_
        refine w_st (fun _ => rfl) ?_
        refine w_ivV (as := [_]) rfl mg_274 rfl rfl (e1.trans rfl) rfl ?_
        refine (m_flA h2 e1 e2 e3 q).mono (Nat.le_of_ble_eq_true rfl) ?_
        rintro _ _ ⟨rfl, rfl⟩
        refine w_st (fun _ => rfl) ?_
        refine w_st (fun _ => rfl) ?_
        refine w_ivS (as := [_]) rfl mg_274 rfl rfl rfl ?_
        refine (m_loT _ q2).mono (Nat.le_of_ble_eq_true rfl) ?_
        rintro _ _ ⟨rfl, rfl⟩
        refine w_st (fun _ => rfl) ?_
        refine w_st (fun _ => rfl) ?_
        refine w_ivV (as := []) rfl mg_274 rfl rfl (e1.trans rfl) rfl ?_
        refine mm_K.calc h3e ?_
        refine w_st (fun _ => rfl) ?_
        refine w_st (fun _ => rfl) ?_
        refine w_ivV (as := [_]) rfl mg_274 rfl rfl g3 rfl ?_
        refine mm_K.calc h4e ?_
        refine w_st (fun _ => rfl) ?_
        refine w_get rfl g4 v4 ?_
        refine w_st (fun _ => rfl) ?_
        refine w_iald rfl rfl z4 (p1_nn hm) (by rw [Int32.toNatClampNeg_ofNat_of_lt (by omega)]; exact y4 m hm) ?_
        exact w_rt (fun _ => rfl) ⟨⟨by rw [s2.1, s4.1]; exact Nat.le_refl _, by rw [s2.2, s4.2]; exact Nat.le_refl _⟩, rfl, by rw [s4.1]; exact Nat.le_of_ble_eq_true rfl, by rw [s4.2]; exact Nat.le_of_ble_eq_true rfl⟩
      · cases c
    · cases c
  · cases e
