theorem p1_63 (x : Int32) : ∃ n, n < 64 ∧ x &&& 63 = Int32.ofNat n := by
  refine ⟨(x &&& 63).toBitVec.toNat, ?_, ?_⟩
  · have e : (x &&& 63).toBitVec.toNat = x.toBitVec.toNat &&& 63 := by
      rw [Int32.toBitVec_and, BitVec.toNat_and]
      rfl
    rw [e]
    exact Nat.lt_of_le_of_lt Nat.and_le_right (by decide)
  · apply Int32.toBitVec_inj.mp
    simp
set_option maxRecDepth 20000 in
theorem p1_sw (a0 a1 a2 a3 a4 a5 : Int32) (n : Nat) (hn : n < 64) : mm_W 9 (mc_law [a0, a1, a2, a3, a4, a5]) 33 [some (.ref 1400), some (.ref 0), some (.ref 284), some (.int 0)] [.int (Int32.ofNat n)] hM p1_lq :=
  match n, hn with
  | 0, _ => w_st (fun _ => rfl) (p1_c0 a0 a1 a2 a3 a4 a5)
  | 1, _ => w_st (fun _ => rfl) (p1_c1 a0 a1 a2 a3 a4 a5)
  | 2, _ => w_st (fun _ => rfl) (p1_c2 a0 a1 a2 a3 a4 a5)
  | 3, _ => w_st (fun _ => rfl) (p1_c3 a0 a1 a2 a3 a4 a5)
  | 4, _ => w_st (fun _ => rfl) (p1_c4 a0 a1 a2 a3 a4 a5)
  | 5, _ => w_st (fun _ => rfl) (p1_c5 a0 a1 a2 a3 a4 a5)
  | 6, _ => w_st (fun _ => rfl) (p1_c6 a0 a1 a2 a3 a4 a5)
  | 7, _ => w_st (fun _ => rfl) (p1_c7 a0 a1 a2 a3 a4 a5)
  | 8, _ => w_st (fun _ => rfl) (p1_c8 a0 a1 a2 a3 a4 a5)
  | 9, _ => w_st (fun _ => rfl) (p1_c9 a0 a1 a2 a3 a4 a5)
  | 10, _ => w_st (fun _ => rfl) (p1_c10 a0 a1 a2 a3 a4 a5)
  | 11, _ => w_st (fun _ => rfl) (p1_c11 a0 a1 a2 a3 a4 a5)
  | 12, _ => w_st (fun _ => rfl) (p1_c12 a0 a1 a2 a3 a4 a5)
  | 13, _ => w_st (fun _ => rfl) (p1_c13 a0 a1 a2 a3 a4 a5)
  | 14, _ => w_st (fun _ => rfl) (p1_c14 a0 a1 a2 a3 a4 a5)
  | 15, _ => w_st (fun _ => rfl) (p1_c15 a0 a1 a2 a3 a4 a5)
  | 16, _ => w_st (fun _ => rfl) (p1_c16 a0 a1 a2 a3 a4 a5)
  | 17, _ => w_st (fun _ => rfl) (p1_c17 a0 a1 a2 a3 a4 a5)
  | 18, _ => w_st (fun _ => rfl) (p1_c18 a0 a1 a2 a3 a4 a5)
  | 19, _ => w_st (fun _ => rfl) (p1_c19 a0 a1 a2 a3 a4 a5)
  | 20, _ => w_st (fun _ => rfl) (p1_c20 a0 a1 a2 a3 a4 a5)
  | 21, _ => w_st (fun _ => rfl) (p1_c21 a0 a1 a2 a3 a4 a5)
  | 22, _ => w_st (fun _ => rfl) (p1_c22 a0 a1 a2 a3 a4 a5)
  | 23, _ => w_st (fun _ => rfl) (p1_c23 a0 a1 a2 a3 a4 a5)
  | 24, _ => w_st (fun _ => rfl) (p1_c24 a0 a1 a2 a3 a4 a5)
  | 25, _ => w_st (fun _ => rfl) (p1_c25 a0 a1 a2 a3 a4 a5)
  | 26, _ => w_st (fun _ => rfl) (p1_c26 a0 a1 a2 a3 a4 a5)
  | 27, _ => w_st (fun _ => rfl) (p1_c27 a0 a1 a2 a3 a4 a5)
  | 28, _ => w_st (fun _ => rfl) (p1_c28 a0 a1 a2 a3 a4 a5)
  | 29, _ => w_st (fun _ => rfl) (p1_c29 a0 a1 a2 a3 a4 a5)
  | 30, _ => w_st (fun _ => rfl) (p1_c30 a0 a1 a2 a3 a4 a5)
  | 31, _ => w_st (fun _ => rfl) (p1_c31 a0 a1 a2 a3 a4 a5)
  | 32, _ => w_st (fun _ => rfl) (p1_c32 a0 a1 a2 a3 a4 a5)
  | 33, _ => w_st (fun _ => rfl) (p1_c33 a0 a1 a2 a3 a4 a5)
  | 34, _ => w_st (fun _ => rfl) (p1_c34 a0 a1 a2 a3 a4 a5)
  | 35, _ => w_st (fun _ => rfl) (p1_c35 a0 a1 a2 a3 a4 a5)
  | n + 36, h => by
    refine w_tswO rfl (Or.inr ?_) (p1_end a0 a1 a2 a3 a4 a5 hM (Nat.le_of_ble_eq_true rfl) (Nat.le_of_ble_eq_true rfl))
    rw [Int32.toInt_ofNat_of_lt (by omega)]
    omega
set_option maxRecDepth 20000 in
theorem p1_ctor (xs : List Int32) (k : mm_W 9 (mc_law xs) 18 [some (.ref 1400), some (.ref 0), some (.ref 284), some (.int 0)] [] hM p1_lq) : mm_W 9 (mc_law xs) 0 [some (.ref 1400), none, none, none] [] (0, 0, mm_no 9) p1_lq := by
  refine w_st (h2 := hA) (fun _ => rfl) ?_
  refine w_st (fun _ => rfl) ?_
  refine w_ivI (as := []) (i := 0) rfl (mg_law _) rfl rfl rfl ?_
  refine kc_X.mono (Nat.le_refl _) ?_
  rintro _ _ ⟨rfl, rfl⟩
  refine ⟨rfl, ?_⟩
  refine w_st (fun _ => rfl) ?_
  refine w_st (h2 := hB) (fun _ => rfl) ?_
  refine w_st (fun _ => rfl) ?_
  refine w_ivI (as := []) (i := 284) rfl (mg_law _) rfl rfl rfl ?_
  refine kc_M.mono (Nat.le_refl _) ?_
  rintro _ _ ⟨rfl, rfl⟩
  refine ⟨rfl, ?_⟩
  refine w_st (fun _ => rfl) ?_
  refine w_st (fun _ => rfl) ?_
  refine w_st (fun _ => rfl) ?_
  exact k
set_option maxRecDepth 20000 in
theorem p1_l0 : mm_W 9 (mc_law []) 18 [some (.ref 1400), some (.ref 0), some (.ref 284), some (.int 0)] [] hM p1_lq := by
  refine w_st (fun _ => rfl) ?_
  refine w_st (fun _ => rfl) ?_
  refine w_alenL (n := 0) rfl rfl ?_
  refine w_st (fun _ => rfl) ?_
  refine w_i2 rfl ?_
  refine w_st (fun _ => rfl) ?_
  refine w_st (fun _ => rfl) ?_
  exact w_rt (fun _ => rfl) ⟨rfl, Nat.le_of_ble_eq_true rfl, Nat.le_of_ble_eq_true rfl⟩
set_option maxRecDepth 20000 in
theorem p1_l1 (a0 : Int32) : mm_W 9 (mc_law [a0]) 18 [some (.ref 1400), some (.ref 0), some (.ref 284), some (.int 0)] [] hM p1_lq := by
  refine w_st (fun _ => rfl) ?_
  refine w_st (fun _ => rfl) ?_
  refine w_alenL (n := 1) rfl rfl ?_
  refine w_st (fun _ => rfl) ?_
  refine w_i2 rfl ?_
  refine w_st (fun _ => rfl) ?_
  refine w_st (fun _ => rfl) ?_
  exact w_rt (fun _ => rfl) ⟨rfl, Nat.le_of_ble_eq_true rfl, Nat.le_of_ble_eq_true rfl⟩
set_option maxRecDepth 20000 in
theorem p1_l2 (a0 a1 : Int32) : mm_W 9 (mc_law [a0, a1]) 18 [some (.ref 1400), some (.ref 0), some (.ref 284), some (.int 0)] [] hM p1_lq := by
  refine w_st (fun _ => rfl) ?_
  refine w_st (fun _ => rfl) ?_
  refine w_alenL (n := 2) rfl rfl ?_
  refine w_st (fun _ => rfl) ?_
  refine w_i2 rfl ?_
  refine w_st (fun _ => rfl) ?_
  refine w_st (fun _ => rfl) ?_
  exact w_rt (fun _ => rfl) ⟨rfl, Nat.le_of_ble_eq_true rfl, Nat.le_of_ble_eq_true rfl⟩
set_option maxRecDepth 20000 in
theorem p1_l3 (a0 a1 a2 : Int32) : mm_W 9 (mc_law [a0, a1, a2]) 18 [some (.ref 1400), some (.ref 0), some (.ref 284), some (.int 0)] [] hM p1_lq := by
  refine w_st (fun _ => rfl) ?_
  refine w_st (fun _ => rfl) ?_
  refine w_alenL (n := 3) rfl rfl ?_
  refine w_st (fun _ => rfl) ?_
  refine w_i2 rfl ?_
  refine w_st (fun _ => rfl) ?_
  refine w_st (fun _ => rfl) ?_
  exact w_rt (fun _ => rfl) ⟨rfl, Nat.le_of_ble_eq_true rfl, Nat.le_of_ble_eq_true rfl⟩
set_option maxRecDepth 20000 in
theorem p1_l4 (a0 a1 a2 a3 : Int32) : mm_W 9 (mc_law [a0, a1, a2, a3]) 18 [some (.ref 1400), some (.ref 0), some (.ref 284), some (.int 0)] [] hM p1_lq := by
  refine w_st (fun _ => rfl) ?_
  refine w_st (fun _ => rfl) ?_
  refine w_alenL (n := 4) rfl rfl ?_
  refine w_st (fun _ => rfl) ?_
  refine w_i2 rfl ?_
  refine w_st (fun _ => rfl) ?_
  refine w_st (fun _ => rfl) ?_
  exact w_rt (fun _ => rfl) ⟨rfl, Nat.le_of_ble_eq_true rfl, Nat.le_of_ble_eq_true rfl⟩
set_option maxRecDepth 20000 in
theorem p1_l5 (a0 a1 a2 a3 a4 : Int32) : mm_W 9 (mc_law [a0, a1, a2, a3, a4]) 18 [some (.ref 1400), some (.ref 0), some (.ref 284), some (.int 0)] [] hM p1_lq := by
  refine w_st (fun _ => rfl) ?_
  refine w_st (fun _ => rfl) ?_
  refine w_alenL (n := 5) rfl rfl ?_
  refine w_st (fun _ => rfl) ?_
  refine w_i2 rfl ?_
  refine w_st (fun _ => rfl) ?_
  refine w_st (fun _ => rfl) ?_
  exact w_rt (fun _ => rfl) ⟨rfl, Nat.le_of_ble_eq_true rfl, Nat.le_of_ble_eq_true rfl⟩
set_option maxRecDepth 20000 in
theorem p1_l6 (a0 a1 a2 a3 a4 a5 : Int32) : mm_W 9 (mc_law [a0, a1, a2, a3, a4, a5]) 18 [some (.ref 1400), some (.ref 0), some (.ref 284), some (.int 0)] [] hM p1_lq := by
  refine w_st (fun _ => rfl) ?_
  refine w_st (fun _ => rfl) ?_
  refine w_alenL (n := 6) rfl rfl ?_
  refine w_st (fun _ => rfl) ?_
  refine w_i2 rfl ?_
  refine w_st (fun _ => rfl) ?_
  refine w_st (fun _ => rfl) ?_
  refine w_st (fun _ => rfl) ?_
  refine w_st (fun _ => rfl) ?_
  refine w_st (fun _ => rfl) ?_
  refine w_i2 rfl ?_
  obtain ⟨n, hn, e⟩ := p1_63 a0
  show mm_W 9 _ 33 _ [.int (a0 &&& 63)] hM _
  rw [e]
  exact p1_sw a0 a1 a2 a3 a4 a5 n hn
/-- the law, on every script of at most 6 ints -/
theorem pure_law (xs : List Int32) (h : xs.length ≤ 6) : mm_W 9 (mc_law xs) 0 [some (.ref 1400), none, none, none] [] (0, 0, mm_no 9) (fun h2 r => r = some (.int 1) ∧ h2.1 ≤ 600000 ∧ h2.2.1 ≤ 7302250) := by
  refine p1_ctor xs ?_
  match xs, h with
  | [], _ => exact p1_l0
  | [a0], _ => exact p1_l1 a0
  | [a0, a1], _ => exact p1_l2 a0 a1
  | [a0, a1, a2], _ => exact p1_l3 a0 a1 a2
  | [a0, a1, a2, a3], _ => exact p1_l4 a0 a1 a2 a3
  | [a0, a1, a2, a3, a4], _ => exact p1_l5 a0 a1 a2 a3 a4
  | [a0, a1, a2, a3, a4, a5], _ => exact p1_l6 a0 a1 a2 a3 a4 a5
  | _ :: _ :: _ :: _ :: _ :: _ :: _ :: _, h => exact absurd h (by simp only [List.length_cons]; omega)
