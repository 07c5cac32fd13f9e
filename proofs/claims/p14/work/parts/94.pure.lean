theorem z_10 : rd m00 1 0 = 0 := by decide +kernel
theorem LW_00 : LW m00 := ⟨⟨Ty_00, CR_00, MI_00⟩, by decide, fun j hj => absurd hj (by rw [z_10]; omega), by decide +kernel, by decide +kernel, by decide +kernel, fun _ _ => rfl, by decide +kernel⟩
def Y00 : Ro := fun i => if i = 0 then 4 else if i = 1 then 4 else 0
def A00 : Ab := mkA Y00 dE (fun _ => 0) 0 (fun _ _ => 0) (fun _ => 0) (fun _ _ => 0)
theorem pl00 : ∀ n : Nat, n < 16 → rd m00 16 n = (n : Int) % 4 ∧ rd m00 17 n = (n : Int) / 4 ∧ ∀ k : Nat, k < 4 → rd m00 18 (n * 4 + k) = nxN Y00 (n : Int) (k : Int) := by decide +kernel
theorem ls00 : ∀ k : Nat, k < 4 → 0 ≤ rd m00 14 k ∧ rd m00 14 k + 2 ≤ rd m00 11 4 ∧ rd m00 13 (Int.toNat (rd m00 14 k)) = dfl (k : Int) * 8 + 0 ∧ rd m00 13 (Int.toNat (rd m00 14 k + 1)) = 0 * 8 + 2 := by decide +kernel
theorem lq00 : ∀ k : Nat, k < 4 → rd m00 307 (Int.toNat (4 * rd m00 284 18 + (k : Int))) = rd m00 308 (Int.toNat (4 * rd m00 284 18 + (k : Int))) := by decide +kernel
theorem tb00 : ∀ k : Nat, k < 4 → rd m00 319 (Int.toNat (6 * rd m00 320 (Int.toNat (4 * 0 + (k : Int))) + 0)) = ct (k : Int) ∧ rd m00 319 (Int.toNat (6 * rd m00 320 (Int.toNat (4 * 0 + (k : Int))) + 1)) = cb (k : Int) := by decide +kernel
theorem zz00 : (∀ j : Nat, j < 25 → rd m00 275 j = 0) ∧ (∀ j : Nat, j < 3 → rd m00 278 j = 0) ∧ (∀ j : Nat, j < 51 → rd m00 322 j = 0) ∧ (∀ j : Nat, j < 3 → rd m00 58 j = 0) ∧ (∀ j : Nat, j < 3 → rd m00 339 j = 0) := by decide +kernel
theorem zy00 : rd m00 7 0 = 4 ∧ rd m00 7 1 = 4 ∧ rd m00 7 4 = 0 ∧ rd m00 7 3 = 0 ∧ rd m00 7 2 = 0 ∧ rd m00 274 4 = 0 ∧ rd m00 274 5 = 0 ∧ rd m00 274 6 = 0 ∧ rd m00 55 0 = 0 := by decide +kernel
theorem zx00 : rd m00 293 (Int.toNat (rd m00 284 18)) = 4 ∧ rd m00 294 (Int.toNat (rd m00 284 18)) = 4 ∧ rd m00 284 59 = 0 ∧ rd m00 302 (Int.toNat (rd m00 284 18)) = 0 ∧ rd m00 306 (Int.toNat (rd m00 284 18)) = 0 ∧ rd m00 284 60 = 0 := by decide +kernel
theorem cA_00 : cA m00 A00 := by
  obtain ⟨a0, a1, a2, a3, a4, a5, a6, a7, a8⟩ := zy00
  obtain ⟨b1, b2, -, b4, -⟩ := zz00
  refine ⟨⟨⟨a0, a1, a2, a3, a4⟩, fun f h0 h1 => ?_, fun k k0 k1 => ?_⟩, ⟨by decide, by decide, by decide⟩, ⟨fun c c0 c1 => ?_, a5, b1, fun c c0 c1 => ?_, fun k k0 k1 => ?_, fun c c0 c1 => b2 (Int.toNat c) (by omega), a6, a7⟩, ⟨a8, Nat.zero_le _⟩, fun q hq => absurd hq (Nat.not_lt_zero q), fun j hj => ⟨b4 j hj, fun z => absurd rfl z⟩⟩
  · have h2 : f < 16 := h1
    have p := pl00 (Int.toNat f) (by omega)
    rw [show ((Int.toNat f : Nat) : Int) = f by omega] at p
    refine ⟨p.1, p.2.1, fun k k0 k1 => ?_⟩
    have q := p.2.2 (Int.toNat k) (by omega)
    rw [show ((Int.toNat k : Nat) : Int) = k by omega, show Int.toNat f * 4 + Int.toNat k = Int.toNat (f * 4 + k) by omega] at q
    exact q
  · have p := ls00 (Int.toNat k) (by omega)
    rw [show ((Int.toNat k : Nat) : Int) = k by omega] at p
    exact ⟨dE_wf k, p.1, p.2.1, p.2.2.1, p.2.2.2, trivial⟩
  · have h2 : c < 0 := c1
    omega
  · have h2 : c < 0 := c1
    omega
  · have h2 : k < 6 * 0 := k1
    omega
theorem mA_00 : mA m00 A00 := by
  obtain ⟨a0, a1, a2, a3, a4, a5⟩ := zx00
  obtain ⟨-, -, b3, -, b5⟩ := zz00
  refine ⟨⟨⟨a0, a1, a2, a3, a4⟩, fun k k0 k1 => ⟨dE_wf k, Or.inl ⟨?_, rfl⟩⟩, fun k k0 k1 => ?_⟩, b3, a5, fun q j hq => absurd hq (Nat.not_lt_zero q), fun s hs => ⟨b5 s hs, fun z => absurd rfl z⟩⟩
  · have p := lq00 (Int.toNat k) (by omega)
    rw [show ((Int.toNat k : Nat) : Int) = k by omega] at p
    exact p
  · have p := tb00 (Int.toNat k) (by omega)
    rw [show ((Int.toNat k : Nat) : Int) = k by omega] at p
    exact p
theorem tb_00 : tbB m00 := ⟨⟨fun _ _ => rfl, fun _ _ => rfl⟩, by unfold tbR FA0 TA0; decide +kernel⟩
theorem LZ_00 : LZ m00 := ⟨LW_00, ⟨A00, cA_00, mA_00, ⟨⟨⟨fun _ _ _ => rfl, fun _ _ _ => rfl⟩, fun c d c0 c1 d0 d1 q => by have h : c < 0 := c1; omega⟩, fun q hq => absurd hq (Nat.not_lt_zero q), fun _ _ z => absurd rfl z⟩, ⟨fun c c0 c1 => by have h : c < 0 := c1; omega, fun q hq => absurd hq (Nat.not_lt_zero q), fun _ _ z => absurd rfl z⟩⟩, tb_00⟩
theorem an63 (a : Int) : 0 ≤ anI a 63 ∧ anI a 63 ≤ 63 := by
  have e : anI a 63 = ((Int32.ofInt a).toBitVec &&& 63#32).toInt := rfl
  have h1 : ((Int32.ofInt a).toBitVec &&& 63#32).toNat ≤ 63 := by
    rw [BitVec.toNat_and]
    exact Nat.and_le_right
  rw [e, BitVec.toInt_eq_toNat_of_lt (by omega)]
  omega
theorem w_alenL {D : Nat} {code : Nat → mm_A} {pc nx n : Nat} {ls : List (Option Value)} {r : List Value} {h : mm_H} {Q : mm_Q} {xs : List Int32} (hc : code pc = a_alen (mm_xl xs) nx) (hn : xs.length = n) (k : mm_W D code nx ls (.int (Int32.ofNat n) :: r) h Q) : mm_W D code pc ls (.ref 1400 :: r) h Q :=
  w_st (fun F => by
    subst hn
    rw [hc]
    show mm_fI (Int32.ofNat xs.length) (fun z => some (Sum.inl (nx, ls, Value.int z :: r, h))) = _
    rw [mm_fI_eq]) k
theorem f_lenS {D : Nat} {code : Nat → mm_A} {pc nx : Nat} {ls : List (Option Value)} {r : List Value} {h : mm_H} {Q : mm_Q} {xs : List Int32} (hc : code pc = a_alen (mm_xl xs) nx) (hl : xs.length ≤ 3072) (k : mm_W D code nx ls (iv (xs.length : Int) :: r) h Q) : mm_W D code pc ls (.ref 1400 :: r) h Q := by
  refine w_alenL hc rfl ?_
  have e : Int32.ofNat xs.length = Int32.ofInt (xs.length : Int) := of_eq (by rw [Int32.toInt_ofNat_of_lt (by omega), wr_id (by omega) (by omega)])
  rw [e]
  exact k
set_option maxRecDepth 20000 in
theorem lw_loop {xs : List Int32} (hl : xs.length ≤ 3072) : ∀ (n : Nat) (i : Int) (m : Mm), 0 ≤ i → i ≤ 6000 → (xs.length : Int) - i < n → LZ m → mm_W 60 (mc_law xs) 18 [some (.ref 1400), some (.ref 0), some (.ref 284), some (iv i)] [] (fm m) lq := by
  intro n
  induction n with
  | zero =>
    intro i m h0 h6 hn L
    have r_i : rg i := ⟨by omega, by omega⟩
    refine w_st (fun _ => rfl) ?_
    refine w_st (fun _ => rfl) ?_
    refine f_lenS rfl hl ?_
    refine f_int 6 rfl rfl ?_
    refine f_sub rfl ?_
    refine b_gt rfl r_i (wr_rg _) (fun hq => ?_) (fun hq => ?_)
    · refine f_int 1 rfl rfl ?_
      exact w_rt (fun _ => rfl) ⟨rfl, Nat.le_of_ble_eq_true rfl, Nat.le_of_ble_eq_true rfl⟩
    · exact absurd hq (by rw [wr_id (by omega) (by omega)]; omega)
  | succ n ih =>
    intro i m h0 h6 hn L
    have r_i : rg i := ⟨by omega, by omega⟩
    refine w_st (fun _ => rfl) ?_
    refine w_st (fun _ => rfl) ?_
    refine f_lenS rfl hl ?_
    refine f_int 6 rfl rfl ?_
    refine f_sub rfl ?_
    have wl : wr ((xs.length : Int) - 6) = (xs.length : Int) - 6 := wr_id (by omega) (by omega)
    refine b_gt rfl r_i (wr_rg _) (fun hq => ?_) (fun hq => ?_)
    · refine f_int 1 rfl rfl ?_
      exact w_rt (fun _ => rfl) ⟨rfl, Nat.le_of_ble_eq_true rfl, Nat.le_of_ble_eq_true rfl⟩
    · have hi : 0 ≤ i ∧ i + 6 ≤ xs.length := ⟨h0, by omega⟩
      have K : ∀ m2, LZ m2 → mm_W 60 (mc_law xs) 1386 [some (.ref 1400), some (.ref 0), some (.ref 284), some (iv i)] [] (fm m2) lq := fun m2 L2 => by
        refine f_iinc (x2 := i + 6) 6 rfl rfl rfl (by rw [wr_id (by omega) (by omega)]) rfl ?_
        refine w_st (fun _ => rfl) ?_
        exact ih (i + 6) m2 (by omega) (by omega) (by omega) L2
      refine w_st (fun _ => rfl) ?_
      refine w_st (fun _ => rfl) ?_
      refine f_scr rfl (by omega) hl ?_
      refine f_int 63 rfl rfl ?_
      refine f_anI rfl ?_
      have b := an63 (sI xs i)
      have ra : rg (anI (sI xs i) 63) := ⟨by omega, by omega⟩
      generalize anI (sI xs i) 63 = a at b ra
      have hc : a = 0 ∨ a = 1 ∨ a = 2 ∨ a = 3 ∨ a = 4 ∨ a = 5 ∨ a = 6 ∨ a = 7 ∨ a = 8 ∨ a = 9 ∨ a = 10 ∨ a = 11 ∨ a = 12 ∨ a = 13 ∨ a = 14 ∨ a = 15 ∨ a = 16 ∨ a = 17 ∨ a = 18 ∨ a = 19 ∨ a = 20 ∨ a = 21 ∨ a = 22 ∨ a = 23 ∨ a = 24 ∨ a = 25 ∨ a = 26 ∨ a = 27 ∨ a = 28 ∨ a = 29 ∨ a = 30 ∨ a = 31 ∨ a = 32 ∨ a = 33 ∨ a = 34 ∨ a = 35 ∨ 36 ≤ a := by omega
      rcases hc with e | e | e | e | e | e | e | e | e | e | e | e | e | e | e | e | e | e | e | e | e | e | e | e | e | e | e | e | e | e | e | e | e | e | e | e | e
      · exact f_tsw 0 rfl ra e rfl rfl (cs_0 r_i hi hl L K)
      · exact f_tsw 1 rfl ra e rfl rfl (cs_1 r_i hi hl L K)
      · exact f_tsw 2 rfl ra e rfl rfl (cs_2 r_i hi hl L K)
      · exact f_tsw 3 rfl ra e rfl rfl (cs_3 r_i hi hl L K)
      · exact f_tsw 4 rfl ra e rfl rfl (cs_4 r_i hi hl L K)
      · exact f_tsw 5 rfl ra e rfl rfl (cs_5 r_i hi hl L K)
      · exact f_tsw 6 rfl ra e rfl rfl (cs_6 r_i hi hl L K)
      · exact f_tsw 7 rfl ra e rfl rfl (cs_7 r_i hi hl L K)
      · exact f_tsw 8 rfl ra e rfl rfl (cs_8 r_i hi hl L K)
      · exact f_tsw 9 rfl ra e rfl rfl (cs_9 r_i hi hl L K)
      · exact f_tsw 10 rfl ra e rfl rfl (cs_10 r_i hi hl L K)
      · exact f_tsw 11 rfl ra e rfl rfl (cs_11 r_i hi hl L K)
      · exact f_tsw 12 rfl ra e rfl rfl (cs_12 r_i hi hl L K)
      · exact f_tsw 13 rfl ra e rfl rfl (cs_13 r_i hi hl L K)
      · exact f_tsw 14 rfl ra e rfl rfl (cs_14 r_i hi hl L K)
      · exact f_tsw 15 rfl ra e rfl rfl (cs_15 r_i hi hl L K)
      · exact f_tsw 16 rfl ra e rfl rfl (cs_16 r_i hi hl L K)
      · exact f_tsw 17 rfl ra e rfl rfl (cs_17 r_i hi hl L K)
      · exact f_tsw 18 rfl ra e rfl rfl (cs_18 r_i hi hl L K)
      · exact f_tsw 19 rfl ra e rfl rfl (cs_19 r_i hi hl L K)
      · exact f_tsw 20 rfl ra e rfl rfl (cs_20 r_i hi hl L K)
      · exact f_tsw 21 rfl ra e rfl rfl (cs_21 r_i hi hl L K)
      · exact f_tsw 22 rfl ra e rfl rfl (cs_22 r_i hi hl L K)
      · exact f_tsw 23 rfl ra e rfl rfl (cs_23 r_i hi hl L K)
      · exact f_tsw 24 rfl ra e rfl rfl (cs_24 r_i hi hl L K)
      · exact f_tsw 25 rfl ra e rfl rfl (cs_25 r_i hi hl L K)
      · exact f_tsw 26 rfl ra e rfl rfl (cs_26 r_i hi hl L K)
      · exact f_tsw 27 rfl ra e rfl rfl (cs_27 r_i hi hl L K)
      · exact f_tsw 28 rfl ra e rfl rfl (cs_28 r_i hi hl L K)
      · exact f_tsw 29 rfl ra e rfl rfl (cs_29 r_i hi hl L K)
      · exact f_tsw 30 rfl ra e rfl rfl (cs_30 r_i hi hl L K)
      · exact f_tsw 31 rfl ra e rfl rfl (cs_31 r_i hi hl L K)
      · exact f_tsw 32 rfl ra e rfl rfl (cs_32 r_i hi hl L K)
      · exact f_tsw 33 rfl ra e rfl rfl (cs_33 r_i hi hl L K)
      · exact f_tsw 34 rfl ra e rfl rfl (cs_34 r_i hi hl L K)
      · exact f_tsw 35 rfl ra e rfl rfl (cs_35 r_i hi hl L K)
      · exact f_tswd rfl ra (Or.inr (by omega)) (K m L)
set_option maxRecDepth 20000 in
theorem p_ctor (xs : List Int32) (k : mm_W 60 (mc_law xs) 18 [some (.ref 1400), some (.ref 0), some (.ref 284), some (iv 0)] [] hM lq) : mm_W 60 (mc_law xs) 0 [some (.ref 1400), none, none, none] [] (0, 0, mm_no 9) lq := by
  refine w_st (h2 := hA) (fun _ => rfl) ?_
  refine w_st (fun _ => rfl) ?_
  refine w_ivI (as := []) (i := 0) rfl (mg_law _) rfl rfl rfl ?_
  refine kc_X.mono (by decide) ?_
  rintro _ _ ⟨rfl, rfl⟩
  refine ⟨rfl, ?_⟩
  refine w_st (fun _ => rfl) ?_
  refine w_st (h2 := hB) (fun _ => rfl) ?_
  refine w_st (fun _ => rfl) ?_
  refine w_ivI (as := []) (i := 284) rfl (mg_law _) rfl rfl rfl ?_
  refine kc_M.mono (by decide) ?_
  rintro _ _ ⟨rfl, rfl⟩
  refine ⟨rfl, ?_⟩
  refine w_st (fun _ => rfl) ?_
  refine w_st (fun _ => rfl) ?_
  refine w_st (fun _ => rfl) ?_
  exact k
/-- the law, on every script of at most 3072 ints -/
theorem pure_law (xs : List Int32) (h : xs.length ≤ 3072) : mm_W 60 (mc_law xs) 0 [some (.ref 1400), none, none, none] [] (0, 0, mm_no 9) (fun h2 r => r = some (.int 1) ∧ h2.1 ≤ 600000 ∧ h2.2.1 ≤ 7302250) := by
  refine p_ctor xs ?_
  rw [hM_fm]
  exact lw_loop h (xs.length + 1) 0 m00 (by decide) (by decide) (by omega) LZ_00
