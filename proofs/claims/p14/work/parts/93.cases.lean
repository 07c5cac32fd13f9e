theorem re_q {m m1 : Mm} {x1 v1 v2 : Int} (L : LW m) (a : (v1 = 1 ∧ (0 ≤ x1 ∧ x1 ≤ 2) ∧ ¬ rd m 58 (Int.toNat x1) = 0) ∨ (v1 = 0 ∧ ((x1 < 0 ∨ 2 < x1) ∨ rd m 58 (Int.toNat x1) = 0))) (b : (v2 = 1 ∧ (0 ≤ x1 ∧ x1 ≤ 2) ∧ ¬ rd m1 339 (Int.toNat x1) = 0) ∨ (v2 = 0 ∧ ((x1 < 0 ∨ 2 < x1) ∨ rd m1 339 (Int.toNat x1) = 0))) (k : ∀ j, rd m1 339 j = rd m 339 j) : v1 = v2 := by
  rw [k] at b
  by_cases h : 0 ≤ x1 ∧ x1 ≤ 2
  · have e := L.2.2.2.2.2.1 (Int.toNat x1) (by omega)
    omega
  · omega
def sI (xs : List Int32) (j : Int) : Int := (xs.getD (Int.toNat j) 0).toInt
theorem sI_rg (xs : List Int32) (j : Int) : rg (sI xs j) := i_rg _
def lq : mm_Q := fun h2 r => r = some (.int 1) ∧ h2.1 ≤ 600000 ∧ h2.2.1 ≤ 7302250
theorem f_scr {D : Nat} {code : Nat → mm_A} {pc nx : Nat} {ls : List (Option Value)} {r : List Value} {h : mm_H} {Q : mm_Q} {xs : List Int32} {j : Int} (hc : code pc = a_iald (mm_xl xs) nx) (hj : 0 ≤ j ∧ j < xs.length) (hl : xs.length ≤ 3072) (k : mm_W D code nx ls (iv (sI xs j) :: r) h Q) : mm_W D code pc ls (iv j :: .ref 1400 :: r) h Q := by
  refine w_st (fun F => ?_) k
  have hr : rg j := ⟨by omega, by omega⟩
  have e1 : (Int32.ofInt j).toNatClampNeg = Int.toNat j := by
    show (Int32.ofInt j).toInt.toNat = _
    rw [to_of_rg hr]
  have e2 : xs[Int.toNat j]? = some (xs.getD (Int.toNat j) 0) := by
    rw [List.getD_eq_getElem?_getD]
    have : Int.toNat j < xs.length := by omega
    rw [List.getElem?_eq_getElem this]
    rfl
  rw [hc]
  show (bif decide (Int32.ofInt j < 0) then none else (match (some xs : Option (List Int32)) with
      | some xs => match xs[(Int32.ofInt j).toNatClampNeg]? with
        | some v => some (Sum.inl (nx, ls, Value.int v :: r, h))
        | none => none
      | none => none)) = _
  rw [decide_eq_false (of_nn hr hj.1), e1]
  show (match xs[Int.toNat j]? with
        | some v => some (Sum.inl (nx, ls, Value.int v :: r, h))
        | none => none) = _
  rw [e2]
  show some (Sum.inl (nx, ls, Value.int (xs.getD (Int.toNat j) 0) :: r, h)) = some (Sum.inl (nx, ls, Value.int (Int32.ofInt (xs.getD (Int.toNat j) 0).toInt) :: r, h))
  rw [of_to]
set_option maxRecDepth 20000 in
theorem cs_0 {xs : List Int32} {i : Int} {m : Mm} (r_i : rg i) (hi : 0 ≤ i ∧ i + 6 ≤ xs.length) (hl : xs.length ≤ 3072) (L : LZ m) (K : ∀ m2, LZ m2 → mm_W 60 (mc_law xs) 1386 [some (.ref 1400), some (.ref 0), some (.ref 284), some (iv i)] [] (fm m2) lq) : mm_W 60 (mc_law xs) 192 [some (.ref 1400), some (.ref 0), some (.ref 284), some (iv i)] [] (fm m) lq := by
  have w1 : wr (i + 1) = i + 1 := wr_id (by omega) (by omega)
  have w2 : wr (i + 2) = i + 2 := wr_id (by omega) (by omega)
  have w3 : wr (i + 3) = i + 3 := wr_id (by omega) (by omega)
  have w4 : wr (i + 4) = i + 4 := wr_id (by omega) (by omega)
  have w5 : wr (i + 5) = i + 5 := wr_id (by omega) (by omega)
  obtain ⟨⟨A, S⟩, tb0⟩ := id L.2
  refine w_st (fun _ => rfl) ?_
  refine w_st (fun _ => rfl) ?_
  refine w_st (fun _ => rfl) ?_
  refine f_int 1 rfl rfl ?_
  refine f_add rfl ?_
  refine f_scr rfl (by omega) hl ?_
  refine w_st (fun _ => rfl) ?_
  refine w_st (fun _ => rfl) ?_
  refine f_int 2 rfl rfl ?_
  refine f_add rfl ?_
  refine f_scr rfl (by omega) hl ?_
  refine w_st (fun _ => rfl) ?_
  refine w_st (fun _ => rfl) ?_
  refine f_int 3 rfl rfl ?_
  refine f_add rfl ?_
  refine f_scr rfl (by omega) hl ?_
  refine w_st (fun _ => rfl) ?_
  refine w_st (fun _ => rfl) ?_
  refine f_int 4 rfl rfl ?_
  refine f_add rfl ?_
  refine f_scr rfl (by omega) hl ?_
  refine w_st (fun _ => rfl) ?_
  refine w_st (fun _ => rfl) ?_
  refine f_int 5 rfl rfl ?_
  refine f_add rfl ?_
  refine f_scr rfl (by omega) hl ?_
  refine k_VK (as := [iv (sI xs (wr (i + 1))), iv (sI xs (wr (i + 2))), iv (sI xs (wr (i + 3))), iv (sI xs (wr (i + 4))), iv (sI xs (wr (i + 5)))]) rfl (mg_law _) rfl rfl (by decide) rfl rfl (lw_122 L.1.1 S tb0  (sI_rg _ _) (sI_rg _ _) (sI_rg _ _) (sI_rg _ _) (sI_rg _ _)) (fun m1 v1 r_v1 h1 => ?_)
  refine w_st (fun _ => rfl) ?_
  refine w_st (fun _ => rfl) ?_
  refine w_st (fun _ => rfl) ?_
  refine w_st (fun _ => rfl) ?_
  refine f_int 1 rfl rfl ?_
  refine f_add rfl ?_
  refine f_scr rfl (by omega) hl ?_
  refine w_st (fun _ => rfl) ?_
  refine w_st (fun _ => rfl) ?_
  refine f_int 2 rfl rfl ?_
  refine f_add rfl ?_
  refine f_scr rfl (by omega) hl ?_
  refine w_st (fun _ => rfl) ?_
  refine w_st (fun _ => rfl) ?_
  refine f_int 3 rfl rfl ?_
  refine f_add rfl ?_
  refine f_scr rfl (by omega) hl ?_
  refine w_st (fun _ => rfl) ?_
  refine w_st (fun _ => rfl) ?_
  refine f_int 4 rfl rfl ?_
  refine f_add rfl ?_
  refine f_scr rfl (by omega) hl ?_
  refine w_st (fun _ => rfl) ?_
  refine w_st (fun _ => rfl) ?_
  refine f_int 5 rfl rfl ?_
  refine f_add rfl ?_
  refine f_scr rfl (by omega) hl ?_
  refine k_VK (as := [iv (sI xs (wr (i + 1))), iv (sI xs (wr (i + 2))), iv (sI xs (wr (i + 3))), iv (sI xs (wr (i + 4))), iv (sI xs (wr (i + 5)))]) rfl (mg_law _) rfl rfl (by decide) rfl rfl (lw_169 h1.1 h1.2.2.1 (oA_of S) h1.2.1.2  (sI_rg _ _) (sI_rg _ _) (sI_rg _ _) (sI_rg _ _) (sI_rg _ _)) (fun m2 v2 r_v2 h2 => ?_)
  have L0 := L.1
  have g1 := h1.2.1.1
  have g2 := And.intro h2.1 h2.2.1.1
  refine w_st (fun _ => rfl) ?_
  refine w_st (fun _ => rfl) ?_
  exact K m2 ⟨lw_fe L0 g1 g2 (ty_1_0 L0.1.1).1, as_look S h1.2.2.2 h2.2.2.2 h2.2.2.1, h2.2.1.2⟩
set_option maxRecDepth 20000 in
theorem cs_1 {xs : List Int32} {i : Int} {m : Mm} (r_i : rg i) (hi : 0 ≤ i ∧ i + 6 ≤ xs.length) (hl : xs.length ≤ 3072) (L : LZ m) (K : ∀ m2, LZ m2 → mm_W 60 (mc_law xs) 1386 [some (.ref 1400), some (.ref 0), some (.ref 284), some (iv i)] [] (fm m2) lq) : mm_W 60 (mc_law xs) 255 [some (.ref 1400), some (.ref 0), some (.ref 284), some (iv i)] [] (fm m) lq := by
  have w1 : wr (i + 1) = i + 1 := wr_id (by omega) (by omega)
  have w2 : wr (i + 2) = i + 2 := wr_id (by omega) (by omega)
  have w3 : wr (i + 3) = i + 3 := wr_id (by omega) (by omega)
  have w4 : wr (i + 4) = i + 4 := wr_id (by omega) (by omega)
  have w5 : wr (i + 5) = i + 5 := wr_id (by omega) (by omega)
  obtain ⟨⟨A, S⟩, tb0⟩ := id L.2
  refine w_st (fun _ => rfl) ?_
  refine w_st (fun _ => rfl) ?_
  refine w_st (fun _ => rfl) ?_
  refine f_int 1 rfl rfl ?_
  refine f_add rfl ?_
  refine f_scr rfl (by omega) hl ?_
  refine k_VK (as := [iv (sI xs (wr (i + 1)))]) rfl (mg_law _) rfl rfl (by decide) rfl rfl (lw_123 L.1.1 S tb0  (sI_rg _ _)) (fun m1 v1 r_v1 h1 => ?_)
  refine w_st (fun _ => rfl) ?_
  refine w_st (fun _ => rfl) ?_
  refine w_st (fun _ => rfl) ?_
  refine w_st (fun _ => rfl) ?_
  refine f_int 1 rfl rfl ?_
  refine f_add rfl ?_
  refine f_scr rfl (by omega) hl ?_
  refine k_VK (as := [iv (sI xs (wr (i + 1)))]) rfl (mg_law _) rfl rfl (by decide) rfl rfl (lw_171 h1.1 h1.2.2.1 (oA_of S) h1.2.1.2  (sI_rg _ _)) (fun m2 v2 r_v2 h2 => ?_)
  have L0 := L.1
  have g1 := h1.2.1.1
  have g2 := And.intro h2.1 h2.2.1.1
  refine w_st (fun _ => rfl) ?_
  refine w_st (fun _ => rfl) ?_
  exact K m2 ⟨lw_ba L0 g1 g2, as_look S h1.2.2.2 h2.2.2.2 h2.2.2.1, h2.2.1.2⟩
set_option maxRecDepth 20000 in
theorem cs_2 {xs : List Int32} {i : Int} {m : Mm} (r_i : rg i) (hi : 0 ≤ i ∧ i + 6 ≤ xs.length) (hl : xs.length ≤ 3072) (L : LZ m) (K : ∀ m2, LZ m2 → mm_W 60 (mc_law xs) 1386 [some (.ref 1400), some (.ref 0), some (.ref 284), some (iv i)] [] (fm m2) lq) : mm_W 60 (mc_law xs) 278 [some (.ref 1400), some (.ref 0), some (.ref 284), some (iv i)] [] (fm m) lq := by
  have w1 : wr (i + 1) = i + 1 := wr_id (by omega) (by omega)
  have w2 : wr (i + 2) = i + 2 := wr_id (by omega) (by omega)
  have w3 : wr (i + 3) = i + 3 := wr_id (by omega) (by omega)
  have w4 : wr (i + 4) = i + 4 := wr_id (by omega) (by omega)
  have w5 : wr (i + 5) = i + 5 := wr_id (by omega) (by omega)
  obtain ⟨⟨A, S⟩, tb0⟩ := id L.2
  refine w_st (fun _ => rfl) ?_
  refine k_VK (as := []) rfl (mg_law _) rfl rfl (by decide) rfl rfl (lw_124 L.1.1 S tb0  ) (fun m1 v1 r_v1 h1 => ?_)
  refine w_st (fun _ => rfl) ?_
  refine w_st (fun _ => rfl) ?_
  refine k_VK (as := []) rfl (mg_law _) rfl rfl (by decide) rfl rfl (lw_186 h1.1 h1.2.2.1 (oA_of S) h1.2.1.2 (rd_pre L.1 h1.2.1.1) ) (fun m2 v2 r_v2 h2 => ?_)
  have L0 := L.1
  have g1 := h1.2.1.1
  have g2 := And.intro h2.1 h2.2.1.1
  refine w_st (fun _ => rfl) ?_
  refine w_st (fun _ => rfl) ?_
  exact K m2 ⟨lw_re L0 g1 g2, as_read S h1.2.2.2 h1.2.2.1 h2.2.2.1 h2.2.2.2 g2.2.2.1 (re_v g1 g2).1 (ty_284_18 h1.1.1) h2.1.1 g1.2.1.2.1, h2.2.1.2⟩
set_option maxRecDepth 20000 in
theorem cs_3 {xs : List Int32} {i : Int} {m : Mm} (r_i : rg i) (hi : 0 ≤ i ∧ i + 6 ≤ xs.length) (hl : xs.length ≤ 3072) (L : LZ m) (K : ∀ m2, LZ m2 → mm_W 60 (mc_law xs) 1386 [some (.ref 1400), some (.ref 0), some (.ref 284), some (iv i)] [] (fm m2) lq) : mm_W 60 (mc_law xs) 291 [some (.ref 1400), some (.ref 0), some (.ref 284), some (iv i)] [] (fm m) lq := by
  have w1 : wr (i + 1) = i + 1 := wr_id (by omega) (by omega)
  have w2 : wr (i + 2) = i + 2 := wr_id (by omega) (by omega)
  have w3 : wr (i + 3) = i + 3 := wr_id (by omega) (by omega)
  have w4 : wr (i + 4) = i + 4 := wr_id (by omega) (by omega)
  have w5 : wr (i + 5) = i + 5 := wr_id (by omega) (by omega)
  obtain ⟨⟨A, S⟩, tb0⟩ := id L.2
  refine w_st (fun _ => rfl) ?_
  refine k_VK (as := []) rfl (mg_law _) rfl rfl (by decide) rfl rfl (lw_125 L.1.1 S tb0  ) (fun m1 v1 r_v1 h1 => ?_)
  refine w_st (fun _ => rfl) ?_
  refine w_st (fun _ => rfl) ?_
  refine k_VK (as := []) rfl (mg_law _) rfl rfl (by decide) rfl rfl (lw_187 h1.1 h1.2.2.1 (oA_of S) h1.2.1.2  ) (fun m2 v2 r_v2 h2 => ?_)
  have L0 := L.1
  have g1 := h1.2.1.1
  have g2 := And.intro h2.1 h2.2.1.1
  refine w_st (fun _ => rfl) ?_
  refine w_st (fun _ => rfl) ?_
  exact K m2 ⟨lw_kk L0 g1.1 ⟨g2.1, g2.2.1⟩, as_look S h1.2.2.2 h2.2.2.2 h2.2.2.1, h2.2.1.2⟩
set_option maxRecDepth 20000 in
theorem cs_4 {xs : List Int32} {i : Int} {m : Mm} (r_i : rg i) (hi : 0 ≤ i ∧ i + 6 ≤ xs.length) (hl : xs.length ≤ 3072) (L : LZ m) (K : ∀ m2, LZ m2 → mm_W 60 (mc_law xs) 1386 [some (.ref 1400), some (.ref 0), some (.ref 284), some (iv i)] [] (fm m2) lq) : mm_W 60 (mc_law xs) 304 [some (.ref 1400), some (.ref 0), some (.ref 284), some (iv i)] [] (fm m) lq := by
  have w1 : wr (i + 1) = i + 1 := wr_id (by omega) (by omega)
  have w2 : wr (i + 2) = i + 2 := wr_id (by omega) (by omega)
  have w3 : wr (i + 3) = i + 3 := wr_id (by omega) (by omega)
  have w4 : wr (i + 4) = i + 4 := wr_id (by omega) (by omega)
  have w5 : wr (i + 5) = i + 5 := wr_id (by omega) (by omega)
  obtain ⟨⟨A, S⟩, tb0⟩ := id L.2
  refine w_st (fun _ => rfl) ?_
  refine w_st (fun _ => rfl) ?_
  refine w_st (fun _ => rfl) ?_
  refine f_int 1 rfl rfl ?_
  refine f_add rfl ?_
  refine f_scr rfl (by omega) hl ?_
  refine w_st (fun _ => rfl) ?_
  refine w_st (fun _ => rfl) ?_
  refine f_int 2 rfl rfl ?_
  refine f_add rfl ?_
  refine f_scr rfl (by omega) hl ?_
  refine k_VK (as := [iv (sI xs (wr (i + 1))), iv (sI xs (wr (i + 2)))]) rfl (mg_law _) rfl rfl (by decide) rfl rfl (lw_126 L.1.1 S tb0  (sI_rg _ _) (sI_rg _ _)) (fun m1 v1 r_v1 h1 => ?_)
  refine w_st (fun _ => rfl) ?_
  refine w_st (fun _ => rfl) ?_
  refine w_st (fun _ => rfl) ?_
  refine w_st (fun _ => rfl) ?_
  refine f_int 1 rfl rfl ?_
  refine f_add rfl ?_
  refine f_scr rfl (by omega) hl ?_
  refine w_st (fun _ => rfl) ?_
  refine w_st (fun _ => rfl) ?_
  refine f_int 2 rfl rfl ?_
  refine f_add rfl ?_
  refine f_scr rfl (by omega) hl ?_
  refine k_VK (as := [iv (sI xs (wr (i + 1))), iv (sI xs (wr (i + 2)))]) rfl (mg_law _) rfl rfl (by decide) rfl rfl (lw_236 h1.1 h1.2.2.1 (oA_of S) h1.2.1.2  (sI_rg _ _) (sI_rg _ _)) (fun m2 v2 r_v2 h2 => ?_)
  have L0 := L.1
  have g1 := h1.2.1.1
  have g2 := And.intro h2.1 h2.2.1.1
  refine w_st (fun _ => rfl) ?_
  refine w_st (fun _ => rfl) ?_
  exact K m2 ⟨lw_kk L0 g1 g2, as_look S h1.2.2.2 h2.2.2.2 h2.2.2.1, h2.2.1.2⟩
set_option maxRecDepth 20000 in
theorem cs_5 {xs : List Int32} {i : Int} {m : Mm} (r_i : rg i) (hi : 0 ≤ i ∧ i + 6 ≤ xs.length) (hl : xs.length ≤ 3072) (L : LZ m) (K : ∀ m2, LZ m2 → mm_W 60 (mc_law xs) 1386 [some (.ref 1400), some (.ref 0), some (.ref 284), some (iv i)] [] (fm m2) lq) : mm_W 60 (mc_law xs) 337 [some (.ref 1400), some (.ref 0), some (.ref 284), some (iv i)] [] (fm m) lq := by
  have w1 : wr (i + 1) = i + 1 := wr_id (by omega) (by omega)
  have w2 : wr (i + 2) = i + 2 := wr_id (by omega) (by omega)
  have w3 : wr (i + 3) = i + 3 := wr_id (by omega) (by omega)
  have w4 : wr (i + 4) = i + 4 := wr_id (by omega) (by omega)
  have w5 : wr (i + 5) = i + 5 := wr_id (by omega) (by omega)
  obtain ⟨⟨A, S⟩, tb0⟩ := id L.2
  refine w_st (fun _ => rfl) ?_
  refine w_st (fun _ => rfl) ?_
  refine w_st (fun _ => rfl) ?_
  refine f_int 1 rfl rfl ?_
  refine f_add rfl ?_
  refine f_scr rfl (by omega) hl ?_
  refine w_st (fun _ => rfl) ?_
  refine w_st (fun _ => rfl) ?_
  refine f_int 2 rfl rfl ?_
  refine f_add rfl ?_
  refine f_scr rfl (by omega) hl ?_
  refine k_VK (as := [iv (sI xs (wr (i + 1))), iv (sI xs (wr (i + 2)))]) rfl (mg_law _) rfl rfl (by decide) rfl rfl (lw_127 L.1.1 S tb0  (sI_rg _ _) (sI_rg _ _)) (fun m1 v1 r_v1 h1 => ?_)
  refine w_st (fun _ => rfl) ?_
  refine w_st (fun _ => rfl) ?_
  refine w_st (fun _ => rfl) ?_
  refine w_st (fun _ => rfl) ?_
  refine f_int 1 rfl rfl ?_
  refine f_add rfl ?_
  refine f_scr rfl (by omega) hl ?_
  refine w_st (fun _ => rfl) ?_
  refine w_st (fun _ => rfl) ?_
  refine f_int 2 rfl rfl ?_
  refine f_add rfl ?_
  refine f_scr rfl (by omega) hl ?_
  refine k_VK (as := [iv (sI xs (wr (i + 1))), iv (sI xs (wr (i + 2)))]) rfl (mg_law _) rfl rfl (by decide) rfl rfl (lw_238 h1.1 h1.2.2.1 (oA_of S) h1.2.1.2  (sI_rg _ _) (sI_rg _ _)) (fun m2 v2 r_v2 h2 => ?_)
  have L0 := L.1
  have g1 := h1.2.1.1
  have g2 := And.intro h2.1 h2.2.1.1
  refine w_st (fun _ => rfl) ?_
  refine w_st (fun _ => rfl) ?_
  exact K m2 ⟨lw_kk L0 g1 g2, as_look S h1.2.2.2 h2.2.2.2 h2.2.2.1, h2.2.1.2⟩
set_option maxRecDepth 20000 in
theorem cs_6 {xs : List Int32} {i : Int} {m : Mm} (r_i : rg i) (hi : 0 ≤ i ∧ i + 6 ≤ xs.length) (hl : xs.length ≤ 3072) (L : LZ m) (K : ∀ m2, LZ m2 → mm_W 60 (mc_law xs) 1386 [some (.ref 1400), some (.ref 0), some (.ref 284), some (iv i)] [] (fm m2) lq) : mm_W 60 (mc_law xs) 370 [some (.ref 1400), some (.ref 0), some (.ref 284), some (iv i)] [] (fm m) lq := by
  have w1 : wr (i + 1) = i + 1 := wr_id (by omega) (by omega)
  have w2 : wr (i + 2) = i + 2 := wr_id (by omega) (by omega)
  have w3 : wr (i + 3) = i + 3 := wr_id (by omega) (by omega)
  have w4 : wr (i + 4) = i + 4 := wr_id (by omega) (by omega)
  have w5 : wr (i + 5) = i + 5 := wr_id (by omega) (by omega)
  obtain ⟨⟨A, S⟩, tb0⟩ := id L.2
  refine w_st (fun _ => rfl) ?_
  refine w_st (fun _ => rfl) ?_
  refine w_st (fun _ => rfl) ?_
  refine f_int 1 rfl rfl ?_
  refine f_add rfl ?_
  refine f_scr rfl (by omega) hl ?_
  refine w_st (fun _ => rfl) ?_
  refine w_st (fun _ => rfl) ?_
  refine f_int 2 rfl rfl ?_
  refine f_add rfl ?_
  refine f_scr rfl (by omega) hl ?_
  refine w_st (fun _ => rfl) ?_
  refine w_st (fun _ => rfl) ?_
  refine f_int 3 rfl rfl ?_
  refine f_add rfl ?_
  refine f_scr rfl (by omega) hl ?_
  refine k_VK (as := [iv (sI xs (wr (i + 1))), iv (sI xs (wr (i + 2))), iv (sI xs (wr (i + 3)))]) rfl (mg_law _) rfl rfl (by decide) rfl rfl (lw_128 L.1.1 S tb0  (sI_rg _ _) (sI_rg _ _) (sI_rg _ _)) (fun m1 v1 r_v1 h1 => ?_)
  refine w_st (fun _ => rfl) ?_
  refine w_st (fun _ => rfl) ?_
  refine w_st (fun _ => rfl) ?_
  refine w_st (fun _ => rfl) ?_
  refine f_int 1 rfl rfl ?_
  refine f_add rfl ?_
  refine f_scr rfl (by omega) hl ?_
  refine w_st (fun _ => rfl) ?_
  refine w_st (fun _ => rfl) ?_
  refine f_int 2 rfl rfl ?_
  refine f_add rfl ?_
  refine f_scr rfl (by omega) hl ?_
  refine w_st (fun _ => rfl) ?_
  refine w_st (fun _ => rfl) ?_
  refine f_int 3 rfl rfl ?_
  refine f_add rfl ?_
  refine f_scr rfl (by omega) hl ?_
  refine k_VK (as := [iv (sI xs (wr (i + 1))), iv (sI xs (wr (i + 2))), iv (sI xs (wr (i + 3)))]) rfl (mg_law _) rfl rfl (by decide) rfl rfl (lw_239 h1.1 h1.2.2.1 (oA_of S) h1.2.1.2  (sI_rg _ _) (sI_rg _ _) (sI_rg _ _)) (fun m2 v2 r_v2 h2 => ?_)
  have L0 := L.1
  have g1 := h1.2.1.1
  have g2 := And.intro h2.1 h2.2.1.1
  refine w_st (fun _ => rfl) ?_
  refine w_st (fun _ => rfl) ?_
  exact K m2 ⟨lw_kk L0 g1 g2, as_look S h1.2.2.2 h2.2.2.2 h2.2.2.1, h2.2.1.2⟩
set_option maxRecDepth 20000 in
theorem cs_7 {xs : List Int32} {i : Int} {m : Mm} (r_i : rg i) (hi : 0 ≤ i ∧ i + 6 ≤ xs.length) (hl : xs.length ≤ 3072) (L : LZ m) (K : ∀ m2, LZ m2 → mm_W 60 (mc_law xs) 1386 [some (.ref 1400), some (.ref 0), some (.ref 284), some (iv i)] [] (fm m2) lq) : mm_W 60 (mc_law xs) 413 [some (.ref 1400), some (.ref 0), some (.ref 284), some (iv i)] [] (fm m) lq := by
  have w1 : wr (i + 1) = i + 1 := wr_id (by omega) (by omega)
  have w2 : wr (i + 2) = i + 2 := wr_id (by omega) (by omega)
  have w3 : wr (i + 3) = i + 3 := wr_id (by omega) (by omega)
  have w4 : wr (i + 4) = i + 4 := wr_id (by omega) (by omega)
  have w5 : wr (i + 5) = i + 5 := wr_id (by omega) (by omega)
  obtain ⟨⟨A, S⟩, tb0⟩ := id L.2
  refine w_st (fun _ => rfl) ?_
  refine w_st (fun _ => rfl) ?_
  refine w_st (fun _ => rfl) ?_
  refine f_int 1 rfl rfl ?_
  refine f_add rfl ?_
  refine f_scr rfl (by omega) hl ?_
  refine w_st (fun _ => rfl) ?_
  refine w_st (fun _ => rfl) ?_
  refine f_int 2 rfl rfl ?_
  refine f_add rfl ?_
  refine f_scr rfl (by omega) hl ?_
  refine k_VK (as := [iv (sI xs (wr (i + 1))), iv (sI xs (wr (i + 2)))]) rfl (mg_law _) rfl rfl (by decide) rfl rfl (lw_129 L.1.1 S tb0  (sI_rg _ _) (sI_rg _ _)) (fun m1 v1 r_v1 h1 => ?_)
  refine w_st (fun _ => rfl) ?_
  refine w_st (fun _ => rfl) ?_
  refine w_st (fun _ => rfl) ?_
  refine w_st (fun _ => rfl) ?_
  refine f_int 1 rfl rfl ?_
  refine f_add rfl ?_
  refine f_scr rfl (by omega) hl ?_
  refine w_st (fun _ => rfl) ?_
  refine w_st (fun _ => rfl) ?_
  refine f_int 2 rfl rfl ?_
  refine f_add rfl ?_
  refine f_scr rfl (by omega) hl ?_
  refine k_VK (as := [iv (sI xs (wr (i + 1))), iv (sI xs (wr (i + 2)))]) rfl (mg_law _) rfl rfl (by decide) rfl rfl (lw_241 h1.1 h1.2.2.1 (oA_of S) h1.2.1.2  (sI_rg _ _) (sI_rg _ _)) (fun m2 v2 r_v2 h2 => ?_)
  have L0 := L.1
  have g1 := h1.2.1.1
  have g2 := And.intro h2.1 h2.2.1.1
  refine w_st (fun _ => rfl) ?_
  refine w_st (fun _ => rfl) ?_
  exact K m2 ⟨lw_kk L0 g1 g2, (as_tip S h1.2.2.2 h2.2.2.2 h2.2.2.1).2, h2.2.1.2⟩
set_option maxRecDepth 20000 in
theorem cs_8 {xs : List Int32} {i : Int} {m : Mm} (r_i : rg i) (hi : 0 ≤ i ∧ i + 6 ≤ xs.length) (hl : xs.length ≤ 3072) (L : LZ m) (K : ∀ m2, LZ m2 → mm_W 60 (mc_law xs) 1386 [some (.ref 1400), some (.ref 0), some (.ref 284), some (iv i)] [] (fm m2) lq) : mm_W 60 (mc_law xs) 446 [some (.ref 1400), some (.ref 0), some (.ref 284), some (iv i)] [] (fm m) lq := by
  have w1 : wr (i + 1) = i + 1 := wr_id (by omega) (by omega)
  have w2 : wr (i + 2) = i + 2 := wr_id (by omega) (by omega)
  have w3 : wr (i + 3) = i + 3 := wr_id (by omega) (by omega)
  have w4 : wr (i + 4) = i + 4 := wr_id (by omega) (by omega)
  have w5 : wr (i + 5) = i + 5 := wr_id (by omega) (by omega)
  obtain ⟨⟨A, S⟩, tb0⟩ := id L.2
  refine w_st (fun _ => rfl) ?_
  refine w_st (fun _ => rfl) ?_
  refine w_st (fun _ => rfl) ?_
  refine f_int 1 rfl rfl ?_
  refine f_add rfl ?_
  refine f_scr rfl (by omega) hl ?_
  refine w_st (fun _ => rfl) ?_
  refine w_st (fun _ => rfl) ?_
  refine f_int 2 rfl rfl ?_
  refine f_add rfl ?_
  refine f_scr rfl (by omega) hl ?_
  refine k_VK (as := [iv (sI xs (wr (i + 1))), iv (sI xs (wr (i + 2)))]) rfl (mg_law _) rfl rfl (by decide) rfl rfl (lw_130 L.1.1 S tb0  (sI_rg _ _) (sI_rg _ _)) (fun m1 v1 r_v1 h1 => ?_)
  refine w_st (fun _ => rfl) ?_
  refine w_st (fun _ => rfl) ?_
  refine w_st (fun _ => rfl) ?_
  refine w_st (fun _ => rfl) ?_
  refine f_int 1 rfl rfl ?_
  refine f_add rfl ?_
  refine f_scr rfl (by omega) hl ?_
  refine w_st (fun _ => rfl) ?_
  refine w_st (fun _ => rfl) ?_
  refine f_int 2 rfl rfl ?_
  refine f_add rfl ?_
  refine f_scr rfl (by omega) hl ?_
  refine k_VK (as := [iv (sI xs (wr (i + 1))), iv (sI xs (wr (i + 2)))]) rfl (mg_law _) rfl rfl (by decide) rfl rfl (lw_242 h1.1 h1.2.2.1 (oA_of S) h1.2.1.2  (sI_rg _ _) (sI_rg _ _)) (fun m2 v2 r_v2 h2 => ?_)
  have L0 := L.1
  have g1 := h1.2.1.1
  have g2 := And.intro h2.1 h2.2.1.1
  refine w_st (fun _ => rfl) ?_
  refine w_st (fun _ => rfl) ?_
  exact K m2 ⟨lw_kk L0 g1 g2, (as_paint S h1.2.2.2 h2.2.2.2 h2.2.2.1).2, h2.2.1.2⟩
set_option maxRecDepth 20000 in
theorem cs_9 {xs : List Int32} {i : Int} {m : Mm} (r_i : rg i) (hi : 0 ≤ i ∧ i + 6 ≤ xs.length) (hl : xs.length ≤ 3072) (L : LZ m) (K : ∀ m2, LZ m2 → mm_W 60 (mc_law xs) 1386 [some (.ref 1400), some (.ref 0), some (.ref 284), some (iv i)] [] (fm m2) lq) : mm_W 60 (mc_law xs) 479 [some (.ref 1400), some (.ref 0), some (.ref 284), some (iv i)] [] (fm m) lq := by
  have w1 : wr (i + 1) = i + 1 := wr_id (by omega) (by omega)
  have w2 : wr (i + 2) = i + 2 := wr_id (by omega) (by omega)
  have w3 : wr (i + 3) = i + 3 := wr_id (by omega) (by omega)
  have w4 : wr (i + 4) = i + 4 := wr_id (by omega) (by omega)
  have w5 : wr (i + 5) = i + 5 := wr_id (by omega) (by omega)
  obtain ⟨⟨A, S⟩, tb0⟩ := id L.2
  refine w_st (fun _ => rfl) ?_
  refine w_st (fun _ => rfl) ?_
  refine w_st (fun _ => rfl) ?_
  refine f_int 1 rfl rfl ?_
  refine f_add rfl ?_
  refine f_scr rfl (by omega) hl ?_
  refine k_VK (as := [iv (sI xs (wr (i + 1)))]) rfl (mg_law _) rfl rfl (by decide) rfl rfl (lw_131 L.1.1 S tb0  (sI_rg _ _)) (fun m1 v1 r_v1 h1 => ?_)
  refine w_st (fun _ => rfl) ?_
  refine w_st (fun _ => rfl) ?_
  refine w_st (fun _ => rfl) ?_
  refine w_st (fun _ => rfl) ?_
  refine f_int 1 rfl rfl ?_
  refine f_add rfl ?_
  refine f_scr rfl (by omega) hl ?_
  refine k_VK (as := [iv (sI xs (wr (i + 1)))]) rfl (mg_law _) rfl rfl (by decide) rfl rfl (lw_244 h1.1 h1.2.2.1 (oA_of S) h1.2.1.2  (sI_rg _ _)) (fun m2 v2 r_v2 h2 => ?_)
  have L0 := L.1
  have g1 := h1.2.1.1
  have g2 := And.intro h2.1 h2.2.1.1
  refine w_st (fun _ => rfl) ?_
  refine w_st (fun _ => rfl) ?_
  exact K m2 ⟨lw_kk L0 g1 g2, (as_min S h1.2.2.2 h2.2.2.2 h2.2.2.1).2, h2.2.1.2⟩
set_option maxRecDepth 20000 in
theorem cs_10 {xs : List Int32} {i : Int} {m : Mm} (r_i : rg i) (hi : 0 ≤ i ∧ i + 6 ≤ xs.length) (hl : xs.length ≤ 3072) (L : LZ m) (K : ∀ m2, LZ m2 → mm_W 60 (mc_law xs) 1386 [some (.ref 1400), some (.ref 0), some (.ref 284), some (iv i)] [] (fm m2) lq) : mm_W 60 (mc_law xs) 502 [some (.ref 1400), some (.ref 0), some (.ref 284), some (iv i)] [] (fm m) lq := by
  have w1 : wr (i + 1) = i + 1 := wr_id (by omega) (by omega)
  have w2 : wr (i + 2) = i + 2 := wr_id (by omega) (by omega)
  have w3 : wr (i + 3) = i + 3 := wr_id (by omega) (by omega)
  have w4 : wr (i + 4) = i + 4 := wr_id (by omega) (by omega)
  have w5 : wr (i + 5) = i + 5 := wr_id (by omega) (by omega)
  obtain ⟨⟨A, S⟩, tb0⟩ := id L.2
  refine w_st (fun _ => rfl) ?_
  refine k_VK (as := []) rfl (mg_law _) rfl rfl (by decide) rfl rfl (lw_132 L.1.1 S tb0  ) (fun m1 v1 r_v1 h1 => ?_)
  refine w_st (fun _ => rfl) ?_
  refine w_st (fun _ => rfl) ?_
  refine k_VK (as := []) rfl (mg_law _) rfl rfl (by decide) rfl rfl (lw_245 h1.1 h1.2.2.1 (oA_of S) h1.2.1.2  ) (fun m2 v2 r_v2 h2 => ?_)
  have L0 := L.1
  have g1 := h1.2.1.1
  have g2 := And.intro h2.1 h2.2.1.1
  refine w_st (fun _ => rfl) ?_
  refine w_st (fun _ => rfl) ?_
  exact K m2 ⟨lw_kk L0 g1 g2, (as_undo S h1.2.2.2 h2.2.2.2 h2.2.2.1).2, h2.2.1.2⟩
set_option maxRecDepth 20000 in
theorem cs_11 {xs : List Int32} {i : Int} {m : Mm} (r_i : rg i) (hi : 0 ≤ i ∧ i + 6 ≤ xs.length) (hl : xs.length ≤ 3072) (L : LZ m) (K : ∀ m2, LZ m2 → mm_W 60 (mc_law xs) 1386 [some (.ref 1400), some (.ref 0), some (.ref 284), some (iv i)] [] (fm m2) lq) : mm_W 60 (mc_law xs) 515 [some (.ref 1400), some (.ref 0), some (.ref 284), some (iv i)] [] (fm m) lq := by
  have w1 : wr (i + 1) = i + 1 := wr_id (by omega) (by omega)
  have w2 : wr (i + 2) = i + 2 := wr_id (by omega) (by omega)
  have w3 : wr (i + 3) = i + 3 := wr_id (by omega) (by omega)
  have w4 : wr (i + 4) = i + 4 := wr_id (by omega) (by omega)
  have w5 : wr (i + 5) = i + 5 := wr_id (by omega) (by omega)
  obtain ⟨⟨A, S⟩, tb0⟩ := id L.2
  refine w_st (fun _ => rfl) ?_
  refine w_st (fun _ => rfl) ?_
  refine w_st (fun _ => rfl) ?_
  refine f_int 1 rfl rfl ?_
  refine f_add rfl ?_
  refine f_scr rfl (by omega) hl ?_
  refine w_st (fun _ => rfl) ?_
  refine w_st (fun _ => rfl) ?_
  refine f_int 2 rfl rfl ?_
  refine f_add rfl ?_
  refine f_scr rfl (by omega) hl ?_
  refine w_st (fun _ => rfl) ?_
  refine w_st (fun _ => rfl) ?_
  refine f_int 3 rfl rfl ?_
  refine f_add rfl ?_
  refine f_scr rfl (by omega) hl ?_
  refine w_st (fun _ => rfl) ?_
  refine w_st (fun _ => rfl) ?_
  refine f_int 4 rfl rfl ?_
  refine f_add rfl ?_
  refine f_scr rfl (by omega) hl ?_
  refine k_VK (as := [iv (sI xs (wr (i + 1))), iv (sI xs (wr (i + 2))), iv (sI xs (wr (i + 3))), iv (sI xs (wr (i + 4)))]) rfl (mg_law _) rfl rfl (by decide) rfl rfl (lw_133 L.1.1 S tb0  (sI_rg _ _) (sI_rg _ _) (sI_rg _ _) (sI_rg _ _)) (fun m1 v1 r_v1 h1 => ?_)
  refine w_st (fun _ => rfl) ?_
  refine w_st (fun _ => rfl) ?_
  refine w_st (fun _ => rfl) ?_
  refine w_st (fun _ => rfl) ?_
  refine f_int 1 rfl rfl ?_
  refine f_add rfl ?_
  refine f_scr rfl (by omega) hl ?_
  refine w_st (fun _ => rfl) ?_
  refine w_st (fun _ => rfl) ?_
  refine f_int 2 rfl rfl ?_
  refine f_add rfl ?_
  refine f_scr rfl (by omega) hl ?_
  refine w_st (fun _ => rfl) ?_
  refine w_st (fun _ => rfl) ?_
  refine f_int 3 rfl rfl ?_
  refine f_add rfl ?_
  refine f_scr rfl (by omega) hl ?_
  refine w_st (fun _ => rfl) ?_
  refine w_st (fun _ => rfl) ?_
  refine f_int 4 rfl rfl ?_
  refine f_add rfl ?_
  refine f_scr rfl (by omega) hl ?_
  refine k_VK (as := [iv (sI xs (wr (i + 1))), iv (sI xs (wr (i + 2))), iv (sI xs (wr (i + 3))), iv (sI xs (wr (i + 4)))]) rfl (mg_law _) rfl rfl (by decide) rfl rfl (lw_250 h1.1 h1.2.2.1 (oA_of S) h1.2.1.2  (sI_rg _ _) (sI_rg _ _) (sI_rg _ _) (sI_rg _ _)) (fun m2 v2 r_v2 h2 => ?_)
  have L0 := L.1
  have g1 := h1.2.1.1
  have g2 := And.intro h2.1 h2.2.1.1
  refine w_st (fun _ => rfl) ?_
  refine w_st (fun _ => rfl) ?_
  exact K m2 ⟨lw_kk L0 g1 g2, as_look S h1.2.2.2 h2.2.2.2 h2.2.2.1, h2.2.1.2⟩
set_option maxRecDepth 20000 in
theorem cs_12 {xs : List Int32} {i : Int} {m : Mm} (r_i : rg i) (hi : 0 ≤ i ∧ i + 6 ≤ xs.length) (hl : xs.length ≤ 3072) (L : LZ m) (K : ∀ m2, LZ m2 → mm_W 60 (mc_law xs) 1386 [some (.ref 1400), some (.ref 0), some (.ref 284), some (iv i)] [] (fm m2) lq) : mm_W 60 (mc_law xs) 568 [some (.ref 1400), some (.ref 0), some (.ref 284), some (iv i)] [] (fm m) lq := by
  have w1 : wr (i + 1) = i + 1 := wr_id (by omega) (by omega)
  have w2 : wr (i + 2) = i + 2 := wr_id (by omega) (by omega)
  have w3 : wr (i + 3) = i + 3 := wr_id (by omega) (by omega)
  have w4 : wr (i + 4) = i + 4 := wr_id (by omega) (by omega)
  have w5 : wr (i + 5) = i + 5 := wr_id (by omega) (by omega)
  obtain ⟨⟨A, S⟩, tb0⟩ := id L.2
  refine w_st (fun _ => rfl) ?_
  refine w_st (fun _ => rfl) ?_
  refine w_st (fun _ => rfl) ?_
  refine f_int 1 rfl rfl ?_
  refine f_add rfl ?_
  refine f_scr rfl (by omega) hl ?_
  refine w_st (fun _ => rfl) ?_
  refine w_st (fun _ => rfl) ?_
  refine f_int 2 rfl rfl ?_
  refine f_add rfl ?_
  refine f_scr rfl (by omega) hl ?_
  refine k_VK (as := [iv (sI xs (wr (i + 1))), iv (sI xs (wr (i + 2)))]) rfl (mg_law _) rfl rfl (by decide) rfl rfl (lw_134 L.1.1 S tb0  (sI_rg _ _) (sI_rg _ _)) (fun m1 v1 r_v1 h1 => ?_)
  refine w_st (fun _ => rfl) ?_
  refine w_st (fun _ => rfl) ?_
  refine w_st (fun _ => rfl) ?_
  refine f_int 1 rfl rfl ?_
  refine f_add rfl ?_
  refine f_scr rfl (by omega) hl ?_
  refine w_st (fun _ => rfl) ?_
  refine w_st (fun _ => rfl) ?_
  refine f_int 2 rfl rfl ?_
  refine f_add rfl ?_
  refine f_scr rfl (by omega) hl ?_
  refine k_VK (as := [iv (sI xs (wr (i + 1))), iv (sI xs (wr (i + 2)))]) rfl (mg_law _) rfl rfl (by decide) rfl rfl (lw_251 h1.1 h1.2.2.1 (oA_of S) h1.2.1.2  (sI_rg _ _) (sI_rg _ _)) (fun m2 v2 r_v2 h2 => ?_)
  have L0 := L.1
  have g1 := h1.2.1.1
  have g2 := And.intro h2.1 h2.2.1.1
  refine b_eq rfl r_v1 r_v2 (fun hq => ?_) (fun hq => absurd ?_ hq)
  · skip
    exact K m2 ⟨lw_kk L0 g1 g2, as_look S h1.2.2.2 h2.2.2.2 h2.2.2.1, h2.2.1.2⟩
  · exact cheA_u h1.2.2.2.2 h2.2.2.2.2
set_option maxRecDepth 20000 in
theorem cs_13 {xs : List Int32} {i : Int} {m : Mm} (r_i : rg i) (hi : 0 ≤ i ∧ i + 6 ≤ xs.length) (hl : xs.length ≤ 3072) (L : LZ m) (K : ∀ m2, LZ m2 → mm_W 60 (mc_law xs) 1386 [some (.ref 1400), some (.ref 0), some (.ref 284), some (iv i)] [] (fm m2) lq) : mm_W 60 (mc_law xs) 601 [some (.ref 1400), some (.ref 0), some (.ref 284), some (iv i)] [] (fm m) lq := by
  have w1 : wr (i + 1) = i + 1 := wr_id (by omega) (by omega)
  have w2 : wr (i + 2) = i + 2 := wr_id (by omega) (by omega)
  have w3 : wr (i + 3) = i + 3 := wr_id (by omega) (by omega)
  have w4 : wr (i + 4) = i + 4 := wr_id (by omega) (by omega)
  have w5 : wr (i + 5) = i + 5 := wr_id (by omega) (by omega)
  obtain ⟨⟨A, S⟩, tb0⟩ := id L.2
  refine w_st (fun _ => rfl) ?_
  refine w_st (fun _ => rfl) ?_
  refine w_st (fun _ => rfl) ?_
  refine f_int 1 rfl rfl ?_
  refine f_add rfl ?_
  refine f_scr rfl (by omega) hl ?_
  refine w_st (fun _ => rfl) ?_
  refine w_st (fun _ => rfl) ?_
  refine f_int 2 rfl rfl ?_
  refine f_add rfl ?_
  refine f_scr rfl (by omega) hl ?_
  refine k_VK (as := [iv (sI xs (wr (i + 1))), iv (sI xs (wr (i + 2)))]) rfl (mg_law _) rfl rfl (by decide) rfl rfl (lw_135 L.1.1 S tb0  (sI_rg _ _) (sI_rg _ _)) (fun m1 v1 r_v1 h1 => ?_)
  refine w_st (fun _ => rfl) ?_
  refine w_st (fun _ => rfl) ?_
  refine w_st (fun _ => rfl) ?_
  refine w_st (fun _ => rfl) ?_
  refine f_int 1 rfl rfl ?_
  refine f_add rfl ?_
  refine f_scr rfl (by omega) hl ?_
  refine w_st (fun _ => rfl) ?_
  refine w_st (fun _ => rfl) ?_
  refine f_int 2 rfl rfl ?_
  refine f_add rfl ?_
  refine f_scr rfl (by omega) hl ?_
  refine k_VK (as := [iv (sI xs (wr (i + 1))), iv (sI xs (wr (i + 2)))]) rfl (mg_law _) rfl rfl (by decide) rfl rfl (lw_252 h1.1 h1.2.2.1 (oA_of S) h1.2.1.2  (sI_rg _ _) (sI_rg _ _)) (fun m2 v2 r_v2 h2 => ?_)
  have L0 := L.1
  have g1 := h1.2.1.1
  have g2 := And.intro h2.1 h2.2.1.1
  refine w_st (fun _ => rfl) ?_
  refine w_st (fun _ => rfl) ?_
  exact K m2 ⟨lw_kk L0 g1 g2, as_look S h1.2.2.2 h2.2.2.2 h2.2.2.1, h2.2.1.2⟩
set_option maxRecDepth 20000 in
theorem cs_14 {xs : List Int32} {i : Int} {m : Mm} (r_i : rg i) (hi : 0 ≤ i ∧ i + 6 ≤ xs.length) (hl : xs.length ≤ 3072) (L : LZ m) (K : ∀ m2, LZ m2 → mm_W 60 (mc_law xs) 1386 [some (.ref 1400), some (.ref 0), some (.ref 284), some (iv i)] [] (fm m2) lq) : mm_W 60 (mc_law xs) 634 [some (.ref 1400), some (.ref 0), some (.ref 284), some (iv i)] [] (fm m) lq := by
  have w1 : wr (i + 1) = i + 1 := wr_id (by omega) (by omega)
  have w2 : wr (i + 2) = i + 2 := wr_id (by omega) (by omega)
  have w3 : wr (i + 3) = i + 3 := wr_id (by omega) (by omega)
  have w4 : wr (i + 4) = i + 4 := wr_id (by omega) (by omega)
  have w5 : wr (i + 5) = i + 5 := wr_id (by omega) (by omega)
  obtain ⟨⟨A, S⟩, tb0⟩ := id L.2
  refine w_st (fun _ => rfl) ?_
  refine w_st (fun _ => rfl) ?_
  refine w_st (fun _ => rfl) ?_
  refine f_int 1 rfl rfl ?_
  refine f_add rfl ?_
  refine f_scr rfl (by omega) hl ?_
  refine w_st (fun _ => rfl) ?_
  refine w_st (fun _ => rfl) ?_
  refine f_int 2 rfl rfl ?_
  refine f_add rfl ?_
  refine f_scr rfl (by omega) hl ?_
  refine w_st (fun _ => rfl) ?_
  refine w_st (fun _ => rfl) ?_
  refine f_int 3 rfl rfl ?_
  refine f_add rfl ?_
  refine f_scr rfl (by omega) hl ?_
  refine k_VK (as := [iv (sI xs (wr (i + 1))), iv (sI xs (wr (i + 2))), iv (sI xs (wr (i + 3)))]) rfl (mg_law _) rfl rfl (by decide) rfl rfl (lw_136 L.1.1 S tb0  (sI_rg _ _) (sI_rg _ _) (sI_rg _ _)) (fun m1 v1 r_v1 h1 => ?_)
  refine w_st (fun _ => rfl) ?_
  refine w_st (fun _ => rfl) ?_
  refine w_st (fun _ => rfl) ?_
  refine w_st (fun _ => rfl) ?_
  refine f_int 1 rfl rfl ?_
  refine f_add rfl ?_
  refine f_scr rfl (by omega) hl ?_
  refine w_st (fun _ => rfl) ?_
  refine w_st (fun _ => rfl) ?_
  refine f_int 2 rfl rfl ?_
  refine f_add rfl ?_
  refine f_scr rfl (by omega) hl ?_
  refine w_st (fun _ => rfl) ?_
  refine w_st (fun _ => rfl) ?_
  refine f_int 3 rfl rfl ?_
  refine f_add rfl ?_
  refine f_scr rfl (by omega) hl ?_
  refine k_VK (as := [iv (sI xs (wr (i + 1))), iv (sI xs (wr (i + 2))), iv (sI xs (wr (i + 3)))]) rfl (mg_law _) rfl rfl (by decide) rfl rfl (lw_253 h1.1 h1.2.2.1 (oA_of S) h1.2.1.2  (sI_rg _ _) (sI_rg _ _) (sI_rg _ _)) (fun m2 v2 r_v2 h2 => ?_)
  have L0 := L.1
  have g1 := h1.2.1.1
  have g2 := And.intro h2.1 h2.2.1.1
  refine w_st (fun _ => rfl) ?_
  refine w_st (fun _ => rfl) ?_
  exact K m2 ⟨lw_kk L0 g1 g2, as_look S h1.2.2.2 h2.2.2.2 h2.2.2.1, h2.2.1.2⟩
set_option maxRecDepth 20000 in
theorem cs_15 {xs : List Int32} {i : Int} {m : Mm} (r_i : rg i) (hi : 0 ≤ i ∧ i + 6 ≤ xs.length) (hl : xs.length ≤ 3072) (L : LZ m) (K : ∀ m2, LZ m2 → mm_W 60 (mc_law xs) 1386 [some (.ref 1400), some (.ref 0), some (.ref 284), some (iv i)] [] (fm m2) lq) : mm_W 60 (mc_law xs) 677 [some (.ref 1400), some (.ref 0), some (.ref 284), some (iv i)] [] (fm m) lq := by
  have w1 : wr (i + 1) = i + 1 := wr_id (by omega) (by omega)
  have w2 : wr (i + 2) = i + 2 := wr_id (by omega) (by omega)
  have w3 : wr (i + 3) = i + 3 := wr_id (by omega) (by omega)
  have w4 : wr (i + 4) = i + 4 := wr_id (by omega) (by omega)
  have w5 : wr (i + 5) = i + 5 := wr_id (by omega) (by omega)
  obtain ⟨⟨A, S⟩, tb0⟩ := id L.2
  refine w_st (fun _ => rfl) ?_
  refine w_st (fun _ => rfl) ?_
  refine w_st (fun _ => rfl) ?_
  refine f_int 1 rfl rfl ?_
  refine f_add rfl ?_
  refine f_scr rfl (by omega) hl ?_
  refine k_VK (as := [iv (sI xs (wr (i + 1)))]) rfl (mg_law _) rfl rfl (by decide) rfl rfl (lw_137 L.1.1 S tb0  (sI_rg _ _)) (fun m1 v1 r_v1 h1 => ?_)
  refine w_st (fun _ => rfl) ?_
  refine w_st (fun _ => rfl) ?_
  refine w_st (fun _ => rfl) ?_
  refine w_st (fun _ => rfl) ?_
  refine f_int 1 rfl rfl ?_
  refine f_add rfl ?_
  refine f_scr rfl (by omega) hl ?_
  refine k_VK (as := [iv (sI xs (wr (i + 1)))]) rfl (mg_law _) rfl rfl (by decide) rfl rfl (lw_254 h1.1 h1.2.2.1 (oA_of S) h1.2.1.2  (sI_rg _ _)) (fun m2 v2 r_v2 h2 => ?_)
  have L0 := L.1
  have g1 := h1.2.1.1
  have g2 := And.intro h2.1 h2.2.1.1
  refine w_st (fun _ => rfl) ?_
  refine w_st (fun _ => rfl) ?_
  exact K m2 ⟨lw_kk L0 g1 g2, as_look S h1.2.2.2 h2.2.2.2 h2.2.2.1, h2.2.1.2⟩
set_option maxRecDepth 20000 in
theorem cs_16 {xs : List Int32} {i : Int} {m : Mm} (r_i : rg i) (hi : 0 ≤ i ∧ i + 6 ≤ xs.length) (hl : xs.length ≤ 3072) (L : LZ m) (K : ∀ m2, LZ m2 → mm_W 60 (mc_law xs) 1386 [some (.ref 1400), some (.ref 0), some (.ref 284), some (iv i)] [] (fm m2) lq) : mm_W 60 (mc_law xs) 700 [some (.ref 1400), some (.ref 0), some (.ref 284), some (iv i)] [] (fm m) lq := by
  have w1 : wr (i + 1) = i + 1 := wr_id (by omega) (by omega)
  have w2 : wr (i + 2) = i + 2 := wr_id (by omega) (by omega)
  have w3 : wr (i + 3) = i + 3 := wr_id (by omega) (by omega)
  have w4 : wr (i + 4) = i + 4 := wr_id (by omega) (by omega)
  have w5 : wr (i + 5) = i + 5 := wr_id (by omega) (by omega)
  obtain ⟨⟨A, S⟩, tb0⟩ := id L.2
  refine w_st (fun _ => rfl) ?_
  refine w_st (fun _ => rfl) ?_
  refine w_st (fun _ => rfl) ?_
  refine f_int 1 rfl rfl ?_
  refine f_add rfl ?_
  refine f_scr rfl (by omega) hl ?_
  refine w_st (fun _ => rfl) ?_
  refine w_st (fun _ => rfl) ?_
  refine f_int 2 rfl rfl ?_
  refine f_add rfl ?_
  refine f_scr rfl (by omega) hl ?_
  refine k_VK (as := [iv (sI xs (wr (i + 1))), iv (sI xs (wr (i + 2)))]) rfl (mg_law _) rfl rfl (by decide) rfl rfl (lw_138 L.1.1 S tb0  (sI_rg _ _) (sI_rg _ _)) (fun m1 v1 r_v1 h1 => ?_)
  refine w_st (fun _ => rfl) ?_
  refine w_st (fun _ => rfl) ?_
  refine w_st (fun _ => rfl) ?_
  refine w_st (fun _ => rfl) ?_
  refine f_int 1 rfl rfl ?_
  refine f_add rfl ?_
  refine f_scr rfl (by omega) hl ?_
  refine w_st (fun _ => rfl) ?_
  refine w_st (fun _ => rfl) ?_
  refine f_int 2 rfl rfl ?_
  refine f_add rfl ?_
  refine f_scr rfl (by omega) hl ?_
  refine k_VK (as := [iv (sI xs (wr (i + 1))), iv (sI xs (wr (i + 2)))]) rfl (mg_law _) rfl rfl (by decide) rfl rfl (lw_257 h1.1 h1.2.2.1 (oA_of S) h1.2.1.2  (sI_rg _ _) (sI_rg _ _)) (fun m2 v2 r_v2 h2 => ?_)
  have L0 := L.1
  have g1 := h1.2.1.1
  have g2 := And.intro h2.1 h2.2.1.1
  refine w_st (fun _ => rfl) ?_
  refine w_st (fun _ => rfl) ?_
  exact K m2 ⟨lw_kk L0 g1 g2, as_look S h1.2.2.2 h2.2.2.2 h2.2.2.1, h2.2.1.2⟩
set_option maxRecDepth 20000 in
theorem cs_17 {xs : List Int32} {i : Int} {m : Mm} (r_i : rg i) (hi : 0 ≤ i ∧ i + 6 ≤ xs.length) (hl : xs.length ≤ 3072) (L : LZ m) (K : ∀ m2, LZ m2 → mm_W 60 (mc_law xs) 1386 [some (.ref 1400), some (.ref 0), some (.ref 284), some (iv i)] [] (fm m2) lq) : mm_W 60 (mc_law xs) 733 [some (.ref 1400), some (.ref 0), some (.ref 284), some (iv i)] [] (fm m) lq := by
  have w1 : wr (i + 1) = i + 1 := wr_id (by omega) (by omega)
  have w2 : wr (i + 2) = i + 2 := wr_id (by omega) (by omega)
  have w3 : wr (i + 3) = i + 3 := wr_id (by omega) (by omega)
  have w4 : wr (i + 4) = i + 4 := wr_id (by omega) (by omega)
  have w5 : wr (i + 5) = i + 5 := wr_id (by omega) (by omega)
  obtain ⟨⟨A, S⟩, tb0⟩ := id L.2
  refine w_st (fun _ => rfl) ?_
  refine w_st (fun _ => rfl) ?_
  refine w_st (fun _ => rfl) ?_
  refine f_int 1 rfl rfl ?_
  refine f_add rfl ?_
  refine f_scr rfl (by omega) hl ?_
  refine w_st (fun _ => rfl) ?_
  refine w_st (fun _ => rfl) ?_
  refine f_int 2 rfl rfl ?_
  refine f_add rfl ?_
  refine f_scr rfl (by omega) hl ?_
  refine w_st (fun _ => rfl) ?_
  refine w_st (fun _ => rfl) ?_
  refine f_int 3 rfl rfl ?_
  refine f_add rfl ?_
  refine f_scr rfl (by omega) hl ?_
  refine k_VK (as := [iv (sI xs (wr (i + 1))), iv (sI xs (wr (i + 2))), iv (sI xs (wr (i + 3)))]) rfl (mg_law _) rfl rfl (by decide) rfl rfl (lw_139 L.1.1 S tb0  (sI_rg _ _) (sI_rg _ _) (sI_rg _ _)) (fun m1 v1 r_v1 h1 => ?_)
  refine w_st (fun _ => rfl) ?_
  refine w_st (fun _ => rfl) ?_
  refine w_st (fun _ => rfl) ?_
  refine w_st (fun _ => rfl) ?_
  refine f_int 1 rfl rfl ?_
  refine f_add rfl ?_
  refine f_scr rfl (by omega) hl ?_
  refine w_st (fun _ => rfl) ?_
  refine w_st (fun _ => rfl) ?_
  refine f_int 2 rfl rfl ?_
  refine f_add rfl ?_
  refine f_scr rfl (by omega) hl ?_
  refine w_st (fun _ => rfl) ?_
  refine w_st (fun _ => rfl) ?_
  refine f_int 3 rfl rfl ?_
  refine f_add rfl ?_
  refine f_scr rfl (by omega) hl ?_
  refine k_VK (as := [iv (sI xs (wr (i + 1))), iv (sI xs (wr (i + 2))), iv (sI xs (wr (i + 3)))]) rfl (mg_law _) rfl rfl (by decide) rfl rfl (lw_261 h1.1 h1.2.2.1 (oA_of S) h1.2.1.2  (sI_rg _ _) (sI_rg _ _) (sI_rg _ _)) (fun m2 v2 r_v2 h2 => ?_)
  have L0 := L.1
  have g1 := h1.2.1.1
  have g2 := And.intro h2.1 h2.2.1.1
  refine w_st (fun _ => rfl) ?_
  refine w_st (fun _ => rfl) ?_
  exact K m2 ⟨lw_kk L0 g1 g2, as_look S h1.2.2.2 h2.2.2.2 h2.2.2.1, h2.2.1.2⟩
set_option maxRecDepth 20000 in
theorem cs_18 {xs : List Int32} {i : Int} {m : Mm} (r_i : rg i) (hi : 0 ≤ i ∧ i + 6 ≤ xs.length) (hl : xs.length ≤ 3072) (L : LZ m) (K : ∀ m2, LZ m2 → mm_W 60 (mc_law xs) 1386 [some (.ref 1400), some (.ref 0), some (.ref 284), some (iv i)] [] (fm m2) lq) : mm_W 60 (mc_law xs) 776 [some (.ref 1400), some (.ref 0), some (.ref 284), some (iv i)] [] (fm m) lq := by
  have w1 : wr (i + 1) = i + 1 := wr_id (by omega) (by omega)
  have w2 : wr (i + 2) = i + 2 := wr_id (by omega) (by omega)
  have w3 : wr (i + 3) = i + 3 := wr_id (by omega) (by omega)
  have w4 : wr (i + 4) = i + 4 := wr_id (by omega) (by omega)
  have w5 : wr (i + 5) = i + 5 := wr_id (by omega) (by omega)
  obtain ⟨⟨A, S⟩, tb0⟩ := id L.2
  refine w_st (fun _ => rfl) ?_
  refine w_st (fun _ => rfl) ?_
  refine w_st (fun _ => rfl) ?_
  refine f_int 1 rfl rfl ?_
  refine f_add rfl ?_
  refine f_scr rfl (by omega) hl ?_
  refine w_st (fun _ => rfl) ?_
  refine w_st (fun _ => rfl) ?_
  refine f_int 2 rfl rfl ?_
  refine f_add rfl ?_
  refine f_scr rfl (by omega) hl ?_
  refine w_st (fun _ => rfl) ?_
  refine w_st (fun _ => rfl) ?_
  refine f_int 3 rfl rfl ?_
  refine f_add rfl ?_
  refine f_scr rfl (by omega) hl ?_
  refine k_VK (as := [iv (sI xs (wr (i + 1))), iv (sI xs (wr (i + 2))), iv (sI xs (wr (i + 3)))]) rfl (mg_law _) rfl rfl (by decide) rfl rfl (lw_140 L.1.1 S tb0  (sI_rg _ _) (sI_rg _ _) (sI_rg _ _)) (fun m1 v1 r_v1 h1 => ?_)
  refine w_st (fun _ => rfl) ?_
  refine w_st (fun _ => rfl) ?_
  refine w_st (fun _ => rfl) ?_
  refine w_st (fun _ => rfl) ?_
  refine f_int 1 rfl rfl ?_
  refine f_add rfl ?_
  refine f_scr rfl (by omega) hl ?_
  refine w_st (fun _ => rfl) ?_
  refine w_st (fun _ => rfl) ?_
  refine f_int 2 rfl rfl ?_
  refine f_add rfl ?_
  refine f_scr rfl (by omega) hl ?_
  refine w_st (fun _ => rfl) ?_
  refine w_st (fun _ => rfl) ?_
  refine f_int 3 rfl rfl ?_
  refine f_add rfl ?_
  refine f_scr rfl (by omega) hl ?_
  refine k_VK (as := [iv (sI xs (wr (i + 1))), iv (sI xs (wr (i + 2))), iv (sI xs (wr (i + 3)))]) rfl (mg_law _) rfl rfl (by decide) rfl rfl (lw_262 h1.1 h1.2.2.1 (oA_of S) h1.2.1.2  (sI_rg _ _) (sI_rg _ _) (sI_rg _ _)) (fun m2 v2 r_v2 h2 => ?_)
  have L0 := L.1
  have g1 := h1.2.1.1
  have g2 := And.intro h2.1 h2.2.1.1
  refine w_st (fun _ => rfl) ?_
  refine w_st (fun _ => rfl) ?_
  exact K m2 ⟨lw_kk L0 g1 g2, as_look S h1.2.2.2 h2.2.2.2 h2.2.2.1, h2.2.1.2⟩
set_option maxRecDepth 20000 in
theorem cs_19 {xs : List Int32} {i : Int} {m : Mm} (r_i : rg i) (hi : 0 ≤ i ∧ i + 6 ≤ xs.length) (hl : xs.length ≤ 3072) (L : LZ m) (K : ∀ m2, LZ m2 → mm_W 60 (mc_law xs) 1386 [some (.ref 1400), some (.ref 0), some (.ref 284), some (iv i)] [] (fm m2) lq) : mm_W 60 (mc_law xs) 819 [some (.ref 1400), some (.ref 0), some (.ref 284), some (iv i)] [] (fm m) lq := by
  have w1 : wr (i + 1) = i + 1 := wr_id (by omega) (by omega)
  have w2 : wr (i + 2) = i + 2 := wr_id (by omega) (by omega)
  have w3 : wr (i + 3) = i + 3 := wr_id (by omega) (by omega)
  have w4 : wr (i + 4) = i + 4 := wr_id (by omega) (by omega)
  have w5 : wr (i + 5) = i + 5 := wr_id (by omega) (by omega)
  obtain ⟨⟨A, S⟩, tb0⟩ := id L.2
  refine w_st (fun _ => rfl) ?_
  refine w_st (fun _ => rfl) ?_
  refine w_st (fun _ => rfl) ?_
  refine f_int 1 rfl rfl ?_
  refine f_add rfl ?_
  refine f_scr rfl (by omega) hl ?_
  refine w_st (fun _ => rfl) ?_
  refine w_st (fun _ => rfl) ?_
  refine f_int 2 rfl rfl ?_
  refine f_add rfl ?_
  refine f_scr rfl (by omega) hl ?_
  refine w_st (fun _ => rfl) ?_
  refine w_st (fun _ => rfl) ?_
  refine f_int 3 rfl rfl ?_
  refine f_add rfl ?_
  refine f_scr rfl (by omega) hl ?_
  refine k_VK (as := [iv (sI xs (wr (i + 1))), iv (sI xs (wr (i + 2))), iv (sI xs (wr (i + 3)))]) rfl (mg_law _) rfl rfl (by decide) rfl rfl (lw_141 L.1.1 S tb0  (sI_rg _ _) (sI_rg _ _) (sI_rg _ _)) (fun m1 v1 r_v1 h1 => ?_)
  refine w_st (fun _ => rfl) ?_
  refine w_st (fun _ => rfl) ?_
  refine w_st (fun _ => rfl) ?_
  refine w_st (fun _ => rfl) ?_
  refine f_int 1 rfl rfl ?_
  refine f_add rfl ?_
  refine f_scr rfl (by omega) hl ?_
  refine w_st (fun _ => rfl) ?_
  refine w_st (fun _ => rfl) ?_
  refine f_int 2 rfl rfl ?_
  refine f_add rfl ?_
  refine f_scr rfl (by omega) hl ?_
  refine w_st (fun _ => rfl) ?_
  refine w_st (fun _ => rfl) ?_
  refine f_int 3 rfl rfl ?_
  refine f_add rfl ?_
  refine f_scr rfl (by omega) hl ?_
  refine k_VK (as := [iv (sI xs (wr (i + 1))), iv (sI xs (wr (i + 2))), iv (sI xs (wr (i + 3)))]) rfl (mg_law _) rfl rfl (by decide) rfl rfl (lw_264 h1.1 h1.2.2.1 (oA_of S) h1.2.1.2  (sI_rg _ _) (sI_rg _ _) (sI_rg _ _)) (fun m2 v2 r_v2 h2 => ?_)
  have L0 := L.1
  have g1 := h1.2.1.1
  have g2 := And.intro h2.1 h2.2.1.1
  refine w_st (fun _ => rfl) ?_
  refine w_st (fun _ => rfl) ?_
  exact K m2 ⟨lw_kk L0 g1 g2, as_look S h1.2.2.2 h2.2.2.2 h2.2.2.1, h2.2.1.2⟩
set_option maxRecDepth 20000 in
theorem cs_20 {xs : List Int32} {i : Int} {m : Mm} (r_i : rg i) (hi : 0 ≤ i ∧ i + 6 ≤ xs.length) (hl : xs.length ≤ 3072) (L : LZ m) (K : ∀ m2, LZ m2 → mm_W 60 (mc_law xs) 1386 [some (.ref 1400), some (.ref 0), some (.ref 284), some (iv i)] [] (fm m2) lq) : mm_W 60 (mc_law xs) 862 [some (.ref 1400), some (.ref 0), some (.ref 284), some (iv i)] [] (fm m) lq := by
  have w1 : wr (i + 1) = i + 1 := wr_id (by omega) (by omega)
  have w2 : wr (i + 2) = i + 2 := wr_id (by omega) (by omega)
  have w3 : wr (i + 3) = i + 3 := wr_id (by omega) (by omega)
  have w4 : wr (i + 4) = i + 4 := wr_id (by omega) (by omega)
  have w5 : wr (i + 5) = i + 5 := wr_id (by omega) (by omega)
  obtain ⟨⟨A, S⟩, tb0⟩ := id L.2
  refine w_st (fun _ => rfl) ?_
  refine w_st (fun _ => rfl) ?_
  refine w_st (fun _ => rfl) ?_
  refine f_int 1 rfl rfl ?_
  refine f_add rfl ?_
  refine f_scr rfl (by omega) hl ?_
  refine k_VK (as := [iv (sI xs (wr (i + 1)))]) rfl (mg_law _) rfl rfl (by decide) rfl rfl (lw_142 L.1.1 S tb0  (sI_rg _ _)) (fun m1 v1 r_v1 h1 => ?_)
  refine w_st (fun _ => rfl) ?_
  refine w_st (fun _ => rfl) ?_
  refine w_st (fun _ => rfl) ?_
  refine w_st (fun _ => rfl) ?_
  refine f_int 1 rfl rfl ?_
  refine f_add rfl ?_
  refine f_scr rfl (by omega) hl ?_
  refine k_VK (as := [iv (sI xs (wr (i + 1)))]) rfl (mg_law _) rfl rfl (by decide) rfl rfl (lw_265 h1.1 h1.2.2.1 (oA_of S) h1.2.1.2  (sI_rg _ _)) (fun m2 v2 r_v2 h2 => ?_)
  have L0 := L.1
  have g1 := h1.2.1.1
  have g2 := And.intro h2.1 h2.2.1.1
  refine w_st (fun _ => rfl) ?_
  refine w_st (fun _ => rfl) ?_
  exact K m2 ⟨lw_kk L0 g1 g2, as_look S h1.2.2.2 h2.2.2.2 h2.2.2.1, h2.2.1.2⟩
set_option maxRecDepth 20000 in
theorem cs_21 {xs : List Int32} {i : Int} {m : Mm} (r_i : rg i) (hi : 0 ≤ i ∧ i + 6 ≤ xs.length) (hl : xs.length ≤ 3072) (L : LZ m) (K : ∀ m2, LZ m2 → mm_W 60 (mc_law xs) 1386 [some (.ref 1400), some (.ref 0), some (.ref 284), some (iv i)] [] (fm m2) lq) : mm_W 60 (mc_law xs) 885 [some (.ref 1400), some (.ref 0), some (.ref 284), some (iv i)] [] (fm m) lq := by
  have w1 : wr (i + 1) = i + 1 := wr_id (by omega) (by omega)
  have w2 : wr (i + 2) = i + 2 := wr_id (by omega) (by omega)
  have w3 : wr (i + 3) = i + 3 := wr_id (by omega) (by omega)
  have w4 : wr (i + 4) = i + 4 := wr_id (by omega) (by omega)
  have w5 : wr (i + 5) = i + 5 := wr_id (by omega) (by omega)
  obtain ⟨⟨A, S⟩, tb0⟩ := id L.2
  refine w_st (fun _ => rfl) ?_
  refine w_st (fun _ => rfl) ?_
  refine w_st (fun _ => rfl) ?_
  refine f_int 1 rfl rfl ?_
  refine f_add rfl ?_
  refine f_scr rfl (by omega) hl ?_
  refine w_st (fun _ => rfl) ?_
  refine w_st (fun _ => rfl) ?_
  refine f_int 2 rfl rfl ?_
  refine f_add rfl ?_
  refine f_scr rfl (by omega) hl ?_
  refine k_VK (as := [iv (sI xs (wr (i + 1))), iv (sI xs (wr (i + 2)))]) rfl (mg_law _) rfl rfl (by decide) rfl rfl (lw_143 L.1.1 S tb0  (sI_rg _ _) (sI_rg _ _)) (fun m1 v1 r_v1 h1 => ?_)
  refine w_st (fun _ => rfl) ?_
  refine w_st (fun _ => rfl) ?_
  refine w_st (fun _ => rfl) ?_
  refine w_st (fun _ => rfl) ?_
  refine f_int 1 rfl rfl ?_
  refine f_add rfl ?_
  refine f_scr rfl (by omega) hl ?_
  refine w_st (fun _ => rfl) ?_
  refine w_st (fun _ => rfl) ?_
  refine f_int 2 rfl rfl ?_
  refine f_add rfl ?_
  refine f_scr rfl (by omega) hl ?_
  refine k_VK (as := [iv (sI xs (wr (i + 1))), iv (sI xs (wr (i + 2)))]) rfl (mg_law _) rfl rfl (by decide) rfl rfl (lw_267 h1.1 h1.2.2.1 (oA_of S) h1.2.1.2  (sI_rg _ _) (sI_rg _ _)) (fun m2 v2 r_v2 h2 => ?_)
  have L0 := L.1
  have g1 := h1.2.1.1
  have g2 := And.intro h2.1 h2.2.1.1
  refine w_st (fun _ => rfl) ?_
  refine w_st (fun _ => rfl) ?_
  exact K m2 ⟨lw_kk L0 g1 g2, as_look S h1.2.2.2 h2.2.2.2 h2.2.2.1, h2.2.1.2⟩
set_option maxRecDepth 20000 in
theorem cs_22 {xs : List Int32} {i : Int} {m : Mm} (r_i : rg i) (hi : 0 ≤ i ∧ i + 6 ≤ xs.length) (hl : xs.length ≤ 3072) (L : LZ m) (K : ∀ m2, LZ m2 → mm_W 60 (mc_law xs) 1386 [some (.ref 1400), some (.ref 0), some (.ref 284), some (iv i)] [] (fm m2) lq) : mm_W 60 (mc_law xs) 918 [some (.ref 1400), some (.ref 0), some (.ref 284), some (iv i)] [] (fm m) lq := by
  have w1 : wr (i + 1) = i + 1 := wr_id (by omega) (by omega)
  have w2 : wr (i + 2) = i + 2 := wr_id (by omega) (by omega)
  have w3 : wr (i + 3) = i + 3 := wr_id (by omega) (by omega)
  have w4 : wr (i + 4) = i + 4 := wr_id (by omega) (by omega)
  have w5 : wr (i + 5) = i + 5 := wr_id (by omega) (by omega)
  obtain ⟨⟨A, S⟩, tb0⟩ := id L.2
  refine w_st (fun _ => rfl) ?_
  refine w_st (fun _ => rfl) ?_
  refine w_st (fun _ => rfl) ?_
  refine f_int 1 rfl rfl ?_
  refine f_add rfl ?_
  refine f_scr rfl (by omega) hl ?_
  refine w_st (fun _ => rfl) ?_
  refine w_st (fun _ => rfl) ?_
  refine f_int 2 rfl rfl ?_
  refine f_add rfl ?_
  refine f_scr rfl (by omega) hl ?_
  refine k_VK (as := [iv (sI xs (wr (i + 1))), iv (sI xs (wr (i + 2)))]) rfl (mg_law _) rfl rfl (by decide) rfl rfl (lw_144 L.1.1 S tb0  (sI_rg _ _) (sI_rg _ _)) (fun m1 v1 r_v1 h1 => ?_)
  refine w_st (fun _ => rfl) ?_
  refine w_st (fun _ => rfl) ?_
  refine w_st (fun _ => rfl) ?_
  refine w_st (fun _ => rfl) ?_
  refine f_int 1 rfl rfl ?_
  refine f_add rfl ?_
  refine f_scr rfl (by omega) hl ?_
  refine w_st (fun _ => rfl) ?_
  refine w_st (fun _ => rfl) ?_
  refine f_int 2 rfl rfl ?_
  refine f_add rfl ?_
  refine f_scr rfl (by omega) hl ?_
  refine k_VK (as := [iv (sI xs (wr (i + 1))), iv (sI xs (wr (i + 2)))]) rfl (mg_law _) rfl rfl (by decide) rfl rfl (lw_270 h1.1 h1.2.2.1 (oA_of S) h1.2.1.2  (sI_rg _ _) (sI_rg _ _)) (fun m2 v2 r_v2 h2 => ?_)
  have L0 := L.1
  have g1 := h1.2.1.1
  have g2 := And.intro h2.1 h2.2.1.1
  refine w_st (fun _ => rfl) ?_
  refine w_st (fun _ => rfl) ?_
  exact K m2 ⟨lw_kk L0 g1 g2, as_look S h1.2.2.2 h2.2.2.2 h2.2.2.1, h2.2.1.2⟩
set_option maxRecDepth 20000 in
theorem cs_23 {xs : List Int32} {i : Int} {m : Mm} (r_i : rg i) (hi : 0 ≤ i ∧ i + 6 ≤ xs.length) (hl : xs.length ≤ 3072) (L : LZ m) (K : ∀ m2, LZ m2 → mm_W 60 (mc_law xs) 1386 [some (.ref 1400), some (.ref 0), some (.ref 284), some (iv i)] [] (fm m2) lq) : mm_W 60 (mc_law xs) 951 [some (.ref 1400), some (.ref 0), some (.ref 284), some (iv i)] [] (fm m) lq := by
  have w1 : wr (i + 1) = i + 1 := wr_id (by omega) (by omega)
  have w2 : wr (i + 2) = i + 2 := wr_id (by omega) (by omega)
  have w3 : wr (i + 3) = i + 3 := wr_id (by omega) (by omega)
  have w4 : wr (i + 4) = i + 4 := wr_id (by omega) (by omega)
  have w5 : wr (i + 5) = i + 5 := wr_id (by omega) (by omega)
  obtain ⟨⟨A, S⟩, tb0⟩ := id L.2
  refine w_st (fun _ => rfl) ?_
  refine w_st (fun _ => rfl) ?_
  refine w_st (fun _ => rfl) ?_
  refine f_int 1 rfl rfl ?_
  refine f_add rfl ?_
  refine f_scr rfl (by omega) hl ?_
  refine k_VK (as := [iv (sI xs (wr (i + 1)))]) rfl (mg_law _) rfl rfl (by decide) rfl rfl (lw_145 L.1.1 S tb0  (sI_rg _ _)) (fun m1 v1 r_v1 h1 => ?_)
  refine w_st (fun _ => rfl) ?_
  refine w_st (fun _ => rfl) ?_
  refine w_st (fun _ => rfl) ?_
  refine w_st (fun _ => rfl) ?_
  refine f_int 1 rfl rfl ?_
  refine f_add rfl ?_
  refine f_scr rfl (by omega) hl ?_
  refine k_VK (as := [iv (sI xs (wr (i + 1)))]) rfl (mg_law _) rfl rfl (by decide) rfl rfl (lw_271 h1.1 h1.2.2.1 (oA_of S) h1.2.1.2  (sI_rg _ _)) (fun m2 v2 r_v2 h2 => ?_)
  have L0 := L.1
  have g1 := h1.2.1.1
  have g2 := And.intro h2.1 h2.2.1.1
  refine w_st (fun _ => rfl) ?_
  refine w_st (fun _ => rfl) ?_
  exact K m2 ⟨lw_kk L0 g1 g2, as_look S h1.2.2.2 h2.2.2.2 h2.2.2.1, h2.2.1.2⟩
set_option maxRecDepth 20000 in
theorem cs_24 {xs : List Int32} {i : Int} {m : Mm} (r_i : rg i) (hi : 0 ≤ i ∧ i + 6 ≤ xs.length) (hl : xs.length ≤ 3072) (L : LZ m) (K : ∀ m2, LZ m2 → mm_W 60 (mc_law xs) 1386 [some (.ref 1400), some (.ref 0), some (.ref 284), some (iv i)] [] (fm m2) lq) : mm_W 60 (mc_law xs) 974 [some (.ref 1400), some (.ref 0), some (.ref 284), some (iv i)] [] (fm m) lq := by
  have w1 : wr (i + 1) = i + 1 := wr_id (by omega) (by omega)
  have w2 : wr (i + 2) = i + 2 := wr_id (by omega) (by omega)
  have w3 : wr (i + 3) = i + 3 := wr_id (by omega) (by omega)
  have w4 : wr (i + 4) = i + 4 := wr_id (by omega) (by omega)
  have w5 : wr (i + 5) = i + 5 := wr_id (by omega) (by omega)
  obtain ⟨⟨A, S⟩, tb0⟩ := id L.2
  refine w_st (fun _ => rfl) ?_
  refine w_st (fun _ => rfl) ?_
  refine w_st (fun _ => rfl) ?_
  refine f_int 1 rfl rfl ?_
  refine f_add rfl ?_
  refine f_scr rfl (by omega) hl ?_
  refine k_VK (as := [iv (sI xs (wr (i + 1)))]) rfl (mg_law _) rfl rfl (by decide) rfl rfl (lw_146 L.1.1 S tb0  (sI_rg _ _)) (fun m1 v1 r_v1 h1 => ?_)
  refine w_st (fun _ => rfl) ?_
  refine w_st (fun _ => rfl) ?_
  refine w_st (fun _ => rfl) ?_
  refine w_st (fun _ => rfl) ?_
  refine f_int 1 rfl rfl ?_
  refine f_add rfl ?_
  refine f_scr rfl (by omega) hl ?_
  refine k_VK (as := [iv (sI xs (wr (i + 1)))]) rfl (mg_law _) rfl rfl (by decide) rfl rfl (lw_272 h1.1 h1.2.2.1 (oA_of S) h1.2.1.2  (sI_rg _ _)) (fun m2 v2 r_v2 h2 => ?_)
  have L0 := L.1
  have g1 := h1.2.1.1
  have g2 := And.intro h2.1 h2.2.1.1
  refine w_st (fun _ => rfl) ?_
  refine w_st (fun _ => rfl) ?_
  exact K m2 ⟨lw_kk L0 g1 g2, as_look S h1.2.2.2 h2.2.2.2 h2.2.2.1, h2.2.1.2⟩
set_option maxRecDepth 20000 in
theorem cs_25 {xs : List Int32} {i : Int} {m : Mm} (r_i : rg i) (hi : 0 ≤ i ∧ i + 6 ≤ xs.length) (hl : xs.length ≤ 3072) (L : LZ m) (K : ∀ m2, LZ m2 → mm_W 60 (mc_law xs) 1386 [some (.ref 1400), some (.ref 0), some (.ref 284), some (iv i)] [] (fm m2) lq) : mm_W 60 (mc_law xs) 997 [some (.ref 1400), some (.ref 0), some (.ref 284), some (iv i)] [] (fm m) lq := by
  have w1 : wr (i + 1) = i + 1 := wr_id (by omega) (by omega)
  have w2 : wr (i + 2) = i + 2 := wr_id (by omega) (by omega)
  have w3 : wr (i + 3) = i + 3 := wr_id (by omega) (by omega)
  have w4 : wr (i + 4) = i + 4 := wr_id (by omega) (by omega)
  have w5 : wr (i + 5) = i + 5 := wr_id (by omega) (by omega)
  obtain ⟨⟨A, S⟩, tb0⟩ := id L.2
  refine w_st (fun _ => rfl) ?_
  refine w_st (fun _ => rfl) ?_
  refine w_st (fun _ => rfl) ?_
  refine f_int 1 rfl rfl ?_
  refine f_add rfl ?_
  refine f_scr rfl (by omega) hl ?_
  refine w_st (fun _ => rfl) ?_
  refine w_st (fun _ => rfl) ?_
  refine f_int 2 rfl rfl ?_
  refine f_add rfl ?_
  refine f_scr rfl (by omega) hl ?_
  refine w_st (fun _ => rfl) ?_
  refine w_st (fun _ => rfl) ?_
  refine f_int 3 rfl rfl ?_
  refine f_add rfl ?_
  refine f_scr rfl (by omega) hl ?_
  refine k_VK (as := [iv (sI xs (wr (i + 1))), iv (sI xs (wr (i + 2))), iv (sI xs (wr (i + 3)))]) rfl (mg_law _) rfl rfl (by decide) rfl rfl (lw_147 L.1.1 S tb0  (sI_rg _ _) (sI_rg _ _) (sI_rg _ _)) (fun m1 v1 r_v1 h1 => ?_)
  refine w_st (fun _ => rfl) ?_
  refine w_st (fun _ => rfl) ?_
  refine w_st (fun _ => rfl) ?_
  refine w_st (fun _ => rfl) ?_
  refine f_int 1 rfl rfl ?_
  refine f_add rfl ?_
  refine f_scr rfl (by omega) hl ?_
  refine w_st (fun _ => rfl) ?_
  refine w_st (fun _ => rfl) ?_
  refine f_int 2 rfl rfl ?_
  refine f_add rfl ?_
  refine f_scr rfl (by omega) hl ?_
  refine w_st (fun _ => rfl) ?_
  refine w_st (fun _ => rfl) ?_
  refine f_int 3 rfl rfl ?_
  refine f_add rfl ?_
  refine f_scr rfl (by omega) hl ?_
  refine k_VK (as := [iv (sI xs (wr (i + 1))), iv (sI xs (wr (i + 2))), iv (sI xs (wr (i + 3)))]) rfl (mg_law _) rfl rfl (by decide) rfl rfl (lw_273 h1.1 h1.2.2.1 (oA_of S) h1.2.1.2  (sI_rg _ _) (sI_rg _ _) (sI_rg _ _)) (fun m2 v2 r_v2 h2 => ?_)
  have L0 := L.1
  have g1 := h1.2.1.1
  have g2 := And.intro h2.1 h2.2.1.1
  refine w_st (fun _ => rfl) ?_
  refine w_st (fun _ => rfl) ?_
  exact K m2 ⟨lw_kk L0 g1 g2, as_look S h1.2.2.2 h2.2.2.2 h2.2.2.1, h2.2.1.2⟩
set_option maxRecDepth 20000 in
theorem cs_26 {xs : List Int32} {i : Int} {m : Mm} (r_i : rg i) (hi : 0 ≤ i ∧ i + 6 ≤ xs.length) (hl : xs.length ≤ 3072) (L : LZ m) (K : ∀ m2, LZ m2 → mm_W 60 (mc_law xs) 1386 [some (.ref 1400), some (.ref 0), some (.ref 284), some (iv i)] [] (fm m2) lq) : mm_W 60 (mc_law xs) 1040 [some (.ref 1400), some (.ref 0), some (.ref 284), some (iv i)] [] (fm m) lq := by
  have w1 : wr (i + 1) = i + 1 := wr_id (by omega) (by omega)
  have w2 : wr (i + 2) = i + 2 := wr_id (by omega) (by omega)
  have w3 : wr (i + 3) = i + 3 := wr_id (by omega) (by omega)
  have w4 : wr (i + 4) = i + 4 := wr_id (by omega) (by omega)
  have w5 : wr (i + 5) = i + 5 := wr_id (by omega) (by omega)
  obtain ⟨⟨A, S⟩, tb0⟩ := id L.2
  refine w_st (fun _ => rfl) ?_
  refine w_st (fun _ => rfl) ?_
  refine w_st (fun _ => rfl) ?_
  refine f_int 1 rfl rfl ?_
  refine f_add rfl ?_
  refine f_scr rfl (by omega) hl ?_
  refine w_st (fun _ => rfl) ?_
  refine w_st (fun _ => rfl) ?_
  refine f_int 2 rfl rfl ?_
  refine f_add rfl ?_
  refine f_scr rfl (by omega) hl ?_
  refine k_VK (as := [iv (sI xs (wr (i + 1))), iv (sI xs (wr (i + 2)))]) rfl (mg_law _) rfl rfl (by decide) rfl rfl (lw_148 L.1.1 S tb0  (sI_rg _ _) (sI_rg _ _)) (fun m1 v1 r_v1 h1 => ?_)
  refine w_st (fun _ => rfl) ?_
  refine w_st (fun _ => rfl) ?_
  refine w_st (fun _ => rfl) ?_
  refine w_st (fun _ => rfl) ?_
  refine f_int 1 rfl rfl ?_
  refine f_add rfl ?_
  refine f_scr rfl (by omega) hl ?_
  refine w_st (fun _ => rfl) ?_
  refine w_st (fun _ => rfl) ?_
  refine f_int 2 rfl rfl ?_
  refine f_add rfl ?_
  refine f_scr rfl (by omega) hl ?_
  refine k_VK (as := [iv (sI xs (wr (i + 1))), iv (sI xs (wr (i + 2)))]) rfl (mg_law _) rfl rfl (by decide) rfl rfl (lw_274 h1.1 h1.2.2.1 (oA_of S) h1.2.1.2  (sI_rg _ _) (sI_rg _ _)) (fun m2 v2 r_v2 h2 => ?_)
  have L0 := L.1
  have g1 := h1.2.1.1
  have g2 := And.intro h2.1 h2.2.1.1
  refine w_st (fun _ => rfl) ?_
  refine w_st (fun _ => rfl) ?_
  exact K m2 ⟨lw_kk L0 g1 g2, as_look S h1.2.2.2 h2.2.2.2 h2.2.2.1, h2.2.1.2⟩
set_option maxRecDepth 20000 in
theorem cs_27 {xs : List Int32} {i : Int} {m : Mm} (r_i : rg i) (hi : 0 ≤ i ∧ i + 6 ≤ xs.length) (hl : xs.length ≤ 3072) (L : LZ m) (K : ∀ m2, LZ m2 → mm_W 60 (mc_law xs) 1386 [some (.ref 1400), some (.ref 0), some (.ref 284), some (iv i)] [] (fm m2) lq) : mm_W 60 (mc_law xs) 1073 [some (.ref 1400), some (.ref 0), some (.ref 284), some (iv i)] [] (fm m) lq := by
  have w1 : wr (i + 1) = i + 1 := wr_id (by omega) (by omega)
  have w2 : wr (i + 2) = i + 2 := wr_id (by omega) (by omega)
  have w3 : wr (i + 3) = i + 3 := wr_id (by omega) (by omega)
  have w4 : wr (i + 4) = i + 4 := wr_id (by omega) (by omega)
  have w5 : wr (i + 5) = i + 5 := wr_id (by omega) (by omega)
  obtain ⟨⟨A, S⟩, tb0⟩ := id L.2
  refine w_st (fun _ => rfl) ?_
  refine w_st (fun _ => rfl) ?_
  refine w_st (fun _ => rfl) ?_
  refine f_int 1 rfl rfl ?_
  refine f_add rfl ?_
  refine f_scr rfl (by omega) hl ?_
  refine k_VK (as := [iv (sI xs (wr (i + 1)))]) rfl (mg_law _) rfl rfl (by decide) rfl rfl (lw_149 L.1.1 S tb0  (sI_rg _ _)) (fun m1 v1 r_v1 h1 => ?_)
  refine w_st (fun _ => rfl) ?_
  refine w_st (fun _ => rfl) ?_
  refine w_st (fun _ => rfl) ?_
  refine w_st (fun _ => rfl) ?_
  refine f_int 1 rfl rfl ?_
  refine f_add rfl ?_
  refine f_scr rfl (by omega) hl ?_
  refine k_VK (as := [iv (sI xs (wr (i + 1)))]) rfl (mg_law _) rfl rfl (by decide) rfl rfl (lw_275 h1.1 h1.2.2.1 (oA_of S) h1.2.1.2  (sI_rg _ _)) (fun m2 v2 r_v2 h2 => ?_)
  have L0 := L.1
  have g1 := h1.2.1.1
  have g2 := And.intro h2.1 h2.2.1.1
  refine w_st (fun _ => rfl) ?_
  refine w_st (fun _ => rfl) ?_
  exact K m2 ⟨lw_kk L0 g1 g2, as_look S h1.2.2.2 h2.2.2.2 h2.2.2.1, h2.2.1.2⟩
set_option maxRecDepth 20000 in
theorem cs_28 {xs : List Int32} {i : Int} {m : Mm} (r_i : rg i) (hi : 0 ≤ i ∧ i + 6 ≤ xs.length) (hl : xs.length ≤ 3072) (L : LZ m) (K : ∀ m2, LZ m2 → mm_W 60 (mc_law xs) 1386 [some (.ref 1400), some (.ref 0), some (.ref 284), some (iv i)] [] (fm m2) lq) : mm_W 60 (mc_law xs) 1096 [some (.ref 1400), some (.ref 0), some (.ref 284), some (iv i)] [] (fm m) lq := by
  have w1 : wr (i + 1) = i + 1 := wr_id (by omega) (by omega)
  have w2 : wr (i + 2) = i + 2 := wr_id (by omega) (by omega)
  have w3 : wr (i + 3) = i + 3 := wr_id (by omega) (by omega)
  have w4 : wr (i + 4) = i + 4 := wr_id (by omega) (by omega)
  have w5 : wr (i + 5) = i + 5 := wr_id (by omega) (by omega)
  obtain ⟨⟨A, S⟩, tb0⟩ := id L.2
  refine w_st (fun _ => rfl) ?_
  refine w_st (fun _ => rfl) ?_
  refine w_st (fun _ => rfl) ?_
  refine f_int 1 rfl rfl ?_
  refine f_add rfl ?_
  refine f_scr rfl (by omega) hl ?_
  refine w_st (fun _ => rfl) ?_
  refine w_st (fun _ => rfl) ?_
  refine f_int 2 rfl rfl ?_
  refine f_add rfl ?_
  refine f_scr rfl (by omega) hl ?_
  refine w_st (fun _ => rfl) ?_
  refine w_st (fun _ => rfl) ?_
  refine f_int 3 rfl rfl ?_
  refine f_add rfl ?_
  refine f_scr rfl (by omega) hl ?_
  refine w_st (fun _ => rfl) ?_
  refine w_st (fun _ => rfl) ?_
  refine f_int 4 rfl rfl ?_
  refine f_add rfl ?_
  refine f_scr rfl (by omega) hl ?_
  refine k_VK (as := [iv (sI xs (wr (i + 1))), iv (sI xs (wr (i + 2))), iv (sI xs (wr (i + 3))), iv (sI xs (wr (i + 4)))]) rfl (mg_law _) rfl rfl (by decide) rfl rfl (lw_150 L.1.1 S tb0  (sI_rg _ _) (sI_rg _ _) (sI_rg _ _) (sI_rg _ _)) (fun m1 v1 r_v1 h1 => ?_)
  refine w_st (fun _ => rfl) ?_
  refine w_st (fun _ => rfl) ?_
  refine w_st (fun _ => rfl) ?_
  refine w_st (fun _ => rfl) ?_
  refine f_int 1 rfl rfl ?_
  refine f_add rfl ?_
  refine f_scr rfl (by omega) hl ?_
  refine w_st (fun _ => rfl) ?_
  refine w_st (fun _ => rfl) ?_
  refine f_int 2 rfl rfl ?_
  refine f_add rfl ?_
  refine f_scr rfl (by omega) hl ?_
  refine w_st (fun _ => rfl) ?_
  refine w_st (fun _ => rfl) ?_
  refine f_int 3 rfl rfl ?_
  refine f_add rfl ?_
  refine f_scr rfl (by omega) hl ?_
  refine w_st (fun _ => rfl) ?_
  refine w_st (fun _ => rfl) ?_
  refine f_int 4 rfl rfl ?_
  refine f_add rfl ?_
  refine f_scr rfl (by omega) hl ?_
  refine k_VK (as := [iv (sI xs (wr (i + 1))), iv (sI xs (wr (i + 2))), iv (sI xs (wr (i + 3))), iv (sI xs (wr (i + 4)))]) rfl (mg_law _) rfl rfl (by decide) rfl rfl (lw_276 h1.1 h1.2.2.1 (oA_of S) h1.2.1.2  (sI_rg _ _) (sI_rg _ _) (sI_rg _ _) (sI_rg _ _)) (fun m2 v2 r_v2 h2 => ?_)
  have L0 := L.1
  have g1 := h1.2.1.1
  have g2 := And.intro h2.1 h2.2.1.1
  refine w_st (fun _ => rfl) ?_
  refine w_st (fun _ => rfl) ?_
  exact K m2 ⟨lw_kk L0 g1 g2, as_look S h1.2.2.2 h2.2.2.2 h2.2.2.1, h2.2.1.2⟩
set_option maxRecDepth 20000 in
theorem cs_29 {xs : List Int32} {i : Int} {m : Mm} (r_i : rg i) (hi : 0 ≤ i ∧ i + 6 ≤ xs.length) (hl : xs.length ≤ 3072) (L : LZ m) (K : ∀ m2, LZ m2 → mm_W 60 (mc_law xs) 1386 [some (.ref 1400), some (.ref 0), some (.ref 284), some (iv i)] [] (fm m2) lq) : mm_W 60 (mc_law xs) 1149 [some (.ref 1400), some (.ref 0), some (.ref 284), some (iv i)] [] (fm m) lq := by
  have w1 : wr (i + 1) = i + 1 := wr_id (by omega) (by omega)
  have w2 : wr (i + 2) = i + 2 := wr_id (by omega) (by omega)
  have w3 : wr (i + 3) = i + 3 := wr_id (by omega) (by omega)
  have w4 : wr (i + 4) = i + 4 := wr_id (by omega) (by omega)
  have w5 : wr (i + 5) = i + 5 := wr_id (by omega) (by omega)
  obtain ⟨⟨A, S⟩, tb0⟩ := id L.2
  refine w_st (fun _ => rfl) ?_
  refine w_st (fun _ => rfl) ?_
  refine w_st (fun _ => rfl) ?_
  refine f_int 1 rfl rfl ?_
  refine f_add rfl ?_
  refine f_scr rfl (by omega) hl ?_
  refine w_st (fun _ => rfl) ?_
  refine w_st (fun _ => rfl) ?_
  refine f_int 2 rfl rfl ?_
  refine f_add rfl ?_
  refine f_scr rfl (by omega) hl ?_
  refine w_st (fun _ => rfl) ?_
  refine w_st (fun _ => rfl) ?_
  refine f_int 3 rfl rfl ?_
  refine f_add rfl ?_
  refine f_scr rfl (by omega) hl ?_
  refine z_eq rfl (sI_rg _ _) (fun hq => ?_) (fun hq => ?_)
  · skip
    refine f_int 0 rfl rfl ?_
    refine k_VK (as := [iv (sI xs (wr (i + 1))), iv (sI xs (wr (i + 2))), iv 0]) rfl (mg_law _) rfl rfl (by decide) rfl rfl (lw_151 L.1.1 S tb0  (sI_rg _ _) (sI_rg _ _) (by unfold rg; decide)) (fun m1 v1 r_v1 h1 => ?_)
    refine w_st (fun _ => rfl) ?_
    refine w_st (fun _ => rfl) ?_
    refine w_st (fun _ => rfl) ?_
    refine w_st (fun _ => rfl) ?_
    refine f_int 1 rfl rfl ?_
    refine f_add rfl ?_
    refine f_scr rfl (by omega) hl ?_
    refine w_st (fun _ => rfl) ?_
    refine w_st (fun _ => rfl) ?_
    refine f_int 2 rfl rfl ?_
    refine f_add rfl ?_
    refine f_scr rfl (by omega) hl ?_
    refine w_st (fun _ => rfl) ?_
    refine w_st (fun _ => rfl) ?_
    refine f_int 3 rfl rfl ?_
    refine f_add rfl ?_
    refine f_scr rfl (by omega) hl ?_
    refine z_eq rfl (sI_rg _ _) (fun hq => ?_) (fun hq => ?_)
    · skip
      refine f_int 0 rfl rfl ?_
      refine k_VK (as := [iv (sI xs (wr (i + 1))), iv (sI xs (wr (i + 2))), iv 0]) rfl (mg_law _) rfl rfl (by decide) rfl rfl (lw_277 h1.1 h1.2.2.1 (oA_of S) h1.2.1.2  (sI_rg _ _) (sI_rg _ _) (by unfold rg; decide)) (fun m2 v2 r_v2 h2 => ?_)
      have L0 := L.1
      have g1 := h1.2.1.1
      have g2 := And.intro h2.1 h2.2.1.1
      refine w_st (fun _ => rfl) ?_
      refine w_st (fun _ => rfl) ?_
      exact K m2 ⟨lw_to L0 ⟨by omega, g1.2⟩ ⟨g2.1, (by have a := g1.1; have b := g2.2.1; have k := g1.2.2.2.2.2.1; have a0 := L0.2.2.2.2.1; omega), g2.2.2⟩, as_look S h1.2.2.2 h2.2.2.2 h2.2.2.1, h2.2.1.2⟩
    · skip
      refine f_int 1 rfl rfl ?_
      refine w_st (fun _ => rfl) ?_
      refine k_VK (as := [iv (sI xs (wr (i + 1))), iv (sI xs (wr (i + 2))), iv 1]) rfl (mg_law _) rfl rfl (by decide) rfl rfl (lw_277 h1.1 h1.2.2.1 (oA_of S) h1.2.1.2  (sI_rg _ _) (sI_rg _ _) (by unfold rg; decide)) (fun m2 v2 r_v2 h2 => ?_)
      have L0 := L.1
      have g1 := h1.2.1.1
      have g2 := And.intro h2.1 h2.2.1.1
      refine w_st (fun _ => rfl) ?_
      refine w_st (fun _ => rfl) ?_
      exact K m2 ⟨lw_to L0 ⟨by omega, g1.2⟩ ⟨g2.1, (by have a := g1.1; have b := g2.2.1; have k := g1.2.2.2.2.2.1; have a0 := L0.2.2.2.2.1; omega), g2.2.2⟩, as_look S h1.2.2.2 h2.2.2.2 h2.2.2.1, h2.2.1.2⟩
  · skip
    refine f_int 1 rfl rfl ?_
    refine w_st (fun _ => rfl) ?_
    refine k_VK (as := [iv (sI xs (wr (i + 1))), iv (sI xs (wr (i + 2))), iv 1]) rfl (mg_law _) rfl rfl (by decide) rfl rfl (lw_151 L.1.1 S tb0  (sI_rg _ _) (sI_rg _ _) (by unfold rg; decide)) (fun m1 v1 r_v1 h1 => ?_)
    refine w_st (fun _ => rfl) ?_
    refine w_st (fun _ => rfl) ?_
    refine w_st (fun _ => rfl) ?_
    refine w_st (fun _ => rfl) ?_
    refine f_int 1 rfl rfl ?_
    refine f_add rfl ?_
    refine f_scr rfl (by omega) hl ?_
    refine w_st (fun _ => rfl) ?_
    refine w_st (fun _ => rfl) ?_
    refine f_int 2 rfl rfl ?_
    refine f_add rfl ?_
    refine f_scr rfl (by omega) hl ?_
    refine w_st (fun _ => rfl) ?_
    refine w_st (fun _ => rfl) ?_
    refine f_int 3 rfl rfl ?_
    refine f_add rfl ?_
    refine f_scr rfl (by omega) hl ?_
    refine z_eq rfl (sI_rg _ _) (fun hq => ?_) (fun hq => ?_)
    · skip
      refine f_int 0 rfl rfl ?_
      refine k_VK (as := [iv (sI xs (wr (i + 1))), iv (sI xs (wr (i + 2))), iv 0]) rfl (mg_law _) rfl rfl (by decide) rfl rfl (lw_277 h1.1 h1.2.2.1 (oA_of S) h1.2.1.2  (sI_rg _ _) (sI_rg _ _) (by unfold rg; decide)) (fun m2 v2 r_v2 h2 => ?_)
      have L0 := L.1
      have g1 := h1.2.1.1
      have g2 := And.intro h2.1 h2.2.1.1
      refine w_st (fun _ => rfl) ?_
      refine w_st (fun _ => rfl) ?_
      exact K m2 ⟨lw_to L0 ⟨by omega, g1.2⟩ ⟨g2.1, (by have a := g1.1; have b := g2.2.1; have k := g1.2.2.2.2.2.1; have a0 := L0.2.2.2.2.1; omega), g2.2.2⟩, as_look S h1.2.2.2 h2.2.2.2 h2.2.2.1, h2.2.1.2⟩
    · skip
      refine f_int 1 rfl rfl ?_
      refine w_st (fun _ => rfl) ?_
      refine k_VK (as := [iv (sI xs (wr (i + 1))), iv (sI xs (wr (i + 2))), iv 1]) rfl (mg_law _) rfl rfl (by decide) rfl rfl (lw_277 h1.1 h1.2.2.1 (oA_of S) h1.2.1.2  (sI_rg _ _) (sI_rg _ _) (by unfold rg; decide)) (fun m2 v2 r_v2 h2 => ?_)
      have L0 := L.1
      have g1 := h1.2.1.1
      have g2 := And.intro h2.1 h2.2.1.1
      refine w_st (fun _ => rfl) ?_
      refine w_st (fun _ => rfl) ?_
      exact K m2 ⟨lw_to L0 ⟨by omega, g1.2⟩ ⟨g2.1, (by have a := g1.1; have b := g2.2.1; have k := g1.2.2.2.2.2.1; have a0 := L0.2.2.2.2.1; omega), g2.2.2⟩, as_look S h1.2.2.2 h2.2.2.2 h2.2.2.1, h2.2.1.2⟩
set_option maxRecDepth 20000 in
theorem cs_30 {xs : List Int32} {i : Int} {m : Mm} (r_i : rg i) (hi : 0 ≤ i ∧ i + 6 ≤ xs.length) (hl : xs.length ≤ 3072) (L : LZ m) (K : ∀ m2, LZ m2 → mm_W 60 (mc_law xs) 1386 [some (.ref 1400), some (.ref 0), some (.ref 284), some (iv i)] [] (fm m2) lq) : mm_W 60 (mc_law xs) 1208 [some (.ref 1400), some (.ref 0), some (.ref 284), some (iv i)] [] (fm m) lq := by
  have w1 : wr (i + 1) = i + 1 := wr_id (by omega) (by omega)
  have w2 : wr (i + 2) = i + 2 := wr_id (by omega) (by omega)
  have w3 : wr (i + 3) = i + 3 := wr_id (by omega) (by omega)
  have w4 : wr (i + 4) = i + 4 := wr_id (by omega) (by omega)
  have w5 : wr (i + 5) = i + 5 := wr_id (by omega) (by omega)
  obtain ⟨⟨A, S⟩, tb0⟩ := id L.2
  refine w_st (fun _ => rfl) ?_
  refine k_VK (as := []) rfl (mg_law _) rfl rfl (by decide) rfl rfl (lw_152 L.1.1 S tb0  ) (fun m1 v1 r_v1 h1 => ?_)
  refine w_st (fun _ => rfl) ?_
  refine w_st (fun _ => rfl) ?_
  refine k_VK (as := []) rfl (mg_law _) rfl rfl (by decide) rfl rfl (lw_278 h1.1 h1.2.2.1 (oA_of S) h1.2.1.2  ) (fun m2 v2 r_v2 h2 => ?_)
  have L0 := L.1
  have g1 := h1.2.1.1
  have g2 := And.intro h2.1 h2.2.1.1
  refine w_st (fun _ => rfl) ?_
  refine w_st (fun _ => rfl) ?_
  exact K m2 ⟨lw_to L0 ⟨by omega, g1.2⟩ ⟨g2.1, (by have a := g1.1; have b := g2.2.1; omega), g2.2.2⟩, as_look S h1.2.2.2 h2.2.2.2 h2.2.2.1, h2.2.1.2⟩
set_option maxRecDepth 20000 in
theorem cs_31 {xs : List Int32} {i : Int} {m : Mm} (r_i : rg i) (hi : 0 ≤ i ∧ i + 6 ≤ xs.length) (hl : xs.length ≤ 3072) (L : LZ m) (K : ∀ m2, LZ m2 → mm_W 60 (mc_law xs) 1386 [some (.ref 1400), some (.ref 0), some (.ref 284), some (iv i)] [] (fm m2) lq) : mm_W 60 (mc_law xs) 1221 [some (.ref 1400), some (.ref 0), some (.ref 284), some (iv i)] [] (fm m) lq := by
  have w1 : wr (i + 1) = i + 1 := wr_id (by omega) (by omega)
  have w2 : wr (i + 2) = i + 2 := wr_id (by omega) (by omega)
  have w3 : wr (i + 3) = i + 3 := wr_id (by omega) (by omega)
  have w4 : wr (i + 4) = i + 4 := wr_id (by omega) (by omega)
  have w5 : wr (i + 5) = i + 5 := wr_id (by omega) (by omega)
  obtain ⟨⟨A, S⟩, tb0⟩ := id L.2
  refine w_st (fun _ => rfl) ?_
  refine w_st (fun _ => rfl) ?_
  refine w_st (fun _ => rfl) ?_
  refine f_int 1 rfl rfl ?_
  refine f_add rfl ?_
  refine f_scr rfl (by omega) hl ?_
  refine w_st (fun _ => rfl) ?_
  refine w_st (fun _ => rfl) ?_
  refine f_int 2 rfl rfl ?_
  refine f_add rfl ?_
  refine f_scr rfl (by omega) hl ?_
  refine w_st (fun _ => rfl) ?_
  refine w_st (fun _ => rfl) ?_
  refine f_int 3 rfl rfl ?_
  refine f_add rfl ?_
  refine f_scr rfl (by omega) hl ?_
  refine w_st (fun _ => rfl) ?_
  refine w_st (fun _ => rfl) ?_
  refine f_int 4 rfl rfl ?_
  refine f_add rfl ?_
  refine f_scr rfl (by omega) hl ?_
  refine k_VK (as := [iv (sI xs (wr (i + 1))), iv (sI xs (wr (i + 2))), iv (sI xs (wr (i + 3))), iv (sI xs (wr (i + 4)))]) rfl (mg_law _) rfl rfl (by decide) rfl rfl (lw_153 L.1.1 S tb0  (sI_rg _ _) (sI_rg _ _) (sI_rg _ _) (sI_rg _ _)) (fun m1 v1 r_v1 h1 => ?_)
  refine w_st (fun _ => rfl) ?_
  refine w_st (fun _ => rfl) ?_
  refine w_st (fun _ => rfl) ?_
  refine w_st (fun _ => rfl) ?_
  refine f_int 1 rfl rfl ?_
  refine f_add rfl ?_
  refine f_scr rfl (by omega) hl ?_
  refine w_st (fun _ => rfl) ?_
  refine w_st (fun _ => rfl) ?_
  refine f_int 2 rfl rfl ?_
  refine f_add rfl ?_
  refine f_scr rfl (by omega) hl ?_
  refine w_st (fun _ => rfl) ?_
  refine w_st (fun _ => rfl) ?_
  refine f_int 3 rfl rfl ?_
  refine f_add rfl ?_
  refine f_scr rfl (by omega) hl ?_
  refine w_st (fun _ => rfl) ?_
  refine w_st (fun _ => rfl) ?_
  refine f_int 4 rfl rfl ?_
  refine f_add rfl ?_
  refine f_scr rfl (by omega) hl ?_
  refine k_VK (as := [iv (sI xs (wr (i + 1))), iv (sI xs (wr (i + 2))), iv (sI xs (wr (i + 3))), iv (sI xs (wr (i + 4)))]) rfl (mg_law _) rfl rfl (by decide) rfl rfl (lw_282 h1.1 h1.2.2.1 (oA_of S) h1.2.1.2  (sI_rg _ _) (sI_rg _ _) (sI_rg _ _) (sI_rg _ _)) (fun m2 v2 r_v2 h2 => ?_)
  have L0 := L.1
  have g1 := h1.2.1.1
  have g2 := And.intro h2.1 h2.2.1.1
  refine w_st (fun _ => rfl) ?_
  refine w_st (fun _ => rfl) ?_
  exact K m2 ⟨lw_kk L0 g1 g2, as_look S h1.2.2.2 h2.2.2.2 h2.2.2.1, h2.2.1.2⟩
set_option maxRecDepth 20000 in
theorem cs_32 {xs : List Int32} {i : Int} {m : Mm} (r_i : rg i) (hi : 0 ≤ i ∧ i + 6 ≤ xs.length) (hl : xs.length ≤ 3072) (L : LZ m) (K : ∀ m2, LZ m2 → mm_W 60 (mc_law xs) 1386 [some (.ref 1400), some (.ref 0), some (.ref 284), some (iv i)] [] (fm m2) lq) : mm_W 60 (mc_law xs) 1274 [some (.ref 1400), some (.ref 0), some (.ref 284), some (iv i)] [] (fm m) lq := by
  have w1 : wr (i + 1) = i + 1 := wr_id (by omega) (by omega)
  have w2 : wr (i + 2) = i + 2 := wr_id (by omega) (by omega)
  have w3 : wr (i + 3) = i + 3 := wr_id (by omega) (by omega)
  have w4 : wr (i + 4) = i + 4 := wr_id (by omega) (by omega)
  have w5 : wr (i + 5) = i + 5 := wr_id (by omega) (by omega)
  obtain ⟨⟨A, S⟩, tb0⟩ := id L.2
  refine w_st (fun _ => rfl) ?_
  refine w_st (fun _ => rfl) ?_
  refine w_st (fun _ => rfl) ?_
  refine f_int 1 rfl rfl ?_
  refine f_add rfl ?_
  refine f_scr rfl (by omega) hl ?_
  refine w_st (fun _ => rfl) ?_
  refine w_st (fun _ => rfl) ?_
  refine f_int 2 rfl rfl ?_
  refine f_add rfl ?_
  refine f_scr rfl (by omega) hl ?_
  refine w_st (fun _ => rfl) ?_
  refine w_st (fun _ => rfl) ?_
  refine f_int 3 rfl rfl ?_
  refine f_add rfl ?_
  refine f_scr rfl (by omega) hl ?_
  refine k_VK (as := [iv (sI xs (wr (i + 1))), iv (sI xs (wr (i + 2))), iv (sI xs (wr (i + 3)))]) rfl (mg_law _) rfl rfl (by decide) rfl rfl (lw_154 L.1.1 S tb0  (sI_rg _ _) (sI_rg _ _) (sI_rg _ _)) (fun m1 v1 r_v1 h1 => ?_)
  refine w_st (fun _ => rfl) ?_
  refine w_st (fun _ => rfl) ?_
  refine w_st (fun _ => rfl) ?_
  refine w_st (fun _ => rfl) ?_
  refine f_int 1 rfl rfl ?_
  refine f_add rfl ?_
  refine f_scr rfl (by omega) hl ?_
  refine w_st (fun _ => rfl) ?_
  refine w_st (fun _ => rfl) ?_
  refine f_int 2 rfl rfl ?_
  refine f_add rfl ?_
  refine f_scr rfl (by omega) hl ?_
  refine w_st (fun _ => rfl) ?_
  refine w_st (fun _ => rfl) ?_
  refine f_int 3 rfl rfl ?_
  refine f_add rfl ?_
  refine f_scr rfl (by omega) hl ?_
  refine k_VK (as := [iv (sI xs (wr (i + 1))), iv (sI xs (wr (i + 2))), iv (sI xs (wr (i + 3)))]) rfl (mg_law _) rfl rfl (by decide) rfl rfl (lw_283 h1.1 h1.2.2.1 (oA_of S) h1.2.1.2  (sI_rg _ _) (sI_rg _ _) (sI_rg _ _)) (fun m2 v2 r_v2 h2 => ?_)
  have L0 := L.1
  have g1 := h1.2.1.1
  have g2 := And.intro h2.1 h2.2.1.1
  refine w_st (fun _ => rfl) ?_
  refine w_st (fun _ => rfl) ?_
  exact K m2 ⟨lw_kk L0 g1 g2, as_look S h1.2.2.2 h2.2.2.2 h2.2.2.1, h2.2.1.2⟩
set_option maxRecDepth 20000 in
theorem cs_33 {xs : List Int32} {i : Int} {m : Mm} (r_i : rg i) (hi : 0 ≤ i ∧ i + 6 ≤ xs.length) (hl : xs.length ≤ 3072) (L : LZ m) (K : ∀ m2, LZ m2 → mm_W 60 (mc_law xs) 1386 [some (.ref 1400), some (.ref 0), some (.ref 284), some (iv i)] [] (fm m2) lq) : mm_W 60 (mc_law xs) 1317 [some (.ref 1400), some (.ref 0), some (.ref 284), some (iv i)] [] (fm m) lq := by
  have w1 : wr (i + 1) = i + 1 := wr_id (by omega) (by omega)
  have w2 : wr (i + 2) = i + 2 := wr_id (by omega) (by omega)
  have w3 : wr (i + 3) = i + 3 := wr_id (by omega) (by omega)
  have w4 : wr (i + 4) = i + 4 := wr_id (by omega) (by omega)
  have w5 : wr (i + 5) = i + 5 := wr_id (by omega) (by omega)
  obtain ⟨⟨A, S⟩, tb0⟩ := id L.2
  refine w_st (fun _ => rfl) ?_
  refine w_st (fun _ => rfl) ?_
  refine w_st (fun _ => rfl) ?_
  refine f_int 1 rfl rfl ?_
  refine f_add rfl ?_
  refine f_scr rfl (by omega) hl ?_
  refine k_VK (as := [iv (sI xs (wr (i + 1)))]) rfl (mg_law _) rfl rfl (by decide) rfl rfl (lw_155 L.1.1 S tb0  (sI_rg _ _)) (fun m1 v1 r_v1 h1 => ?_)
  refine w_st (fun _ => rfl) ?_
  refine w_st (fun _ => rfl) ?_
  refine w_st (fun _ => rfl) ?_
  refine w_st (fun _ => rfl) ?_
  refine f_int 1 rfl rfl ?_
  refine f_add rfl ?_
  refine f_scr rfl (by omega) hl ?_
  refine k_VK (as := [iv (sI xs (wr (i + 1)))]) rfl (mg_law _) rfl rfl (by decide) rfl rfl (lw_284 h1.1 h1.2.2.1 (oA_of S) h1.2.1.2  (sI_rg _ _)) (fun m2 v2 r_v2 h2 => ?_)
  have L0 := L.1
  have g1 := h1.2.1.1
  have g2 := And.intro h2.1 h2.2.1.1
  refine w_st (fun _ => rfl) ?_
  refine w_st (fun _ => rfl) ?_
  exact K m2 ⟨lw_ho L0 g1 g2, as_hold S h1.2.2.2.1 h2.2.2.2.1 h2.2.2.1, h2.2.1.2⟩
set_option maxRecDepth 20000 in
theorem cs_34 {xs : List Int32} {i : Int} {m : Mm} (r_i : rg i) (hi : 0 ≤ i ∧ i + 6 ≤ xs.length) (hl : xs.length ≤ 3072) (L : LZ m) (K : ∀ m2, LZ m2 → mm_W 60 (mc_law xs) 1386 [some (.ref 1400), some (.ref 0), some (.ref 284), some (iv i)] [] (fm m2) lq) : mm_W 60 (mc_law xs) 1340 [some (.ref 1400), some (.ref 0), some (.ref 284), some (iv i)] [] (fm m) lq := by
  have w1 : wr (i + 1) = i + 1 := wr_id (by omega) (by omega)
  have w2 : wr (i + 2) = i + 2 := wr_id (by omega) (by omega)
  have w3 : wr (i + 3) = i + 3 := wr_id (by omega) (by omega)
  have w4 : wr (i + 4) = i + 4 := wr_id (by omega) (by omega)
  have w5 : wr (i + 5) = i + 5 := wr_id (by omega) (by omega)
  obtain ⟨⟨A, S⟩, tb0⟩ := id L.2
  refine w_st (fun _ => rfl) ?_
  refine w_st (fun _ => rfl) ?_
  refine w_st (fun _ => rfl) ?_
  refine f_int 1 rfl rfl ?_
  refine f_add rfl ?_
  refine f_scr rfl (by omega) hl ?_
  refine k_VK (as := [iv (sI xs (wr (i + 1)))]) rfl (mg_law _) rfl rfl (by decide) rfl rfl (lw_156 L.1.1 S tb0  (sI_rg _ _)) (fun m1 v1 r_v1 h1 => ?_)
  refine w_st (fun _ => rfl) ?_
  refine w_st (fun _ => rfl) ?_
  refine w_st (fun _ => rfl) ?_
  refine w_st (fun _ => rfl) ?_
  refine f_int 1 rfl rfl ?_
  refine f_add rfl ?_
  refine f_scr rfl (by omega) hl ?_
  refine k_VK (as := [iv (sI xs (wr (i + 1)))]) rfl (mg_law _) rfl rfl (by decide) rfl rfl (lw_285 h1.1 h1.2.2.1 (oA_of S) h1.2.1.2  (sI_rg _ _)) (fun m2 v2 r_v2 h2 => ?_)
  have L0 := L.1
  have g1 := h1.2.1.1
  have g2 := And.intro h2.1 h2.2.1.1
  refine w_st (fun _ => rfl) ?_
  refine w_st (fun _ => rfl) ?_
  exact K m2 ⟨lw_kk L0 g1.1 ⟨g2.1, g2.2.1⟩, as_rest S h1.2.2.2 h2.2.2.2 h2.2.2.1 (re_q L0 g1.2 g2.2.2 g1.1.2.2.2.2.2.1), h2.2.1.2⟩
set_option maxRecDepth 20000 in
theorem cs_35 {xs : List Int32} {i : Int} {m : Mm} (r_i : rg i) (hi : 0 ≤ i ∧ i + 6 ≤ xs.length) (hl : xs.length ≤ 3072) (L : LZ m) (K : ∀ m2, LZ m2 → mm_W 60 (mc_law xs) 1386 [some (.ref 1400), some (.ref 0), some (.ref 284), some (iv i)] [] (fm m2) lq) : mm_W 60 (mc_law xs) 1363 [some (.ref 1400), some (.ref 0), some (.ref 284), some (iv i)] [] (fm m) lq := by
  have w1 : wr (i + 1) = i + 1 := wr_id (by omega) (by omega)
  have w2 : wr (i + 2) = i + 2 := wr_id (by omega) (by omega)
  have w3 : wr (i + 3) = i + 3 := wr_id (by omega) (by omega)
  have w4 : wr (i + 4) = i + 4 := wr_id (by omega) (by omega)
  have w5 : wr (i + 5) = i + 5 := wr_id (by omega) (by omega)
  obtain ⟨⟨A, S⟩, tb0⟩ := id L.2
  refine w_st (fun _ => rfl) ?_
  refine w_st (fun _ => rfl) ?_
  refine w_st (fun _ => rfl) ?_
  refine f_int 1 rfl rfl ?_
  refine f_add rfl ?_
  refine f_scr rfl (by omega) hl ?_
  refine k_VK (as := [iv (sI xs (wr (i + 1)))]) rfl (mg_law _) rfl rfl (by decide) rfl rfl (lw_157 L.1.1 S tb0  (sI_rg _ _)) (fun m1 v1 r_v1 h1 => ?_)
  refine w_st (fun _ => rfl) ?_
  refine w_st (fun _ => rfl) ?_
  refine w_st (fun _ => rfl) ?_
  refine w_st (fun _ => rfl) ?_
  refine f_int 1 rfl rfl ?_
  refine f_add rfl ?_
  refine f_scr rfl (by omega) hl ?_
  refine k_VK (as := [iv (sI xs (wr (i + 1)))]) rfl (mg_law _) rfl rfl (by decide) rfl rfl (lw_287 h1.1 h1.2.2.1 (oA_of S) h1.2.1.2  (sI_rg _ _)) (fun m2 v2 r_v2 h2 => ?_)
  have L0 := L.1
  have g1 := h1.2.1.1
  have g2 := And.intro h2.1 h2.2.1.1
  refine w_st (fun _ => rfl) ?_
  refine w_st (fun _ => rfl) ?_
  exact K m2 ⟨lw_kk L0 g1 g2, as_look S h1.2.2.2 h2.2.2.2 h2.2.2.1, h2.2.1.2⟩
