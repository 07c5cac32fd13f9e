/-- a law's own rows -/
def sL (a i j : Nat) : Bool := Nat.beq i (a + 2) || Nat.beq i (a + 3) || (Nat.beq i a && Nat.beq j 4)
theorem lw_l {a : Nat} (h : isLw a) : 11 ≤ a ∧ a ≤ 20 := by unfold isLw at h; omega
theorem sL_w {a i j : Nat} (h : i = a + 2 ∨ i = a + 3) : sL a i j = true := by
  unfold sL
  rcases h with rfl | rfl <;> simp
theorem sL_4 {a : Nat} : sL a a 4 = true := by unfold sL; simp
theorem sL_in {a i j : Nat} (h : sL a i j = true) : i = a + 2 ∨ i = a + 3 ∨ (i = a ∧ j = 4) := by
  unfold sL at h
  rw [Bool.or_eq_true, Bool.or_eq_true, Bool.and_eq_true] at h
  rcases h with (h | h) | h
  · exact Or.inl (nb_eq h)
  · exact Or.inr (Or.inl (nb_eq h))
  · exact Or.inr (Or.inr ⟨nb_eq h.1, nb_eq h.2⟩)
theorem lwOk_pu {m m2 : Mm} {a : Nat} {x1 x2 : Int} (h : lwOk m a) (p0 : 0 ≤ x1 ∧ x1 ≤ 7) (p1 : 0 ≤ x2 ∧ x2 ≤ 9999) (p2 : x1 = 1 → x2 ≤ 8) (_hl : 11 ≤ a ∧ a ≤ 20) (e : rd m2 a 4 = rd m a 4 + 1) (e2 : ∀ j, rd m2 (a + 2) j = rd (wt m (a + 2) (Int.toNat (rd m a 4)) (wr (wr (x2 * 8) + x1))) (a + 2) j) : lwOk m2 a := by
  intro j hj
  rw [e2, rd_wt]
  split
  · next q =>
    rw [wr_id (x := x2 * 8) (by omega) (by omega), wr_id (x := x2 * 8 + x1) (by omega) (by omega), wr_id (by omega) (by omega)]
    intro hm
    have := p2 (by omega)
    omega
  · next q => exact h j (by omega)
theorem lwOk_jp {m m2 : Mm} {a : Nat} {x1 : Int} (h : lwOk m a) (hl : 11 ≤ a ∧ a ≤ 20) (hs : 0 ≤ rd m a 4 ∧ rd m a 4 ≤ 420) (e : m2 = wt m (a + 2) (Int.toNat x1) (wr (wr (rd m a 4 * 8) + 3))) : lwOk m2 a := by
  intro j hj
  have e4 : rd m2 a 4 = rd m a 4 := by rw [e, rd_wt, if_neg (by omega)]
  rw [e, rd_wt]
  split
  · rw [wr_id (x := rd m a 4 * 8) (by omega) (by omega), wr_id (x := rd m a 4 * 8 + 3) (by omega) (by omega), wr_id (by omega) (by omega)]
    intro hm
    omega
  · exact h j (by omega)
/-- what take, fail write -/
def sTk (i j : Nat) : Bool := Nat.beq i 19 && (Nat.beq j 0 || Nat.beq j 4 || Nat.beq j 5 || Nat.beq j 6 || Nat.beq j 7)
theorem in_sTk_sTk (i j : Nat) (h : sTk i j = true) : sTk i j = true := h
/-- a token that is an INT has its value in range -/
def tkOk (m : Mm) : Prop := ∀ i : Nat, i ≤ 400 → rd m 2 i = 22 → 0 ≤ ld m 4 i ∧ ld m 4 i ≤ 9999
-- TippedCrates$Laws.begin(I)V
set_option maxRecDepth 20000 in
theorem ct_14 {m : Mm} {a : Nat} {x1 : Int}  (T_m : Ty m) (h_a : isLw a) (r_x1 : rg x1) (p0 : 0 ≤ x1 ∧ x1 ≤ 3) (p1 : lwOk m a) : CV 1 14 [.ref a, iv x1] m (fun m2 => GX (sL a) m m2 ∧ (lwOk m2 a)) := by
  refine br_14 h_a r_x1 ?_
  unfold P_14
  have g_m : GX (sL a) m m := ⟨T_m, fun _ _ _ => rfl, fun _ _ => rfl⟩
  have ts := ty_lw4 T_m h_a
  have hl := lw_l h_a
  refine ⟨⟨by omega, by omega⟩, ?_⟩
  intro m9 e_m9
  have g_m9 : GX (sL a) m m9 := by rw [e_m9]; exact GX.wt g_m (tw_lwr3 T_m h_a ⟨by omega, by omega⟩) (sL_w (by omega))
  exact ⟨g_m9, by exact lwOk_fr p1 (by rw [e_m9, rd_wt, if_neg (by omega)]) (fun j => by rw [e_m9, rd_wt, if_neg (by omega)])⟩
-- TippedCrates$Laws.write(II)I
set_option maxRecDepth 20000 in
theorem ct_15 {m : Mm} {a : Nat} {x1 : Int} {x2 : Int}  (T_m : Ty m) (h_a : isLw a) (r_x1 : rg x1) (r_x2 : rg x2) (p0 : 0 ≤ x1 ∧ x1 ≤ 7) (p1 : 0 ≤ x2 ∧ x2 ≤ 9999) (p2 : x1 = 1 → x2 ≤ 8) (p3 : lwOk m a) : CK 1 15 [.ref a, iv x1, iv x2] m (fun m2 v => GX (sL a) m m2 ∧ (lwOk m2 a ∧ -1 ≤ v ∧ v ≤ 419)) := by
  refine br_15 h_a r_x1 r_x2 ?_
  unfold P_15
  have g_m : GX (sL a) m m := ⟨T_m, fun _ _ _ => rfl, fun _ _ => rfl⟩
  have ts := ty_lw4 T_m h_a
  have hl := lw_l h_a
  refine ⟨fun hq => ?_, fun hq => ?_⟩
  · skip
    refine ⟨⟨by omega, by omega⟩, ?_⟩
    try have w2 : wr (x2 * 8) = x2 * 8 := wr_id (by omega) (by omega)
    try have w3 : wr ((wr (x2 * 8)) + x1) = (wr (x2 * 8)) + x1 := wr_id (by omega) (by omega)
    intro m26 e_m26
    have g_m26 : GX (sL a) m m26 := by rw [e_m26]; exact GX.wt g_m (tw_lwr2 T_m h_a ⟨by omega, by omega⟩) (sL_w (by omega))
    have s26 : rd m26 a 4 = rd m a 4 := by rw [e_m26, rd_wt, if_neg (by omega)]
    try have w5 : wr ((rd m26 a 4) + 1) = (rd m26 a 4) + 1 := wr_id (by omega) (by omega)
    intro m34 e_m34
    have g_m34 : GX (sL a) m m34 := by rw [e_m34]; exact GX.wt g_m26 (tw_lw4 g_m26.1 h_a ⟨by omega, by omega⟩) sL_4
    have s34 : rd m34 a 4 = rd m a 4 + 1 := by rw [e_m34, rd_wt, if_pos ⟨rfl, rfl⟩, s26, wr_i (wr_rg _), wr_id (by omega) (by omega)]
    try have w7 : wr ((rd m34 a 4) - 1) = (rd m34 a 4) - 1 := wr_id (by omega) (by omega)
    exact ⟨g_m34, by first | exact ⟨p3, by omega, by omega⟩ | exact ⟨lwOk_pu p3 p0 p1 p2 hl s34 (fun j => by rw [e_m34, rd_wt, if_neg (by omega), e_m26]), by omega, by omega⟩⟩
  · skip
    exact ⟨g_m, by first | exact ⟨p3, by omega, by omega⟩ | exact ⟨lwOk_pu p3 p0 p1 p2 hl s34 (fun j => by rw [e_m34, rd_wt, if_neg (by omega), e_m26]), by omega, by omega⟩⟩
-- TippedCrates$Laws.leadHere(I)V
set_option maxRecDepth 20000 in
theorem ct_16 {m : Mm} {a : Nat} {x1 : Int}  (T_m : Ty m) (h_a : isLw a) (r_x1 : rg x1) (p0 : -1 ≤ x1 ∧ x1 ≤ 419) (p1 : lwOk m a) : CV 1 16 [.ref a, iv x1] m (fun m2 => GX (sL a) m m2 ∧ (lwOk m2 a)) := by
  refine br_16 h_a r_x1 ?_
  unfold P_16
  have g_m : GX (sL a) m m := ⟨T_m, fun _ _ _ => rfl, fun _ _ => rfl⟩
  have ts := ty_lw4 T_m h_a
  have hl := lw_l h_a
  refine ⟨fun m_20 => GX (sL a) m m_20 ∧ (lwOk m_20 a), ?_, ?_⟩
  · skip
    refine ⟨fun hq => ?_, fun hq => ?_⟩
    · skip
      exact ⟨g_m, by first | exact p1 | exact lwOk_jp p1 hl (by omega) e_m19⟩
    · skip
      refine ⟨⟨by omega, by omega⟩, ?_⟩
      try have w2 : wr ((rd m a 4) * 8) = (rd m a 4) * 8 := wr_id (by omega) (by omega)
      try have w3 : wr ((wr ((rd m a 4) * 8)) + 3) = (wr ((rd m a 4) * 8)) + 3 := wr_id (by omega) (by omega)
      intro m19 e_m19
      have g_m19 : GX (sL a) m m19 := by rw [e_m19]; exact GX.wt g_m (tw_lwr2 T_m h_a ⟨by omega, by omega⟩) (sL_w (by omega))
      exact ⟨g_m19, by first | exact p1 | exact lwOk_jp p1 hl (by omega) e_m19⟩
  · intro m_20  hR_20
    obtain ⟨g_m_20, hR_20⟩ := hR_20
    exact ⟨g_m_20, by exact hR_20⟩
-- TippedCrates$Laws.clear()V
set_option maxRecDepth 20000 in
theorem ct_13 {m : Mm} {a : Nat}  (T_m : Ty m) (h_a : isLw a)  : CV 2 13 [.ref a] m (fun m2 => GX (sL a) m m2 ∧ (lwOk m2 a)) := by
  refine br_13 h_a ?_
  unfold P_13
  have g_m : GX (sL a) m m := ⟨T_m, fun _ _ _ => rfl, fun _ _ => rfl⟩
  have hl := lw_l h_a
  intro m2 e_m2
  have g_m2 : GX (sL a) m m2 := by rw [e_m2]; exact GX.wt g_m (tw_lw4 T_m h_a ⟨by omega, by omega⟩) sL_4
  have l2 : lwOk m2 a := by
    intro j hj
    rw [e_m2, rd_wt, if_pos ⟨rfl, rfl⟩, wr_id (by omega) (by omega)] at hj
    omega
  refine ⟨fun x1_7 m_7 => GX (sL a) m m_7 ∧ ((0 ≤ x1_7 ∧ x1_7 ≤ 4) ∧ lwOk m_7 a), fun x1_7 m_7 => Int.toNat (4 - x1_7), ?_, ?_⟩
  · exact ⟨g_m2, by exact ⟨by omega, l2⟩⟩
  · intro x1_7 m_7 r_x1_7 hI_7
    obtain ⟨g_m_7, hI_7⟩ := hI_7
    refine ⟨fun hq => ?_, fun hq => ?_⟩
    · skip
      exact ⟨g_m_7, by exact hI_7.2⟩
    · skip
      refine CV.mono (ct_14   g_m_7.1 h_a r_x1_7 (by omega) hI_7.2) (by decide) ?_
      rintro m14 ⟨hx_m14, h_m14⟩
      have g_m14 : GX (sL a) m m14 := gx_in g_m_7 hx_m14 (fun _ _ h => h)
      refine ⟨fun s2_33 => (s2_33 = 0 ∨ s2_33 = 1), ?_, ?_⟩
      · skip
        refine ⟨True, ?_, ?_⟩
        · skip
          refine ⟨fun hq => ?_, fun hq => ?_⟩
          · skip
            (first | trivial | omega | (refine ⟨?_, ?_⟩ <;> omega))
          · skip
            refine ⟨fun hq => ?_, fun hq => ?_⟩
            · skip
              (first | trivial | omega | (refine ⟨?_, ?_⟩ <;> omega))
            · skip
              (first | trivial | omega | (refine ⟨?_, ?_⟩ <;> omega))
        · intro   hR_28
          (first | trivial | omega | (refine ⟨?_, ?_⟩ <;> omega))
      · intro s2_33 r_s2_33 hR_33
        refine CK.mono (ct_15   g_m14.1 h_a (by unfold rg; decide) r_s2_33 (by omega) (by omega) (by omega) h_m14) (by decide) ?_
        rintro m33 v33 r_v33 ⟨hx_m33, h_m33⟩
        have g_m33 : GX (sL a) m m33 := gx_in g_m14 hx_m33 (fun _ _ h => h)
        refine CK.mono (ct_15   g_m33.1 h_a (by unfold rg; decide) (by unfold rg; decide) (by omega) (by omega) (by omega) h_m33.1) (by decide) ?_
        rintro m40 v40 r_v40 ⟨hx_m40, h_m40⟩
        have g_m40 : GX (sL a) m m40 := gx_in g_m33 hx_m40 (fun _ _ h => h)
        try have w1 : wr (x1_7 + 1) = x1_7 + 1 := wr_id (by omega) (by omega)
        intro z1_44 e_z1_44
        have r_z1_44 : rg z1_44 := by rw [e_z1_44]; exact wr_rg _
        exact ⟨⟨g_m40, by exact ⟨by omega, h_m40.1⟩⟩, by (try dsimp only); omega⟩
-- TippedCrates$Reader.kind()I
set_option maxRecDepth 20000 in
theorem ct_36 {m : Mm}   (T_m : Ty m)   : CK 1 36 [.ref 19] m (fun m2 v => m2 = m ∧ (v = rd m 2 (Int.toNat (rd m 19 4)))) := by
  refine br_36  ?_
  unfold P_36
  have t1 := ty_19_4 T_m
  refine ⟨⟨by omega, by omega⟩, ?_⟩
  exact ⟨rfl, by rfl⟩
-- TippedCrates$Reader.isEither(II)Z
set_option maxRecDepth 20000 in
theorem ct_50 {m : Mm} {x1 : Int} {x2 : Int}  (T_m : Ty m) (r_x1 : rg x1) (r_x2 : rg x2)  : CK 1 50 [.ref 19, iv x1, iv x2] m (fun m2 v => m2 = m ∧ (v = 0 ∨ v = 1)) := by
  refine br_50 r_x1 r_x2 ?_
  unfold P_50
  have t1 := ty_19_4 T_m
  refine ⟨⟨by omega, by omega⟩, ?_⟩
  refine ⟨fun s0_37 => (s0_37 = 0 ∨ s0_37 = 1), ?_, ?_⟩
  · skip
    refine ⟨True, ?_, ?_⟩
    · skip
      refine ⟨fun hq => ?_, fun hq => ?_⟩
      · skip
        (first | trivial | omega | (refine ⟨?_, ?_⟩ <;> omega))
      · skip
        refine ⟨⟨by omega, by omega⟩, ?_⟩
        refine ⟨fun hq => ?_, fun hq => ?_⟩
        · skip
          (first | trivial | omega | (refine ⟨?_, ?_⟩ <;> omega))
        · skip
          (first | trivial | omega | (refine ⟨?_, ?_⟩ <;> omega))
    · intro   hR_32
      (first | trivial | omega | (refine ⟨?_, ?_⟩ <;> omega))
  · intro s0_37 r_s0_37 hR_37
    exact ⟨by omega, ⟨rfl, by first | trivial | omega | (refine ⟨?_, ?_⟩ <;> omega)⟩⟩
-- TippedCrates$Reader.fail(I)V
set_option maxRecDepth 20000 in
theorem ct_37 {m : Mm} {x1 : Int}  (T_m : Ty m) (r_x1 : rg x1) (p0 : 1 ≤ x1 ∧ x1 ≤ 6) : CV 1 37 [.ref 19, iv x1] m (fun m2 => GX sTk m m2 ∧ (((rd m 19 5 = 0 ∧ rd m2 19 5 = x1 ∧ rd m2 19 0 = rd m 3 (Int.toNat (rd m 19 4))) ∨ (¬ rd m 19 5 = 0 ∧ rd m2 19 5 = rd m 19 5 ∧ rd m2 19 0 = rd m 19 0)) ∧ rd m2 19 4 = rd m 19 4 ∧ rd m2 19 6 = rd m 19 6 ∧ rd m2 19 7 = rd m 19 7)) := by
  refine br_37 r_x1 ?_
  unfold P_37
  have g_m : GX sTk m m := ⟨T_m, fun _ _ _ => rfl, fun _ _ => rfl⟩
  refine ⟨fun m_28 => GX sTk m m_28 ∧ (((rd m 19 5 = 0 ∧ rd m_28 19 5 = x1 ∧ rd m_28 19 0 = rd m 3 (Int.toNat (rd m 19 4))) ∨ (¬ rd m 19 5 = 0 ∧ rd m_28 19 5 = rd m 19 5 ∧ rd m_28 19 0 = rd m 19 0)) ∧ rd m_28 19 4 = rd m 19 4 ∧ rd m_28 19 6 = rd m 19 6 ∧ rd m_28 19 7 = rd m 19 7), ?_, ?_⟩
  · skip
    refine ⟨fun hq => ?_, fun hq => ?_⟩
    · skip
      exact ⟨g_m, by first | exact ⟨Or.inl ⟨hq, q5, q0⟩, q4, q6, q7⟩ | exact ⟨Or.inr ⟨hq, rfl, rfl⟩, rfl, rfl, rfl⟩⟩
    · skip
      intro m9 e_m9
      have g_m9 : GX sTk m m9 := by rw [e_m9]; exact GX.wt g_m (tw_19_5 T_m (by first | assumption | omega)) (Eq.refl true)
      have k9 : rd m9 19 4 = rd m 19 4 := by rw [e_m9, rd_wt, if_neg (by omega)]
      have t2 := ty_19_4 g_m9.1
      refine ⟨⟨by omega, by omega⟩, ?_⟩
      intro m25 e_m25
      have g_m25 : GX sTk m m25 := by rw [e_m25]; exact GX.wt g_m9 (tw_19_0 g_m9.1 (rd_rg _ _ _)) (Eq.refl true)
      have q5 : rd m25 19 5 = x1 := by rw [e_m25, rd_wt, if_neg (by omega), e_m9, rd_wt, if_pos ⟨rfl, rfl⟩, wr_id (by omega) (by omega)]
      have q0 : rd m25 19 0 = rd m 3 (Int.toNat (rd m 19 4)) := by rw [e_m25, rd_wt, if_pos ⟨rfl, rfl⟩, wr_i (rd_rg _ _ _), k9, e_m9, rd_wt, if_neg (by omega)]
      have q4 : rd m25 19 4 = rd m 19 4 := by rw [e_m25, rd_wt, if_neg (by omega), e_m9, rd_wt, if_neg (by omega)]
      have q6 : rd m25 19 6 = rd m 19 6 := by rw [e_m25, rd_wt, if_neg (by omega), e_m9, rd_wt, if_neg (by omega)]
      have q7 : rd m25 19 7 = rd m 19 7 := by rw [e_m25, rd_wt, if_neg (by omega), e_m9, rd_wt, if_neg (by omega)]
      exact ⟨g_m25, by first | exact ⟨Or.inl ⟨hq, q5, q0⟩, q4, q6, q7⟩ | exact ⟨Or.inr ⟨hq, rfl, rfl⟩, rfl, rfl, rfl⟩⟩
  · intro m_28  hR_28
    obtain ⟨g_m_28, hR_28⟩ := hR_28
    exact ⟨g_m_28, by exact hR_28⟩
-- TippedCrates$Reader.failLater(II)V
set_option maxRecDepth 20000 in
theorem ct_38 {m : Mm} {x1 : Int} {x2 : Int}  (T_m : Ty m) (r_x1 : rg x1) (r_x2 : rg x2)  : CV 1 38 [.ref 19, iv x1, iv x2] m (fun m2 => GX sTk m m2 ∧ (((rd m 19 6 = 0 ∧ rd m2 19 6 = x1 ∧ rd m2 19 7 = x2) ∨ (¬ rd m 19 6 = 0 ∧ rd m2 19 6 = rd m 19 6 ∧ rd m2 19 7 = rd m 19 7)) ∧ rd m2 19 0 = rd m 19 0 ∧ rd m2 19 4 = rd m 19 4 ∧ rd m2 19 5 = rd m 19 5)) := by
  refine br_38 r_x1 r_x2 ?_
  unfold P_38
  have g_m : GX sTk m m := ⟨T_m, fun _ _ _ => rfl, fun _ _ => rfl⟩
  refine ⟨fun m_17 => GX sTk m m_17 ∧ (((rd m 19 6 = 0 ∧ rd m_17 19 6 = x1 ∧ rd m_17 19 7 = x2) ∨ (¬ rd m 19 6 = 0 ∧ rd m_17 19 6 = rd m 19 6 ∧ rd m_17 19 7 = rd m 19 7)) ∧ rd m_17 19 0 = rd m 19 0 ∧ rd m_17 19 4 = rd m 19 4 ∧ rd m_17 19 5 = rd m 19 5), ?_, ?_⟩
  · skip
    refine ⟨fun hq => ?_, fun hq => ?_⟩
    · skip
      exact ⟨g_m, by first | exact ⟨Or.inl ⟨hq, q6, q7⟩, q0, q4, q5⟩ | exact ⟨Or.inr ⟨hq, rfl, rfl⟩, rfl, rfl, rfl⟩⟩
    · skip
      intro m9 e_m9
      have g_m9 : GX sTk m m9 := by rw [e_m9]; exact GX.wt g_m (tw_19_6 T_m (by first | assumption | omega)) (Eq.refl true)
      intro m14 e_m14
      have g_m14 : GX sTk m m14 := by rw [e_m14]; exact GX.wt g_m9 (tw_19_7 g_m9.1 (by first | assumption | omega)) (Eq.refl true)
      have q6 : rd m14 19 6 = x1 := by rw [e_m14, rd_wt, if_neg (by omega), e_m9, rd_wt, if_pos ⟨rfl, rfl⟩, wr_i r_x1]
      have q7 : rd m14 19 7 = x2 := by rw [e_m14, rd_wt, if_pos ⟨rfl, rfl⟩, wr_i r_x2]
      have q0 : rd m14 19 0 = rd m 19 0 := by rw [e_m14, rd_wt, if_neg (by omega), e_m9, rd_wt, if_neg (by omega)]
      have q4 : rd m14 19 4 = rd m 19 4 := by rw [e_m14, rd_wt, if_neg (by omega), e_m9, rd_wt, if_neg (by omega)]
      have q5 : rd m14 19 5 = rd m 19 5 := by rw [e_m14, rd_wt, if_neg (by omega), e_m9, rd_wt, if_neg (by omega)]
      exact ⟨g_m14, by first | exact ⟨Or.inl ⟨hq, q6, q7⟩, q0, q4, q5⟩ | exact ⟨Or.inr ⟨hq, rfl, rfl⟩, rfl, rfl, rfl⟩⟩
  · intro m_17  hR_17
    obtain ⟨g_m_17, hR_17⟩ := hR_17
    exact ⟨g_m_17, by exact hR_17⟩
-- TippedCrates$Reader.take(I)Z
set_option maxRecDepth 20000 in
theorem ct_39 {m : Mm} {x1 : Int}  (T_m : Ty m) (r_x1 : rg x1)  : CK 1 39 [.ref 19, iv x1] m (fun m2 v => GX sTk m m2 ∧ (((¬ rd m 19 5 = 0 ∧ v = 0 ∧ rd m2 19 5 = rd m 19 5 ∧ rd m2 19 0 = rd m 19 0 ∧ rd m2 19 4 = rd m 19 4) ∨ (rd m 19 5 = 0 ∧ rd m 2 (Int.toNat (rd m 19 4)) = x1 ∧ rd m 19 4 < 400 ∧ v = 1 ∧ rd m2 19 5 = 0 ∧ rd m2 19 0 = rd m 19 0 ∧ rd m2 19 4 = rd m 19 4 + 1) ∨ (rd m 19 5 = 0 ∧ v = 0 ∧ ((rd m 2 (Int.toNat (rd m 19 4)) = x1 ∧ rd m 19 4 = 400 ∧ rd m2 19 5 = 2) ∨ (¬ rd m 2 (Int.toNat (rd m 19 4)) = x1 ∧ rd m2 19 5 = 1)) ∧ rd m2 19 0 = rd m 3 (Int.toNat (rd m 19 4)) ∧ rd m2 19 4 = rd m 19 4)) ∧ rd m2 19 6 = rd m 19 6 ∧ rd m2 19 7 = rd m 19 7)) := by
  refine br_39 r_x1 ?_
  unfold P_39
  have g_m : GX sTk m m := ⟨T_m, fun _ _ _ => rfl, fun _ _ => rfl⟩
  refine ⟨fun hq => ?_, fun hq => ?_⟩
  · skip
    have t2 := ty_19_4 T_m
    refine ⟨⟨by omega, by omega⟩, ?_⟩
    refine ⟨fun s0_30 => (s0_30 = 0 ∧ ¬ rd m 2 (Int.toNat (rd m 19 4)) = x1) ∨ (s0_30 = 1 ∧ rd m 2 (Int.toNat (rd m 19 4)) = x1), ?_, ?_⟩
    · skip
      refine ⟨fun hq => ?_, fun hq => ?_⟩
      · skip
        (first | trivial | omega | (refine ⟨?_, ?_⟩ <;> omega))
      · skip
        (first | trivial | omega | (refine ⟨?_, ?_⟩ <;> omega))
    · intro s0_30 r_s0_30 hR_30
      refine ⟨s0_30 = 0 ∨ 400 ≤ rd m 19 4, ?_, ?_⟩
      · skip
        refine ⟨fun hq => ?_, fun hq => ?_⟩
        · skip
          (first | trivial | omega | (refine ⟨?_, ?_⟩ <;> omega))
        · skip
          refine ⟨fun hq => ?_, fun hq => ?_⟩
          · skip
            (first | trivial | omega | (refine ⟨?_, ?_⟩ <;> omega))
          · skip
            try have w4 : wr ((rd m 19 4) + 1) = (rd m 19 4) + 1 := wr_id (by omega) (by omega)
            intro m52 e_m52
            have g_m52 : GX sTk m m52 := by rw [e_m52]; exact GX.wt g_m (tw_19_4 T_m ⟨by omega, by omega⟩) (Eq.refl true)
            have q4 : rd m52 19 4 = rd m 19 4 + 1 := by rw [e_m52, rd_wt, if_pos ⟨rfl, rfl⟩, wr_id (by omega) (by omega)]; omega
            have q0 : rd m52 19 0 = rd m 19 0 := by rw [e_m52, rd_wt, if_neg (by omega)]
            have q5 : rd m52 19 5 = rd m 19 5 := by rw [e_m52, rd_wt, if_neg (by omega)]
            have q6 : rd m52 19 6 = rd m 19 6 := by rw [e_m52, rd_wt, if_neg (by omega)]
            have q7 : rd m52 19 7 = rd m 19 7 := by rw [e_m52, rd_wt, if_neg (by omega)]
            exact ⟨g_m52, by first | exact ⟨Or.inl ⟨hq, rfl, rfl, rfl, rfl⟩, rfl, rfl⟩ | exact ⟨Or.inr (Or.inl ⟨by omega, by omega, by omega, rfl, by omega, q0, q4⟩), q6, q7⟩ | exact ⟨Or.inr (Or.inr ⟨by omega, rfl, by omega, q0, q4⟩), q6, q7⟩⟩
      · intro   hR_57
        refine ⟨fun s1_67 => (s0_30 = 0 ∧ s1_67 = 1) ∨ (s0_30 = 1 ∧ s1_67 = 2), ?_, ?_⟩
        · skip
          refine ⟨fun hq => ?_, fun hq => ?_⟩
          · skip
            (first | trivial | omega | (refine ⟨?_, ?_⟩ <;> omega))
          · skip
            (first | trivial | omega | (refine ⟨?_, ?_⟩ <;> omega))
        · intro s1_67 r_s1_67 hR_67
          intro m67 e_m67
          have g_m67 : GX sTk m m67 := by rw [e_m67]; exact GX.wt g_m (tw_19_5 T_m (by first | assumption | omega)) (Eq.refl true)
          have k67 : rd m67 19 4 = rd m 19 4 := by rw [e_m67, rd_wt, if_neg (by omega)]
          have t5 := ty_19_4 g_m67.1
          refine ⟨⟨by omega, by omega⟩, ?_⟩
          intro m83 e_m83
          have g_m83 : GX sTk m m83 := by rw [e_m83]; exact GX.wt g_m67 (tw_19_0 g_m67.1 (rd_rg _ _ _)) (Eq.refl true)
          have q5 : rd m83 19 5 = s1_67 := by rw [e_m83, rd_wt, if_neg (by omega), e_m67, rd_wt, if_pos ⟨rfl, rfl⟩, wr_i r_s1_67]
          have q0 : rd m83 19 0 = rd m 3 (Int.toNat (rd m 19 4)) := by rw [e_m83, rd_wt, if_pos ⟨rfl, rfl⟩, wr_i (rd_rg _ _ _), k67, e_m67, rd_wt, if_neg (by omega)]
          have q4 : rd m83 19 4 = rd m 19 4 := by rw [e_m83, rd_wt, if_neg (by omega), e_m67, rd_wt, if_neg (by omega)]
          have q6 : rd m83 19 6 = rd m 19 6 := by rw [e_m83, rd_wt, if_neg (by omega), e_m67, rd_wt, if_neg (by omega)]
          have q7 : rd m83 19 7 = rd m 19 7 := by rw [e_m83, rd_wt, if_neg (by omega), e_m67, rd_wt, if_neg (by omega)]
          exact ⟨g_m83, by first | exact ⟨Or.inl ⟨hq, rfl, rfl, rfl, rfl⟩, rfl, rfl⟩ | exact ⟨Or.inr (Or.inl ⟨by omega, by omega, by omega, rfl, by omega, q0, q4⟩), q6, q7⟩ | exact ⟨Or.inr (Or.inr ⟨by omega, rfl, by omega, q0, q4⟩), q6, q7⟩⟩
  · skip
    exact ⟨g_m, by first | exact ⟨Or.inl ⟨hq, rfl, rfl, rfl, rfl⟩, rfl, rfl⟩ | exact ⟨Or.inr (Or.inl ⟨by omega, by omega, by omega, rfl, by omega, q0, q4⟩), q6, q7⟩ | exact ⟨Or.inr (Or.inr ⟨by omega, rfl, by omega, q0, q4⟩), q6, q7⟩⟩
-- TippedCrates$Reader.takeInt(II)I
set_option maxRecDepth 20000 in
theorem ct_40 {m : Mm} {x1 : Int} {x2 : Int}  (T_m : Ty m) (r_x1 : rg x1) (r_x2 : rg x2) (p0 : 0 ≤ x1 ∧ x1 ≤ 9999) (p1 : tkOk m) : CK 2 40 [.ref 19, iv x1, iv x2] m (fun m2 v => GX sTk m m2 ∧ (0 ≤ v ∧ v ≤ 9999 ∧ (rd m2 19 5 = 0 → rd m 19 5 = 0 ∧ rd m2 19 4 = rd m 19 4 + 1) ∧ (rd m2 19 6 = 0 → rd m 19 6 = 0) ∧ (rd m2 19 5 = 0 → rd m2 19 6 = 0 → x1 ≤ v ∧ v ≤ x2))) := by
  refine br_40 r_x1 r_x2 ?_
  unfold P_40
  have g_m : GX sTk m m := ⟨T_m, fun _ _ _ => rfl, fun _ _ => rfl⟩
  have t1 := ty_19_4 T_m
  refine ⟨⟨by omega, by omega⟩, ?_⟩
  try have w2 : wr (ld m 4 (Int.toNat (rd m 19 4))) = ld m 4 (Int.toNat (rd m 19 4)) := wr_id (by omega) (by omega)
  intro z3_13 e_z3_13
  have r_z3_13 : rg z3_13 := by rw [e_z3_13]; exact (wr_rg _)
  have hv := p1 (Int.toNat (rd m 19 4)) (by omega)
  refine ⟨⟨by omega, by omega⟩, ?_⟩
  intro z4_26 e_z4_26
  have r_z4_26 : rg z4_26 := by rw [e_z4_26]; exact (rd_rg _ _ _)
  refine CK.mono (ct_39   T_m (by unfold rg; decide)) (by decide) ?_
  rintro m31 v31 r_v31 ⟨hx_m31, h_m31⟩
  have g_m31 : GX sTk m m31 := gx_in g_m hx_m31 in_sTk_sTk
  have wv : rd m 2 (Int.toNat (rd m 19 4)) = 22 → z3_13 = ld m 4 (Int.toNat (rd m 19 4)) := fun w => by rw [e_z3_13]; exact wr_id (by have := hv w; omega) (by have := hv w; omega)
  refine ⟨fun hq => ?_, fun hq => ?_⟩
  · skip
    refine CK.mono (ct_166   r_z3_13 r_x1 r_x2) (by decide) ?_
    rintro m42 v42 r_v42 ⟨e_m42, h_m42⟩
    replace e_m42 := e_m42.symm
    subst e_m42
    refine ⟨fun m_55 => GX sTk m m_55 ∧ ((0 ≤ z3_13 ∧ z3_13 ≤ 9999) ∧ (rd m_55 19 5 = 0 → rd m 19 5 = 0 ∧ rd m_55 19 4 = rd m 19 4 + 1) ∧ (rd m_55 19 6 = 0 → rd m 19 6 = 0) ∧ (rd m_55 19 5 = 0 → rd m_55 19 6 = 0 → x1 ≤ z3_13 ∧ z3_13 ≤ x2)), ?_, ?_⟩
    · skip
      refine ⟨fun hq => ?_, fun hq => ?_⟩
      · skip
        exact ⟨g_m31, by omega⟩
      · skip
        refine CV.mono (ct_38   g_m31.1 (by unfold rg; decide) r_z4_26) (by decide) ?_
        rintro m52 ⟨hx_m52, h_m52⟩
        have g_m52 : GX sTk m m52 := gx_in g_m31 hx_m52 in_sTk_sTk
        exact ⟨g_m52, by omega⟩
    · intro m_55  hR_55
      obtain ⟨g_m_55, hR_55⟩ := hR_55
      exact ⟨g_m_55, by omega⟩
  · skip
    exact ⟨g_m31, by omega⟩
