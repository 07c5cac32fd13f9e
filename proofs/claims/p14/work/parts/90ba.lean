def bgP (m m2 : Mm) (a : Nat) (x1 : Int) : Prop := rd m2 a 4 = rd m a 4 ∧ (∀ j : Nat, rd m2 (a + 2) j = rd m (a + 2) j) ∧ rd m2 (a + 3) (Int.toNat x1) = rd m a 4 ∧ ∀ j : Nat, ¬ j = Int.toNat x1 → rd m2 (a + 3) j = rd m (a + 3) j
theorem bg_y {m m2 : Mm} {a : Nat} {x1 : Int} (hl : 11 ≤ a ∧ a ≤ 20) (e : m2 = wt m (a + 3) (Int.toNat x1) (rd m a 4)) (_p : 0 ≤ x1 ∧ x1 ≤ 3) : bgP m m2 a x1 :=
  ⟨by rw [e, rd_wt, if_neg (by omega)], fun j => by rw [e, rd_wt, if_neg (by omega)], by rw [e, rd_wt, if_pos ⟨rfl, rfl⟩, wr_i (rd_rg _ _ _)], fun j q => by rw [e, rd_wt, if_neg (by omega)]⟩
/-- a code is written behind the others, if there is room -/
def wx (m m2 : Mm) (a : Nat) (x1 x2 v : Int) : Prop := (rd m a 4 < 420 → v = rd m a 4 ∧ rd m2 a 4 = rd m a 4 + 1 ∧ rd m2 (a + 2) (Int.toNat (rd m a 4)) = x2 * 8 + x1 ∧ ∀ j : Nat, ¬ j = Int.toNat (rd m a 4) → rd m2 (a + 2) j = rd m (a + 2) j) ∧ ∀ j : Nat, rd m2 (a + 3) j = rd m (a + 3) j
theorem wx_n {m : Mm} {a : Nat} {x1 x2 v : Int} (h : ¬ rd m a 4 < 420) : wx m m a x1 x2 v := ⟨fun q => absurd q h, fun _ => rfl⟩
theorem wx_y {m m26 m34 : Mm} {a : Nat} {x1 x2 : Int} (hl : 11 ≤ a ∧ a ≤ 20) (hs : 0 ≤ rd m a 4 ∧ rd m a 4 ≤ 420) (p0 : 0 ≤ x1 ∧ x1 ≤ 7) (p1 : 0 ≤ x2 ∧ x2 ≤ 9999) (e26 : m26 = wt m (a + 2) (Int.toNat (rd m a 4)) (wr ((wr (x2 * 8)) + x1))) (e34 : m34 = wt m26 a 4 (wr ((rd m26 a 4) + 1))) : wx m m34 a x1 x2 (wr ((rd m34 a 4) - 1)) := by
  have s26 : rd m26 a 4 = rd m a 4 := by rw [e26, rd_wt, if_neg (by omega)]
  have s34 : rd m34 a 4 = rd m a 4 + 1 := by rw [e34, rd_wt, if_pos ⟨rfl, rfl⟩, s26, wr_i (wr_rg _), wr_id (by omega) (by omega)]
  refine ⟨fun _ => ⟨?_, s34, ?_, fun j q => ?_⟩, fun j => ?_⟩
  · rw [s34, wr_id (by omega) (by omega)]; omega
  · rw [e34, rd_wt, if_neg (by omega), e26, rd_wt, if_pos ⟨rfl, rfl⟩, wr_id (x := x2 * 8) (by omega) (by omega), wr_id (x := x2 * 8 + x1) (by omega) (by omega), wr_id (by omega) (by omega)]
  · rw [e34, rd_wt, if_neg (by omega), e26, rd_wt, if_neg (by omega)]
  · rw [e34, rd_wt, if_neg (by omega), e26, rd_wt, if_neg (by omega)]
def ldP (m m2 : Mm) (a : Nat) (x1 : Int) : Prop := rd m2 a 4 = rd m a 4 ∧ (0 ≤ x1 → rd m2 (a + 2) (Int.toNat x1) = rd m a 4 * 8 + 3) ∧ (∀ j : Nat, ¬ (0 ≤ x1 ∧ j = Int.toNat x1) → rd m2 (a + 2) j = rd m (a + 2) j) ∧ ∀ j : Nat, rd m2 (a + 3) j = rd m (a + 3) j
theorem ld_n {m : Mm} {a : Nat} {x1 : Int} (h : ¬ 0 ≤ x1) : ldP m m a x1 := ⟨rfl, fun q => absurd q h, fun _ _ => rfl, fun _ => rfl⟩
theorem ld_y {m m2 : Mm} {a : Nat} {x1 : Int} (hl : 11 ≤ a ∧ a ≤ 20) (_hx : 0 ≤ x1) (hs : 0 ≤ rd m a 4 ∧ rd m a 4 ≤ 420) (e : m2 = wt m (a + 2) (Int.toNat x1) (wr ((wr ((rd m a 4) * 8)) + 3))) : ldP m m2 a x1 :=
  ⟨by rw [e, rd_wt, if_neg (by omega)], fun _ => by rw [e, rd_wt, if_pos ⟨rfl, rfl⟩, wr_id (x := rd m a 4 * 8) (by omega) (by omega), wr_id (x := rd m a 4 * 8 + 3) (by omega) (by omega), wr_id (by omega) (by omega)], fun j q => by rw [e, rd_wt, if_neg (by omega)], fun j => by rw [e, rd_wt, if_neg (by omega)]⟩
/-- the laws that are not told -/
def dfl (k : Int) : Int := if k = 0 ∨ k = 2 then 1 else 0
def clP (m : Mm) (a : Nat) (n : Int) : Prop := rd m a 4 = 2 * n ∧ ∀ k : Int, 0 ≤ k → k < n → rd m (a + 3) (Int.toNat k) = 2 * k ∧ rd m (a + 2) (Int.toNat (2 * k)) = dfl k * 8 ∧ rd m (a + 2) (Int.toNat (2 * k + 1)) = 2
theorem cl_0 {m m2 : Mm} {a : Nat} (e : m2 = wt m a 4 0) : clP m2 a 0 := ⟨by rw [e, rd_wt, if_pos ⟨rfl, rfl⟩, wr_id (by omega) (by omega)]; rfl, fun k h1 h2 => by omega⟩
theorem cl_s {m m14 m33 m40 : Mm} {a : Nat} {n d v w : Int} (h : clP m a n) (hn : 0 ≤ n ∧ n < 4) (b : bgP m m14 a n) (w33 : wx m14 m33 a 0 d v) (w40 : wx m33 m40 a 2 0 w) (hd : d = dfl n) : clP m40 a (n + 1) := by
  obtain ⟨h4, hk⟩ := h
  obtain ⟨b4, b2, b3, bo⟩ := b
  have c := w33.1 (by omega)
  have f := w40.1 (by omega)
  have s14 : rd m14 a 4 = 2 * n := by omega
  have s33 : rd m33 a 4 = 2 * n + 1 := by omega
  refine ⟨by omega, fun k h1 h2 => ?_⟩
  by_cases q : k = n
  · subst q
    refine ⟨?_, ?_, ?_⟩
    · rw [w40.2, w33.2, b3, h4]
    · rw [f.2.2.2 _ (by omega), ← s14, c.2.2.1, hd]; omega
    · rw [← s33, f.2.2.1]; omega
  · have g := hk k h1 (by omega)
    refine ⟨?_, ?_, ?_⟩
    · rw [w40.2, w33.2, bo _ (by omega)]; exact g.1
    · rw [f.2.2.2 _ (by omega), c.2.2.2 _ (by omega), b2]; exact g.2.1
    · rw [f.2.2.2 _ (by omega), c.2.2.2 _ (by omega), b2]; exact g.2.2
theorem clP_e {m : Mm} {a : Nat} {n : Int} (h : clP m a n) (e : n = 4) : clP m a 4 := by rw [← e]; exact h
-- TippedCrates$Laws.begin(I)V
set_option maxRecDepth 20000 in
theorem ex_14 {m : Mm} {a : Nat} {x1 : Int}  (T_m : Ty m) (h_a : isLw a) (r_x1 : rg x1) (p0 : 0 ≤ x1 ∧ x1 ≤ 3) (p1 : lwOk m a) : CV 1 14 [.ref a, iv x1] m (fun m2 => GX (sL a) m m2 ∧ ((lwOk m2 a) ∧ (bgP m m2 a x1))) := by
  refine br_14 h_a r_x1 ?_
  unfold P_14
  have g_m : GX (sL a) m m := ⟨T_m, fun _ _ _ => rfl, fun _ _ => rfl⟩
  have ts := ty_lw4 T_m h_a
  have hl := lw_l h_a
  refine ⟨⟨by omega, by omega⟩, ?_⟩
  intro m9 e_m9
  have g_m9 : GX (sL a) m m9 := by rw [e_m9]; exact GX.wt g_m (tw_lwr3 T_m h_a ⟨by omega, by omega⟩) (sL_w (by omega))
  exact ⟨g_m9, by exact ⟨by exact lwOk_fr p1 (by rw [e_m9, rd_wt, if_neg (by omega)]) (fun j => by rw [e_m9, rd_wt, if_neg (by omega)]), by exact bg_y hl e_m9 p0⟩⟩
-- TippedCrates$Laws.write(II)I
set_option maxRecDepth 20000 in
theorem ex_15 {m : Mm} {a : Nat} {x1 : Int} {x2 : Int}  (T_m : Ty m) (h_a : isLw a) (r_x1 : rg x1) (r_x2 : rg x2) (p0 : 0 ≤ x1 ∧ x1 ≤ 7) (p1 : 0 ≤ x2 ∧ x2 ≤ 9999) (p2 : x1 = 1 → x2 ≤ 8) (p3 : lwOk m a) : CK 1 15 [.ref a, iv x1, iv x2] m (fun m2 v => GX (sL a) m m2 ∧ ((lwOk m2 a ∧ -1 ≤ v ∧ v ≤ 419) ∧ (wx m m2 a x1 x2 v))) := by
  refine br_15 h_a r_x1 r_x2 ?_
  unfold P_15
  have g_m : GX (sL a) m m := ⟨T_m, fun _ _ _ => rfl, fun _ _ => rfl⟩
  have ts := ty_lw4 T_m h_a
  have hl := lw_l h_a
  refine ⟨fun hq => ?_, fun hq => ?_⟩
  · skip
    refine ⟨⟨by omega, by omega⟩, ?_⟩
    try have w2 : wr (x2 * 8) = x2 * 8 := wr_id (by omega) (by omega)
    try have w3 : wr ((wr (x2 * 8)) + x1) = (wr (x2 * 8)) + x1 := wr_id (by omega) (by omega)
    intro m26 e_m26
    have g_m26 : GX (sL a) m m26 := by rw [e_m26]; exact GX.wt g_m (tw_lwr2 T_m h_a ⟨by omega, by omega⟩) (sL_w (by omega))
    have s26 : rd m26 a 4 = rd m a 4 := by rw [e_m26, rd_wt, if_neg (by omega)]
    try have w5 : wr ((rd m26 a 4) + 1) = (rd m26 a 4) + 1 := wr_id (by omega) (by omega)
    intro m34 e_m34
    have g_m34 : GX (sL a) m m34 := by rw [e_m34]; exact GX.wt g_m26 (tw_lw4 g_m26.1 h_a ⟨by omega, by omega⟩) sL_4
    have s34 : rd m34 a 4 = rd m a 4 + 1 := by rw [e_m34, rd_wt, if_pos ⟨rfl, rfl⟩, s26, wr_i (wr_rg _), wr_id (by omega) (by omega)]
    try have w7 : wr ((rd m34 a 4) - 1) = (rd m34 a 4) - 1 := wr_id (by omega) (by omega)
    exact ⟨g_m34, by exact ⟨by first | exact ⟨p3, by omega, by omega⟩ | exact ⟨lwOk_pu p3 p0 p1 p2 hl s34 (fun j => by rw [e_m34, rd_wt, if_neg (by omega), e_m26]), by omega, by omega⟩, by first | exact wx_n (by omega) | exact wx_y hl (by omega) p0 p1 e_m26 e_m34⟩⟩
  · skip
    exact ⟨g_m, by exact ⟨by first | exact ⟨p3, by omega, by omega⟩ | exact ⟨lwOk_pu p3 p0 p1 p2 hl s34 (fun j => by rw [e_m34, rd_wt, if_neg (by omega), e_m26]), by omega, by omega⟩, by first | exact wx_n (by omega) | exact wx_y hl (by omega) p0 p1 e_m26 e_m34⟩⟩
-- TippedCrates$Laws.leadHere(I)V
set_option maxRecDepth 20000 in
theorem ex_16 {m : Mm} {a : Nat} {x1 : Int}  (T_m : Ty m) (h_a : isLw a) (r_x1 : rg x1) (p0 : -1 ≤ x1 ∧ x1 ≤ 419) (p1 : lwOk m a) : CV 1 16 [.ref a, iv x1] m (fun m2 => GX (sL a) m m2 ∧ ((lwOk m2 a) ∧ (ldP m m2 a x1))) := by
  refine br_16 h_a r_x1 ?_
  unfold P_16
  have g_m : GX (sL a) m m := ⟨T_m, fun _ _ _ => rfl, fun _ _ => rfl⟩
  have ts := ty_lw4 T_m h_a
  have hl := lw_l h_a
  refine ⟨fun m_20 => GX (sL a) m m_20 ∧ ((lwOk m_20 a) ∧ (ldP m m_20 a x1)), ?_, ?_⟩
  · skip
    refine ⟨fun hq => ?_, fun hq => ?_⟩
    · skip
      exact ⟨g_m, by exact ⟨by first | exact p1 | exact lwOk_jp p1 hl (by omega) e_m19, by first | exact ld_n (by omega) | exact ld_y hl (by omega) ts e_m19⟩⟩
    · skip
      refine ⟨⟨by omega, by omega⟩, ?_⟩
      try have w2 : wr ((rd m a 4) * 8) = (rd m a 4) * 8 := wr_id (by omega) (by omega)
      try have w3 : wr ((wr ((rd m a 4) * 8)) + 3) = (wr ((rd m a 4) * 8)) + 3 := wr_id (by omega) (by omega)
      intro m19 e_m19
      have g_m19 : GX (sL a) m m19 := by rw [e_m19]; exact GX.wt g_m (tw_lwr2 T_m h_a ⟨by omega, by omega⟩) (sL_w (by omega))
      exact ⟨g_m19, by exact ⟨by first | exact p1 | exact lwOk_jp p1 hl (by omega) e_m19, by first | exact ld_n (by omega) | exact ld_y hl (by omega) ts e_m19⟩⟩
  · intro m_20  hR_20
    obtain ⟨g_m_20, hR_20⟩ := hR_20
    obtain ⟨hR_20, cR_20⟩ := hR_20
    exact ⟨g_m_20, by exact ⟨by exact hR_20, by exact cR_20⟩⟩
-- TippedCrates$Laws.clear()V
set_option maxRecDepth 20000 in
theorem ex_13 {m : Mm} {a : Nat}  (T_m : Ty m) (h_a : isLw a)  : CV 2 13 [.ref a] m (fun m2 => GX (sL a) m m2 ∧ ((lwOk m2 a) ∧ (clP m2 a 4))) := by
  refine br_13 h_a ?_
  unfold P_13
  have g_m : GX (sL a) m m := ⟨T_m, fun _ _ _ => rfl, fun _ _ => rfl⟩
  have hl := lw_l h_a
  intro m2 e_m2
  have g_m2 : GX (sL a) m m2 := by rw [e_m2]; exact GX.wt g_m (tw_lw4 T_m h_a ⟨by omega, by omega⟩) sL_4
  have l2 : lwOk m2 a := by
    intro j hj
    rw [e_m2, rd_wt, if_pos ⟨rfl, rfl⟩, wr_id (by omega) (by omega)] at hj
    omega
  refine ⟨fun x1_7 m_7 => GX (sL a) m m_7 ∧ (((0 ≤ x1_7 ∧ x1_7 ≤ 4) ∧ lwOk m_7 a) ∧ (clP m_7 a x1_7)), fun x1_7 m_7 => Int.toNat (4 - x1_7), ?_, ?_⟩
  · exact ⟨g_m2, by exact ⟨by exact ⟨by omega, l2⟩, by exact cl_0 e_m2⟩⟩
  · intro x1_7 m_7 r_x1_7 hI_7
    obtain ⟨g_m_7, hI_7⟩ := hI_7
    obtain ⟨hI_7, cI_7⟩ := hI_7
    refine ⟨fun hq => ?_, fun hq => ?_⟩
    · skip
      exact ⟨g_m_7, by exact ⟨by exact hI_7.2, by exact clP_e cI_7 (by omega)⟩⟩
    · skip
      refine CV.mono (ex_14   g_m_7.1 h_a r_x1_7 (by omega) hI_7.2) (by decide) ?_
      rintro m14 ⟨hx_m14, h_m14⟩
      have g_m14 : GX (sL a) m m14 := gx_in g_m_7 hx_m14 (fun _ _ h => h)
      obtain ⟨h_m14, b14⟩ := h_m14
      refine ⟨fun s2_33 => s2_33 = dfl x1_7 ∧ 0 ≤ s2_33 ∧ s2_33 ≤ 1, ?_, ?_⟩
      · skip
        refine ⟨x1_7 = 0 ∨ x1_7 = 2, ?_, ?_⟩
        · skip
          refine ⟨fun hq => ?_, fun hq => ?_⟩
          · skip
            (first | trivial | omega | (refine ⟨?_, ?_⟩ <;> omega))
          · skip
            refine ⟨fun hq => ?_, fun hq => ?_⟩
            · skip
              (exact ⟨by unfold dfl; first | rw [if_pos (by omega)] | rw [if_neg (by omega)], by decide, by decide⟩)
            · skip
              (first | trivial | omega | (refine ⟨?_, ?_⟩ <;> omega))
        · intro   hR_28
          (exact ⟨by unfold dfl; first | rw [if_pos (by omega)] | rw [if_neg (by omega)], by decide, by decide⟩)
      · intro s2_33 r_s2_33 hR_33
        refine CK.mono (ex_15   g_m14.1 h_a (by unfold rg; decide) r_s2_33 (by omega) (by omega) (by omega) h_m14) (by decide) ?_
        rintro m33 v33 r_v33 ⟨hx_m33, h_m33⟩
        have g_m33 : GX (sL a) m m33 := gx_in g_m14 hx_m33 (fun _ _ h => h)
        obtain ⟨h_m33, w33⟩ := h_m33
        refine CK.mono (ex_15   g_m33.1 h_a (by unfold rg; decide) (by unfold rg; decide) (by omega) (by omega) (by omega) h_m33.1) (by decide) ?_
        rintro m40 v40 r_v40 ⟨hx_m40, h_m40⟩
        have g_m40 : GX (sL a) m m40 := gx_in g_m33 hx_m40 (fun _ _ h => h)
        obtain ⟨h_m40, w40⟩ := h_m40
        try have w1 : wr (x1_7 + 1) = x1_7 + 1 := wr_id (by omega) (by omega)
        intro z1_44 e_z1_44
        have r_z1_44 : rg z1_44 := by rw [e_z1_44]; exact wr_rg _
        exact ⟨⟨g_m40, by exact ⟨by exact ⟨by omega, h_m40.1⟩, by (rw [e_z1_44, w1]; exact cl_s cI_7 (by omega) b14 w33 w40 hR_33.1)⟩⟩, by (try dsimp only); omega⟩
