/-- one more of each mark that is heard -/
def ntF (n : Nat) (h : Nat → Int) (t : Nat → Nat → Int) : Nat → Nat → Int := fun i y => if i < n ∧ h i = (y : Int) then wr (t i y + 1) else t i y
def ntI (m19 m : Mm) (x : Int) : Prop := (∀ i j : Nat, ¬ i = 54 → rd m i j = rd m19 i j) ∧ ∀ (h : Nat → Int) (n : Nat), rd m19 49 10 = (n : Int) → n ≤ 5 → (∀ i, i < n → rd m19 53 i = h i) → x ≤ (n : Int) ∧ ∀ i y : Nat, i < 5 → y < 10 → rd m 54 (10 * i + y) = ntF (Int.toNat x) h (fun i y => rd m19 54 (10 * i + y)) i y
theorem nt_0 (m : Mm) : ntI m m 0 := ⟨fun _ _ _ => rfl, fun h n hn n5 k => ⟨by omega, fun i y hi hy => by
  unfold ntF
  rw [if_neg (fun w => absurd w.1 (Nat.not_lt_zero i))]⟩⟩
theorem nt_s {m19 m m51 : Mm} {x z : Int} {q : Nat} (d : ntI m19 m x) (h : (0 ≤ x ∧ x < 5) ∧ z = x + 1) (b : 0 ≤ rd m 53 (Int.toNat x) ∧ rd m 53 (Int.toNat x) ≤ 9) (lt : x < rd m 49 10) (eq : q = Int.toNat (x * 10 + rd m 53 (Int.toNat x))) (e : m51 = wt m 54 q (wr (rd m 54 q + 1))) : ntI m19 m51 z := by
  refine ⟨fun i j n => by rw [e, rd_wt, if_neg (fun w => n w.1)]; exact d.1 i j n, fun hh n hn n5 k => ?_⟩
  have e53 := d.1 53 (Int.toNat x) (by decide)
  have e49 := d.1 49 10 (by decide)
  have kx := k (Int.toNat x) (by omega)
  refine ⟨by omega, fun i y hi hy => ?_⟩
  have dd := (d.2 hh n hn n5 k).2 i y hi hy
  rw [e, rd_wt]
  unfold ntF at dd ⊢
  by_cases c : 10 * i + y = q
  · have ei : i = Int.toNat x := by omega
    have ey : hh i = (y : Int) := by
      rw [ei, ← kx, ← e53]
      omega
    rw [if_neg (by omega)] at dd
    rw [if_pos ⟨rfl, c⟩, wr_i (wr_rg _), if_pos ⟨by omega, ey⟩, ← c, dd]
  · rw [if_neg (fun w => c w.2), dd]
    by_cases c2 : i < Int.toNat x ∧ hh i = (y : Int)
    · rw [if_pos c2, if_pos ⟨by omega, c2.2⟩]
    · rw [if_neg c2, if_neg]
      rintro ⟨w1, w2⟩
      by_cases c3 : i < Int.toNat x
      · exact c2 ⟨c3, w2⟩
      · have ei : i = Int.toNat x := by omega
        rw [ei, ← kx, ← e53] at w2
        omega
/-- behind noteRow -/
def ntP (m m2 : Mm) (x1 : Int) : Prop := (∀ i j : Nat, ¬ (i = 49 ∧ (j = 1 ∨ j = 2)) → ¬ i = 54 → rd m2 i j = rd m i j) ∧ rd m2 49 1 = wr (rd m 49 1 + 1) ∧ rd m2 49 2 = (if rd m 49 1 = 0 then x1 else rd m 49 2) ∧ ∀ (h : Nat → Int) (n : Nat), rd m 49 10 = (n : Int) → n ≤ 5 → (∀ i, i < n → rd m 53 i = h i) → ∀ i y : Nat, i < 5 → y < 10 → rd m2 54 (10 * i + y) = ntF n h (fun i y => rd m 54 (10 * i + y)) i y
theorem nt_e {m m12 m19 m24 : Mm} {x1 x : Int} (r : rd m12 49 2 = (if rd m 49 1 = 0 then x1 else rd m 49 2) ∧ ∀ i j : Nat, ¬ (i = 49 ∧ j = 2) → rd m12 i j = rd m i j) (e : m19 = wt m12 49 1 (wr (rd m12 49 1 + 1))) (d : ntI m19 m24 x) (hx : rd m24 49 10 ≤ x) : ntP m m24 x1 := by
  have F : ∀ i j : Nat, ¬ (i = 49 ∧ (j = 1 ∨ j = 2)) → rd m19 i j = rd m i j := fun i j q => by
    rw [e, rd_wt, if_neg (by omega)]
    exact r.2 i j (by omega)
  refine ⟨fun i j q p => (d.1 i j p).trans (F i j q), ?_, ?_, fun h n hn n5 k i y hi hy => ?_⟩
  · rw [d.1 49 1 (by decide), e, rd_wt, if_pos ⟨rfl, rfl⟩, wr_i (wr_rg _), r.2 49 1 (by decide)]
  · rw [d.1 49 2 (by decide), e, rd_wt, if_neg (by omega)]
    exact r.1
  · have q := d.2 h n ((F 49 10 (by decide)).trans hn) n5 (fun i hi => (F 53 i (by omega)).trans (k i hi))
    have e10 : rd m24 49 10 = (n : Int) := (d.1 49 10 (by decide)).trans ((F 49 10 (by decide)).trans hn)
    rw [q.2 i y hi hy, show Int.toNat x = n by omega]
    have f : (fun i y : Nat => rd m19 54 (10 * i + y)) = (fun i y : Nat => rd m 54 (10 * i + y)) := funext fun i => funext fun y => F 54 _ (by omega)
    rw [f]
-- TippedCrates$Rows.noteRow(I)V
set_option maxRecDepth 20000 in
theorem fy_61 {m0 m : Mm} {x1 : Int}  (g_m : G m0 m) (r_x1 : rg x1)  : CV 1 61 [.ref 49, iv x1] m (fun m2 => G m0 m2 ∧ ((True) ∧ (ntP m m2 x1))) := by
  refine br_61 r_x1 ?_
  unfold P_61
  refine ⟨fun m_12 => G m0 m_12 ∧ (rd m_12 49 2 = (if rd m 49 1 = 0 then x1 else rd m 49 2) ∧ ∀ i j : Nat, ¬ (i = 49 ∧ j = 2) → rd m_12 i j = rd m i j), ?_, ?_⟩
  · skip
    refine ⟨fun hq => ?_, fun hq => ?_⟩
    · skip
      exact ⟨g_m, by first | exact ⟨by rw [e_m9, rd_wt, if_pos ⟨rfl, rfl⟩, wr_i r_x1, if_pos (by assumption)], fun i j q => by rw [e_m9, rd_wt, if_neg q]⟩ | exact ⟨(if_neg (by assumption)).symm, fun _ _ _ => rfl⟩⟩
    · skip
      intro m9 e_m9
      have g_m9 : G m0 m9 := by rw [e_m9]; exact GX.wt g_m (tw_49_2 g_m.1 (by first | assumption | omega)) (Eq.refl true)
      exact ⟨g_m9, by first | exact ⟨by rw [e_m9, rd_wt, if_pos ⟨rfl, rfl⟩, wr_i r_x1, if_pos (by assumption)], fun i j q => by rw [e_m9, rd_wt, if_neg q]⟩ | exact ⟨(if_neg (by assumption)).symm, fun _ _ _ => rfl⟩⟩
  · intro m_12  hR_12
    obtain ⟨g_m_12, hR_12⟩ := hR_12
    try have w3 : wr ((rd m_12 49 1) + 1) = (rd m_12 49 1) + 1 := wr_id (by omega) (by omega)
    intro m19 e_m19
    have g_m19 : G m0 m19 := by rw [e_m19]; exact GX.wt g_m_12 (tw_49_1 g_m_12.1 (wr_rg _)) (Eq.refl true)
    refine ⟨fun x2_24 m_24 => G m0 m_24 ∧ ((0 ≤ x2_24 ∧ x2_24 ≤ 5) ∧ (ntI m19 m_24 x2_24)), fun x2_24 m_24 => Int.toNat (5 - x2_24), ?_, ?_⟩
    · exact ⟨g_m19, by exact ⟨by first | omega | (refine ⟨?_, ?_⟩ <;> omega) | trivial, by exact nt_0 m19⟩⟩
    · intro x2_24 m_24 r_x2_24 hI_24
      obtain ⟨g_m_24, hI_24⟩ := hI_24
      obtain ⟨hI_24, dI_24⟩ := hI_24
      have t4 := ty_49_10 g_m_24.1
      refine ⟨fun hq => ?_, fun hq => ?_⟩
      · skip
        exact ⟨g_m_24, by exact ⟨by first | trivial | omega | (refine ⟨?_, ?_⟩ <;> omega), by exact nt_e hR_12 e_m19 dI_24 (by omega)⟩⟩
      · skip
        refine ⟨⟨by omega, by omega⟩, ?_⟩
        try have w5 : wr (x2_24 * 10) = x2_24 * 10 := wr_id (by omega) (by omega)
        have t6 := ty_53 g_m_24.1 (Int.toNat x2_24)
        try have w7 : wr ((wr (x2_24 * 10)) + (rd m_24 53 (Int.toNat x2_24))) = (wr (x2_24 * 10)) + (rd m_24 53 (Int.toNat x2_24)) := wr_id (by omega) (by omega)
        refine ⟨⟨by omega, by omega⟩, ?_⟩
        refine ⟨⟨by omega, by omega⟩, ?_⟩
        try have w9 : wr ((rd m_24 54 (Int.toNat (wr ((wr (x2_24 * 10)) + (rd m_24 53 (Int.toNat x2_24)))))) + 1) = (rd m_24 54 (Int.toNat (wr ((wr (x2_24 * 10)) + (rd m_24 53 (Int.toNat x2_24)))))) + 1 := wr_id (by omega) (by omega)
        intro m51 e_m51
        have g_m51 : G m0 m51 := by rw [e_m51]; exact GX.wt g_m_24 (tw_54 g_m_24.1 (wr_rg _)) (Eq.refl true)
        try have w10 : wr (x2_24 + 1) = x2_24 + 1 := wr_id (by omega) (by omega)
        intro z2_52 e_z2_52
        have r_z2_52 : rg z2_52 := by rw [e_z2_52]; exact wr_rg _
        exact ⟨⟨g_m51, by exact ⟨by first | omega | (refine ⟨?_, ?_⟩ <;> omega) | trivial, by exact nt_s dI_24 (by omega) (by omega) (by omega) (by omega) e_m51⟩⟩, by (try dsimp only); omega⟩
