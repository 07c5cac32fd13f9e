/-- what is told of the tipping x, below n, says that the mark y may be there -/
def okT (m : Mm) (n x y : Int) : Prop := ∀ e : Nat, (e : Int) < n → rd m 50 e = x → rd m 52 e = if rd m 51 e = y then 1 else 0
theorem ot_s {m : Mm} {n z x y : Int} (d : okT m n x y) (h : 0 ≤ n ∧ z = n + 1) (k : rd m 50 (Int.toNat n) = x → rd m 52 (Int.toNat n) = if rd m 51 (Int.toNat n) = y then 1 else 0) : okT m z x y := fun e he w => by
  by_cases q : (e : Int) < n
  · exact d e q w
  · have ee : e = Int.toNat n := by omega
    subst ee
    exact k w
/-- the most of the first n -/
def wsF (g : Nat → Int) : Nat → Int
  | 0 => 0
  | n + 1 => max (wsF g n) (g n)
theorem ws_s {g : Nat → Int} {x y z w : Int} (d : x = wsF g (Int.toNat y)) (h : 0 ≤ y ∧ z = y + 1) (e : w = max x (g (Int.toNat y))) : w = wsF g (Int.toNat z) := by
  rw [show Int.toNat z = Int.toNat y + 1 by omega]
  show w = max (wsF g (Int.toNat y)) (g (Int.toNat y))
  rw [← d]
  exact e
-- TippedCrates$Rows.isAsKnown(II)Z
set_option maxRecDepth 20000 in
theorem fy_60 {m : Mm} {x1 : Int} {x2 : Int}  (T_m : Ty m) (r_x1 : rg x1) (r_x2 : rg x2)  : CK 1 60 [.ref 49, iv x1, iv x2] m (fun m2 v => m2 = m ∧ ((v = 0 ∨ v = 1) ∧ ((v = 1 ∧ okT m (rd m 49 9) x1 x2) ∨ (v = 0 ∧ ¬ okT m (rd m 49 9) x1 x2)))) := by
  refine br_60 r_x1 r_x2 ?_
  unfold P_60
  refine ⟨fun x3_2 => (0 ≤ x3_2 ∧ x3_2 ≤ 20) ∧ (okT m x3_2 x1 x2), fun x3_2 => Int.toNat (20 - x3_2), ?_, ?_⟩
  · (exact ⟨by first | omega | (refine ⟨?_, ?_⟩ <;> omega) | trivial, by exact fun e he => by omega⟩)
  · intro x3_2 r_x3_2 hI_2
    obtain ⟨hI_2, dI_2⟩ := hI_2
    have t1 := ty_49_9 T_m
    refine ⟨fun hq => ?_, fun hq => ?_⟩
    · skip
      exact ⟨rfl, by exact ⟨by first | trivial | omega | (refine ⟨?_, ?_⟩ <;> omega), by first | (have u := hR_41; exact Or.inr ⟨rfl, fun w => by have e := w (Int.toNat x3_2) (by omega) (by assumption); rw [← hR_41] at e; exact absurd e (by assumption)⟩) | exact Or.inl ⟨rfl, fun e he => dI_2 e (by omega)⟩⟩⟩
    · skip
      refine ⟨⟨by omega, by omega⟩, ?_⟩
      have t2 := ty_50 T_m (Int.toNat x3_2)
      refine ⟨rd m 50 (Int.toNat x3_2) = x1 → rd m 52 (Int.toNat x3_2) = if rd m 51 (Int.toNat x3_2) = x2 then 1 else 0, ?_, ?_⟩
      · skip
        refine ⟨fun hq => ?_, fun hq => ?_⟩
        · skip
          (first | (have u := hR_41; exact fun _ => by rw [← hR_41]; assumption) | exact fun w => absurd w (by assumption))
        · skip
          refine ⟨⟨by omega, by omega⟩, ?_⟩
          refine ⟨⟨by omega, by omega⟩, ?_⟩
          refine ⟨fun s1_41 => s1_41 = if rd m 51 (Int.toNat x3_2) = x2 then 1 else 0, ?_, ?_⟩
          · skip
            refine ⟨fun hq => ?_, fun hq => ?_⟩
            · skip
              (first | exact (if_pos (by assumption)).symm | exact (if_neg (by assumption)).symm)
            · skip
              (first | exact (if_pos (by assumption)).symm | exact (if_neg (by assumption)).symm)
          · intro s1_41 r_s1_41 hR_41
            refine ⟨fun hq => ?_, fun hq => ?_⟩
            · skip
              (first | (have u := hR_41; exact fun _ => by rw [← hR_41]; assumption) | exact fun w => absurd w (by assumption))
            · skip
              exact ⟨rfl, by exact ⟨by first | trivial | omega | (refine ⟨?_, ?_⟩ <;> omega), by first | (have u := hR_41; exact Or.inr ⟨rfl, fun w => by have e := w (Int.toNat x3_2) (by omega) (by assumption); rw [← hR_41] at e; exact absurd e (by assumption)⟩) | exact Or.inl ⟨rfl, fun e he => dI_2 e (by omega)⟩⟩⟩
      · intro   hR_46
        try have w5 : wr (x3_2 + 1) = x3_2 + 1 := wr_id (by omega) (by omega)
        intro z3_46 e_z3_46
        have r_z3_46 : rg z3_46 := by rw [e_z3_46]; exact wr_rg _
        exact ⟨by exact ⟨by first | omega | (refine ⟨?_, ?_⟩ <;> omega) | trivial, by exact ot_s dI_2 (by omega) hR_46⟩, by (try dsimp only); omega⟩
-- TippedCrates$Rows.worstLeft(I)I
set_option maxRecDepth 20000 in
theorem fy_63 {m : Mm} {x1 : Int}  (T_m : Ty m) (r_x1 : rg x1) (p0 : 1 ≤ x1 ∧ x1 ≤ 5) : CK 1 63 [.ref 49, iv x1] m (fun m2 v => m2 = m ∧ ((True) ∧ (v = wsF (fun q => rd m 54 (10 * Int.toNat (x1 - 1) + q)) 10))) := by
  refine br_63 r_x1 ?_
  unfold P_63
  refine ⟨fun x2_4 x3_4 => (0 ≤ x3_4 ∧ x3_4 ≤ 10) ∧ (x2_4 = wsF (fun q => rd m 54 (10 * Int.toNat (x1 - 1) + q)) (Int.toNat x3_4)), fun x2_4 x3_4 => Int.toNat (10 - x3_4), ?_, ?_⟩
  · (exact ⟨by first | omega | (refine ⟨?_, ?_⟩ <;> omega) | trivial, by exact rfl⟩)
  · intro x2_4 x3_4 r_x2_4 r_x3_4 hI_4
    obtain ⟨hI_4, dI_4⟩ := hI_4
    refine ⟨fun hq => ?_, fun hq => ?_⟩
    · skip
      exact ⟨rfl, by exact ⟨by first | trivial | omega | (refine ⟨?_, ?_⟩ <;> omega), by rw [show Int.toNat x3_4 = 10 by omega] at dI_4; exact dI_4⟩⟩
    · skip
      try have w1 : wr (x1 - 1) = x1 - 1 := wr_id (by omega) (by omega)
      try have w2 : wr ((wr (x1 - 1)) * 10) = (wr (x1 - 1)) * 10 := wr_id (by omega) (by omega)
      try have w3 : wr ((wr ((wr (x1 - 1)) * 10)) + x3_4) = (wr ((wr (x1 - 1)) * 10)) + x3_4 := wr_id (by omega) (by omega)
      refine ⟨⟨by omega, by omega⟩, ?_⟩
      intro z2_27 e_z2_27
      have r_z2_27 : rg z2_27 := by rw [e_z2_27]; exact (mx_rg r_x2_4 (rd_rg _ _ _))
      try have w5 : wr (x3_4 + 1) = x3_4 + 1 := wr_id (by omega) (by omega)
      intro z3_28 e_z3_28
      have r_z3_28 : rg z3_28 := by rw [e_z3_28]; exact wr_rg _
      exact ⟨by exact ⟨by first | omega | (refine ⟨?_, ?_⟩ <;> omega) | trivial, by exact ws_s (g := fun q => rd m 54 (10 * Int.toNat (x1 - 1) + q)) dI_4 (by omega) (e_z2_27.trans (congrArg (fun q => max x2_4 (rd m 54 q)) (by omega)))⟩, by (try dsimp only); omega⟩
