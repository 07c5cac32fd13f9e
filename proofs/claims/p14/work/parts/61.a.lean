/-- a mixing of two numbers -/
def mixI (a b : Int) : Int := xoI (wr (wr (xoI a b * 1103515245) + 12345)) (urI (wr (wr (xoI a b * 1103515245) + 12345)) 15)
theorem mixI_rg (a b : Int) : rg (mixI a b) := io_rg _ _ _
def lotI (n seed which : Int) : Int := rmI (urI (mixI (mixI seed 215) which) 1) n
-- TippedCrates.within(III)Z
set_option maxRecDepth 20000 in
theorem ct_166 {m : Mm} {x0 : Int} {x1 : Int} {x2 : Int}   (r_x0 : rg x0) (r_x1 : rg x1) (r_x2 : rg x2)  : CK 1 166 [iv x0, iv x1, iv x2] m (fun m2 v => m2 = m ∧ ((v = 1 ∧ x1 ≤ x0 ∧ x0 ≤ x2) ∨ (v = 0 ∧ (x0 < x1 ∨ x2 < x0)))) := by
  refine br_166 r_x0 r_x1 r_x2 ?_
  unfold P_166
  refine ⟨fun s0_15 => (s0_15 = 1 ∧ x1 ≤ x0 ∧ x0 ≤ x2) ∨ (s0_15 = 0 ∧ (x0 < x1 ∨ x2 < x0)), ?_, ?_⟩
  · skip
    refine ⟨x0 < x1 ∨ x2 < x0, ?_, ?_⟩
    · skip
      refine ⟨fun hq => ?_, fun hq => ?_⟩
      · skip
        (first | trivial | omega | (refine ⟨?_, ?_⟩ <;> omega))
      · skip
        refine ⟨fun hq => ?_, fun hq => ?_⟩
        · skip
          (first | trivial | omega | (refine ⟨?_, ?_⟩ <;> omega))
        · skip
          (first | trivial | omega | (refine ⟨?_, ?_⟩ <;> omega))
    · intro   hR_14
      (first | trivial | omega | (refine ⟨?_, ?_⟩ <;> omega))
  · intro s0_15 r_s0_15 hR_15
    exact ⟨by omega, ⟨rfl, by first | trivial | omega | (refine ⟨?_, ?_⟩ <;> omega)⟩⟩
-- TippedCrates.isMark(I)Z
set_option maxRecDepth 20000 in
theorem ct_164 {m : Mm} {x0 : Int}   (r_x0 : rg x0)  : CK 2 164 [iv x0] m (fun m2 v => m2 = m ∧ ((v = 1 ∧ 0 ≤ x0 ∧ x0 ≤ 9) ∨ (v = 0 ∧ (x0 < 0 ∨ 9 < x0)))) := by
  refine br_164 r_x0 ?_
  unfold P_164
  refine CK.mono (ct_166   r_x0 (by unfold rg; decide) (by unfold rg; decide)) (by decide) ?_
  rintro m4 v4 r_v4 ⟨e_m4, h_m4⟩
  replace e_m4 := e_m4.symm
  subst e_m4
  exact ⟨by omega, ⟨rfl, by first | trivial | omega | (refine ⟨?_, ?_⟩ <;> omega)⟩⟩
-- TippedCrates.isWay(I)Z
set_option maxRecDepth 20000 in
theorem ct_165 {m : Mm} {x0 : Int}   (r_x0 : rg x0)  : CK 2 165 [iv x0] m (fun m2 v => m2 = m ∧ ((v = 1 ∧ 0 ≤ x0 ∧ x0 ≤ 3) ∨ (v = 0 ∧ (x0 < 0 ∨ 3 < x0)))) := by
  refine br_165 r_x0 ?_
  unfold P_165
  refine CK.mono (ct_166   r_x0 (by unfold rg; decide) (by unfold rg; decide)) (by decide) ?_
  rintro m3 v3 r_v3 ⟨e_m3, h_m3⟩
  replace e_m3 := e_m3.symm
  subst e_m3
  exact ⟨by omega, ⟨rfl, by first | trivial | omega | (refine ⟨?_, ?_⟩ <;> omega)⟩⟩
-- TippedCrates.isCrate(I)Z
set_option maxRecDepth 20000 in
theorem ct_162 {m : Mm} {x1 : Int}  (T_m : Ty m) (r_x1 : rg x1)  : CK 2 162 [.ref 0, iv x1] m (fun m2 v => m2 = m ∧ ((v = 1 ∧ 0 ≤ x1 ∧ x1 ≤ rd m 7 3 - 1) ∨ (v = 0 ∧ (x1 < 0 ∨ rd m 7 3 - 1 < x1)))) := by
  refine br_162 r_x1 ?_
  unfold P_162
  have t1 := ty_7_3 T_m
  try have w2 : wr ((rd m 7 3) - 1) = (rd m 7 3) - 1 := wr_id (by omega) (by omega)
  refine CK.mono (ct_166   r_x1 (by unfold rg; decide) (wr_rg _)) (by decide) ?_
  rintro m11 v11 r_v11 ⟨e_m11, h_m11⟩
  replace e_m11 := e_m11.symm
  subst e_m11
  exact ⟨by omega, ⟨rfl, by first | trivial | omega | (refine ⟨?_, ?_⟩ <;> omega)⟩⟩
-- TippedCrates.isFlag(I)Z
set_option maxRecDepth 20000 in
theorem ct_163 {m : Mm} {x1 : Int}  (T_m : Ty m) (r_x1 : rg x1)  : CK 2 163 [.ref 0, iv x1] m (fun m2 v => m2 = m ∧ ((v = 1 ∧ 0 ≤ x1 ∧ x1 ≤ rd m 7 0 * rd m 7 1 - 1) ∨ (v = 0 ∧ (x1 < 0 ∨ rd m 7 0 * rd m 7 1 - 1 < x1)))) := by
  refine br_163 r_x1 ?_
  unfold P_163
  have t1 := ty_7_0 T_m
  have t2 := ty_7_1 T_m
  have w3 := wh_b (ty_7_0 T_m) (ty_7_1 T_m)
  try have w4 : wr ((rd m 7 0) * (rd m 7 1)) = (rd m 7 0) * (rd m 7 1) := wr_id (by omega) (by omega)
  try have w5 : wr ((wr ((rd m 7 0) * (rd m 7 1))) - 1) = (wr ((rd m 7 0) * (rd m 7 1))) - 1 := wr_id (by omega) (by omega)
  refine CK.mono (ct_166   r_x1 (by unfold rg; decide) (wr_rg _)) (by decide) ?_
  rintro m19 v19 r_v19 ⟨e_m19, h_m19⟩
  replace e_m19 := e_m19.symm
  subst e_m19
  exact ⟨by omega, ⟨rfl, by first | trivial | omega | (refine ⟨?_, ?_⟩ <;> omega)⟩⟩
-- TippedCrates$Plan.flagAt(II)I
set_option maxRecDepth 20000 in
theorem ct_29 {m : Mm} {x1 : Int} {x2 : Int}  (T_m : Ty m) (r_x1 : rg x1) (r_x2 : rg x2) (p0 : 0 ≤ x1 ∧ x1 ≤ 9999) (p1 : 0 ≤ x2 ∧ x2 ≤ 9999) : CK 1 29 [.ref 7, iv x1, iv x2] m (fun m2 v => m2 = m ∧ (v = wr (wr (rd m 7 0 * x2) + x1))) := by
  refine br_29 r_x1 r_x2 ?_
  unfold P_29
  have t1 := ty_7_0 T_m
  try have w2 : wr ((rd m 7 0) * x2) = (rd m 7 0) * x2 := wr_id (by omega) (by omega)
  try have w3 : wr ((wr ((rd m 7 0) * x2)) + x1) = (wr ((rd m 7 0) * x2)) + x1 := wr_id (by omega) (by omega)
  exact ⟨rfl, by first | trivial | omega | (refine ⟨?_, ?_⟩ <;> omega)⟩
-- TippedCrates$Plan.nextFlag(II)I
set_option maxRecDepth 20000 in
theorem ct_30 {m : Mm} {x1 : Int} {x2 : Int}  (T_m : Ty m) (r_x1 : rg x1) (r_x2 : rg x2) (p0 : 0 ≤ x1 ∧ x1 ≤ 24) (p1 : 0 ≤ x2 ∧ x2 ≤ 3) : CK 1 30 [.ref 7, iv x1, iv x2] m (fun m2 v => m2 = m ∧ (v = rd m 18 (Int.toNat (x1 * 4 + x2)) ∧ -1 ≤ v ∧ v ≤ 24)) := by
  refine br_30 r_x1 r_x2 ?_
  unfold P_30
  try have w1 : wr (x1 * 4) = x1 * 4 := wr_id (by omega) (by omega)
  try have w2 : wr ((wr (x1 * 4)) + x2) = (wr (x1 * 4)) + x2 := wr_id (by omega) (by omega)
  refine ⟨⟨by omega, by omega⟩, ?_⟩
  have t3 := ty_18 T_m (Int.toNat (wr ((wr (x1 * 4)) + x2)))
  exact ⟨rfl, by exact ⟨congrArg (rd m 18) (by omega), by omega, by omega⟩⟩
-- TippedCrates$Plan.isShut(I)Z
set_option maxRecDepth 20000 in
theorem ct_31 {m : Mm} {x1 : Int}   (r_x1 : rg x1)  : CK 1 31 [.ref 7, iv x1] m (fun m2 v => m2 = m ∧ ((v = 1 ∧ anI (srI (rd m 7 4) x1) 1 = 1) ∨ (v = 0 ∧ ¬ anI (srI (rd m 7 4) x1) 1 = 1))) := by
  refine br_31 r_x1 ?_
  unfold P_31
  refine ⟨fun s0_17 => (s0_17 = 1 ∧ anI (srI (rd m 7 4) x1) 1 = 1) ∨ (s0_17 = 0 ∧ ¬ anI (srI (rd m 7 4) x1) 1 = 1), ?_, ?_⟩
  · skip
    refine ⟨fun hq => ?_, fun hq => ?_⟩
    · skip
      (first | trivial | omega | (refine ⟨?_, ?_⟩ <;> omega))
    · skip
      (first | trivial | omega | (refine ⟨?_, ?_⟩ <;> omega))
  · intro s0_17 r_s0_17 hR_17
    exact ⟨by omega, ⟨rfl, by first | trivial | omega | (refine ⟨?_, ?_⟩ <;> omega)⟩⟩
-- TippedCrates$Plan.allFlags()I
set_option maxRecDepth 20000 in
theorem ct_32 {m : Mm}      : CK 1 32 [.ref 7] m (fun m2 v => m2 = m ∧ (v = wr (slI 1 (wr (rd m 7 0 * rd m 7 1)) - 1))) := by
  refine br_32  ?_
  unfold P_32
  try have w1 : wr ((rd m 7 0) * (rd m 7 1)) = (rd m 7 0) * (rd m 7 1) := wr_id (by omega) (by omega)
  try have w2 : wr ((slI 1 (wr ((rd m 7 0) * (rd m 7 1)))) - 1) = (slI 1 (wr ((rd m 7 0) * (rd m 7 1)))) - 1 := wr_id (by omega) (by omega)
  exact ⟨rfl, by rfl⟩
-- TippedCrates$State.crateOn(I)I
set_option maxRecDepth 20000 in
theorem ct_77 {m : Mm} {a : Nat} {x1 : Int}  (T_m : Ty m) (h_a : isSt a) (r_x1 : rg x1)  : CK 1 77 [.ref a, iv x1] m (fun m2 v => m2 = m ∧ ((0 ≤ v ∧ v < rd m a 4 ∧ rd m (a + 2) (Int.toNat v) = x1 ∧ (∀ c : Nat, (c : Int) < v → ¬ rd m (a + 2) c = x1)) ∨ (v = -1 ∧ (∀ c : Nat, (c : Int) < rd m a 4 → ¬ rd m (a + 2) c = x1)))) := by
  refine br_77 h_a r_x1 ?_
  unfold P_77
  refine ⟨fun x2_2 => (0 ≤ x2_2 ∧ x2_2 ≤ 3) ∧ (∀ c : Nat, (c : Int) < x2_2 → ¬ rd m (a + 2) c = x1), fun x2_2 => Int.toNat (3 - x2_2), ?_, ?_⟩
  · exact ⟨by omega, fun c hc => by omega⟩
  · intro x2_2 r_x2_2 hI_2
    have t1 := ty_s4 T_m h_a
    refine ⟨fun hq => ?_, fun hq => ?_⟩
    · skip
      exact ⟨rfl, by first | exact Or.inr ⟨rfl, fun c hc => hI_2.2 c (by omega)⟩ | exact Or.inl ⟨by omega, by omega, hq, fun c hc => hI_2.2 c (by omega)⟩⟩
    · skip
      refine ⟨⟨by omega, by omega⟩, ?_⟩
      have t2 := ty_sF T_m h_a (Int.toNat x2_2)
      refine ⟨fun hq => ?_, fun hq => ?_⟩
      · skip
        try have w3 : wr (x2_2 + 1) = x2_2 + 1 := wr_id (by omega) (by omega)
        intro z2_22 e_z2_22
        have r_z2_22 : rg z2_22 := by rw [e_z2_22]; exact wr_rg _
        exact ⟨by exact ⟨by omega, fun c hc => by
            by_cases e : (c : Int) < x2_2
            · exact hI_2.2 c e
            · have e2 : c = Int.toNat x2_2 := by omega
              rw [e2]; exact hq⟩, by (try dsimp only); omega⟩
      · skip
        exact ⟨rfl, by first | exact Or.inr ⟨rfl, fun c hc => hI_2.2 c (by omega)⟩ | exact Or.inl ⟨by omega, by omega, hq, fun c hc => hI_2.2 c (by omega)⟩⟩
-- TippedCrates$State.topOf(I)I
set_option maxRecDepth 20000 in
theorem ct_78 {m : Mm} {a : Nat} {x1 : Int}  (T_m : Ty m) (h_a : isSt a) (r_x1 : rg x1) (p0 : 0 ≤ x1 ∧ x1 ≤ 2) : CK 1 78 [.ref a, iv x1] m (fun m2 v => m2 = m ∧ (v = rd m (a + 3) (Int.toNat (x1 * 6)) ∧ 0 ≤ v ∧ v ≤ 9999)) := by
  refine br_78 h_a r_x1 ?_
  unfold P_78
  try have w1 : wr (x1 * 6) = x1 * 6 := wr_id (by omega) (by omega)
  try have w2 : wr ((wr (x1 * 6)) + 0) = (wr (x1 * 6)) + 0 := wr_id (by omega) (by omega)
  refine ⟨⟨by omega, by omega⟩, ?_⟩
  have t3 := ty_sC T_m h_a (Int.toNat (wr ((wr (x1 * 6)) + 0)))
  exact ⟨rfl, by exact ⟨congrArg (rd m (a + 3)) (by omega), by omega, by omega⟩⟩
-- TippedCrates$State.markedFlags()I
set_option maxRecDepth 20000 in
theorem ct_79 {m : Mm} {a : Nat}  (T_m : Ty m) (h_a : isSt a)  : CK 1 79 [.ref a] m (fun m2 v => m2 = m ∧ (True)) := by
  refine br_79 h_a ?_
  unfold P_79
  refine ⟨fun x1_4 x2_4 => 0 ≤ x2_4 ∧ x2_4 ≤ 25, fun x1_4 x2_4 => Int.toNat (25 - x2_4), ?_, ?_⟩
  · (first | omega | (refine ⟨?_, ?_⟩ <;> omega) | trivial)
  · intro x1_4 x2_4 r_x1_4 r_x2_4 hI_4
    refine ⟨fun hq => ?_, fun hq => ?_⟩
    · skip
      exact ⟨rfl, by first | trivial | omega | (refine ⟨?_, ?_⟩ <;> omega)⟩
    · skip
      refine ⟨⟨by omega, by omega⟩, ?_⟩
      have t1 := ty_sM T_m h_a (Int.toNat x2_4)
      refine ⟨fun y1_25 => True, ?_, ?_⟩
      · skip
        refine ⟨fun hq => ?_, fun hq => ?_⟩
        · skip
          (first | trivial | omega | (refine ⟨?_, ?_⟩ <;> omega))
        · skip
          intro z1_24 e_z1_24
          have r_z1_24 : rg z1_24 := by rw [e_z1_24]; exact (io_rg _ _ _)
          (first | trivial | omega | (refine ⟨?_, ?_⟩ <;> omega))
      · intro y1_25 r_y1_25 hR_25
        try have w2 : wr (x2_4 + 1) = x2_4 + 1 := wr_id (by omega) (by omega)
        intro z2_25 e_z2_25
        have r_z2_25 : rg z2_25 := by rw [e_z2_25]; exact wr_rg _
        exact ⟨by first | omega | (refine ⟨?_, ?_⟩ <;> omega) | trivial, by (try dsimp only); omega⟩
-- TippedCrates$State.sumOfMarks()I
set_option maxRecDepth 20000 in
theorem ct_80 {m : Mm} {a : Nat}  (T_m : Ty m) (h_a : isSt a)  : CK 1 80 [.ref a] m (fun m2 v => m2 = m ∧ (True)) := by
  refine br_80 h_a ?_
  unfold P_80
  refine ⟨fun x1_13 x4_13 => 0 ≤ x4_13 ∧ x4_13 ≤ 25, fun x1_13 x4_13 => Int.toNat (25 - x4_13), ?_, ?_⟩
  · (first | omega | (refine ⟨?_, ?_⟩ <;> omega) | trivial)
  · intro x1_13 x4_13 r_x1_13 r_x4_13 hI_13
    refine ⟨fun hq => ?_, fun hq => ?_⟩
    · skip
      exact ⟨rfl, by first | trivial | omega | (refine ⟨?_, ?_⟩ <;> omega)⟩
    · skip
      refine ⟨⟨by omega, by omega⟩, ?_⟩
      have t1 := ty_sM T_m h_a (Int.toNat x4_13)
      intro z5_23 e_z5_23
      have r_z5_23 : rg z5_23 := by rw [e_z5_23]; exact (rd_rg _ _ _)
      try have w2 : wr (x1_13 + z5_23) = x1_13 + z5_23 := wr_id (by omega) (by omega)
      intro z1_29 e_z1_29
      have r_z1_29 : rg z1_29 := by rw [e_z1_29]; exact (wr_rg _)
      try have w3 : wr (x4_13 + 1) = x4_13 + 1 := wr_id (by omega) (by omega)
      intro z4_30 e_z4_30
      have r_z4_30 : rg z4_30 := by rw [e_z4_30]; exact wr_rg _
      exact ⟨by first | omega | (refine ⟨?_, ?_⟩ <;> omega) | trivial, by (try dsimp only); omega⟩
-- TippedCrates$State.greatestMark()I
set_option maxRecDepth 20000 in
theorem ct_81 {m : Mm} {a : Nat}  (T_m : Ty m) (h_a : isSt a)  : CK 1 81 [.ref a] m (fun m2 v => m2 = m ∧ (True)) := by
  refine br_81 h_a ?_
  unfold P_81
  refine ⟨fun x1_13 x4_13 => 0 ≤ x4_13 ∧ x4_13 ≤ 25, fun x1_13 x4_13 => Int.toNat (25 - x4_13), ?_, ?_⟩
  · (first | omega | (refine ⟨?_, ?_⟩ <;> omega) | trivial)
  · intro x1_13 x4_13 r_x1_13 r_x4_13 hI_13
    refine ⟨fun hq => ?_, fun hq => ?_⟩
    · skip
      exact ⟨rfl, by first | trivial | omega | (refine ⟨?_, ?_⟩ <;> omega)⟩
    · skip
      refine ⟨⟨by omega, by omega⟩, ?_⟩
      have t1 := ty_sM T_m h_a (Int.toNat x4_13)
      intro z5_23 e_z5_23
      have r_z5_23 : rg z5_23 := by rw [e_z5_23]; exact (rd_rg _ _ _)
      intro z1_31 e_z1_31
      have r_z1_31 : rg z1_31 := by rw [e_z1_31]; exact (mx_rg r_x1_13 r_z5_23)
      try have w2 : wr (x4_13 + 1) = x4_13 + 1 := wr_id (by omega) (by omega)
      intro z4_32 e_z4_32
      have r_z4_32 : rg z4_32 := by rw [e_z4_32]; exact wr_rg _
      exact ⟨by first | omega | (refine ⟨?_, ?_⟩ <;> omega) | trivial, by (try dsimp only); omega⟩
-- TippedCrates$State.allTips()I
set_option maxRecDepth 20000 in
theorem ct_82 {m : Mm} {a : Nat}  (T_m : Ty m) (h_a : isSt a)  : CK 1 82 [.ref a] m (fun m2 v => m2 = m ∧ (True)) := by
  refine br_82 h_a ?_
  unfold P_82
  refine ⟨fun x1_13 x4_13 => 0 ≤ x4_13 ∧ x4_13 ≤ 3, fun x1_13 x4_13 => Int.toNat (3 - x4_13), ?_, ?_⟩
  · (first | omega | (refine ⟨?_, ?_⟩ <;> omega) | trivial)
  · intro x1_13 x4_13 r_x1_13 r_x4_13 hI_13
    refine ⟨fun hq => ?_, fun hq => ?_⟩
    · skip
      exact ⟨rfl, by first | trivial | omega | (refine ⟨?_, ?_⟩ <;> omega)⟩
    · skip
      refine ⟨⟨by omega, by omega⟩, ?_⟩
      intro z5_23 e_z5_23
      have r_z5_23 : rg z5_23 := by rw [e_z5_23]; exact (rd_rg _ _ _)
      try have w2 : wr (x1_13 + z5_23) = x1_13 + z5_23 := wr_id (by omega) (by omega)
      intro z1_29 e_z1_29
      have r_z1_29 : rg z1_29 := by rw [e_z1_29]; exact (wr_rg _)
      try have w3 : wr (x4_13 + 1) = x4_13 + 1 := wr_id (by omega) (by omega)
      intro z4_30 e_z4_30
      have r_z4_30 : rg z4_30 := by rw [e_z4_30]; exact wr_rg _
      exact ⟨by first | omega | (refine ⟨?_, ?_⟩ <;> omega) | trivial, by (try dsimp only); omega⟩
-- TippedCrates$State.flagsWithCrates()I
set_option maxRecDepth 20000 in
theorem ct_83 {m : Mm} {a : Nat}  (T_m : Ty m) (h_a : isSt a)  : CK 1 83 [.ref a] m (fun m2 v => m2 = m ∧ (True)) := by
  refine br_83 h_a ?_
  unfold P_83
  refine ⟨fun x1_4 x2_4 => 0 ≤ x2_4 ∧ x2_4 ≤ 3, fun x1_4 x2_4 => Int.toNat (3 - x2_4), ?_, ?_⟩
  · (first | omega | (refine ⟨?_, ?_⟩ <;> omega) | trivial)
  · intro x1_4 x2_4 r_x1_4 r_x2_4 hI_4
    have t1 := ty_s4 T_m h_a
    refine ⟨fun hq => ?_, fun hq => ?_⟩
    · skip
      exact ⟨rfl, by first | trivial | omega | (refine ⟨?_, ?_⟩ <;> omega)⟩
    · skip
      refine ⟨⟨by omega, by omega⟩, ?_⟩
      have t2 := ty_sF T_m h_a (Int.toNat x2_4)
      intro z1_22 e_z1_22
      have r_z1_22 : rg z1_22 := by rw [e_z1_22]; exact (io_rg _ _ _)
      try have w3 : wr (x2_4 + 1) = x2_4 + 1 := wr_id (by omega) (by omega)
      intro z2_23 e_z2_23
      have r_z2_23 : rg z2_23 := by rw [e_z2_23]; exact wr_rg _
      exact ⟨by first | omega | (refine ⟨?_, ?_⟩ <;> omega) | trivial, by (try dsimp only); omega⟩
-- TippedCrates$State.sumOfTops()I
set_option maxRecDepth 20000 in
theorem ct_84 {m : Mm} {a : Nat}  (T_m : Ty m) (h_a : isSt a)  : CK 2 84 [.ref a] m (fun m2 v => m2 = m ∧ (True)) := by
  refine br_84 h_a ?_
  unfold P_84
  refine ⟨fun x1_4 x2_4 m_4 => m_4 = m ∧ (0 ≤ x2_4 ∧ x2_4 ≤ 3), fun x1_4 x2_4 m_4 => Int.toNat (3 - x2_4), ?_, ?_⟩
  · exact ⟨rfl, by first | omega | (refine ⟨?_, ?_⟩ <;> omega) | trivial⟩
  · intro x1_4 x2_4 m_4 r_x1_4 r_x2_4 hI_4
    obtain ⟨e_m_4, hI_4⟩ := hI_4
    replace e_m_4 := e_m_4.symm
    subst e_m_4
    have t1 := ty_s4 T_m h_a
    refine ⟨fun hq => ?_, fun hq => ?_⟩
    · skip
      exact ⟨rfl, by first | trivial | omega | (refine ⟨?_, ?_⟩ <;> omega)⟩
    · skip
      refine CK.mono (ct_78   T_m h_a r_x2_4 (by omega)) (by decide) ?_
      rintro m15 v15 r_v15 ⟨e_m15, h_m15⟩
      replace e_m15 := e_m15.symm
      subst e_m15
      try have w2 : wr (x1_4 + v15) = x1_4 + v15 := wr_id (by omega) (by omega)
      intro z1_19 e_z1_19
      have r_z1_19 : rg z1_19 := by rw [e_z1_19]; exact (wr_rg _)
      try have w3 : wr (x2_4 + 1) = x2_4 + 1 := wr_id (by omega) (by omega)
      intro z2_20 e_z2_20
      have r_z2_20 : rg z2_20 := by rw [e_z2_20]; exact wr_rg _
      exact ⟨⟨rfl, by first | omega | (refine ⟨?_, ?_⟩ <;> omega) | trivial⟩, by (try dsimp only); omega⟩
-- TippedCrates$Drays.mix(II)I
set_option maxRecDepth 20000 in
theorem ct_11 {m : Mm} {x0 : Int} {x1 : Int}   (r_x0 : rg x0) (r_x1 : rg x1)  : CK 1 11 [iv x0, iv x1] m (fun m2 v => m2 = m ∧ (v = mixI x0 x1)) := by
  refine br_11 r_x0 r_x1 ?_
  unfold P_11
  try have w1 : wr ((xoI x0 x1) * 1103515245) = (xoI x0 x1) * 1103515245 := wr_id (by omega) (by omega)
  try have w2 : wr ((wr ((xoI x0 x1) * 1103515245)) + 12345) = (wr ((xoI x0 x1) * 1103515245)) + 12345 := wr_id (by omega) (by omega)
  intro z2_10 e_z2_10
  have r_z2_10 : rg z2_10 := by rw [e_z2_10]; exact (wr_rg _)
  exact ⟨rfl, by (rw [e_z2_10]; rfl)⟩
