/-- the parser's place, faults -/
def sFt (i j : Nat) : Bool := Nat.beq i 284 && (Nat.beq j 11 || Nat.beq j 13 || Nat.beq j 14 || Nat.beq j 15 || Nat.beq j 16)
-- TippedCratesModel.byteAt(I)I
set_option maxRecDepth 20000 in
theorem ct_172 {m : Mm} {x1 : Int}  (T_m : Ty m) (r_x1 : rg x1) (p0 : 0 ≤ x1 ∧ x1 ≤ 5000) : CK 1 172 [.ref 284, iv x1] m (fun m2 v => m2 = m ∧ (0 ≤ v ∧ v ≤ 255 ∧ ((x1 < rd m 284 4 ∧ v = anI (rd m 286 (Int.toNat x1)) 255) ∨ (¬ x1 < rd m 284 4 ∧ v = 0)))) := by
  refine br_172 r_x1 ?_
  unfold P_172
  have t1 := ty_284_4 T_m
  refine ⟨fun s0_22 => 0 ≤ s0_22 ∧ s0_22 ≤ 255 ∧ ((x1 < rd m 284 4 ∧ s0_22 = anI (rd m 286 (Int.toNat x1)) 255) ∨ (¬ x1 < rd m 284 4 ∧ s0_22 = 0)), ?_, ?_⟩
  · skip
    refine ⟨fun hq => ?_, fun hq => ?_⟩
    · skip
      have a255 := an255 (rd m 286 (Int.toNat x1))
      (first | trivial | omega | (refine ⟨?_, ?_⟩ <;> omega))
    · skip
      refine ⟨⟨by omega, by omega⟩, ?_⟩
      have t2 := ty_286 T_m (Int.toNat x1)
      have a255 := an255 (rd m 286 (Int.toNat x1))
      (first | trivial | omega | (refine ⟨?_, ?_⟩ <;> omega))
  · intro s0_22 r_s0_22 hR_22
    exact ⟨rfl, by first | trivial | omega | (refine ⟨?_, ?_⟩ <;> omega)⟩
-- TippedCratesModel.isDigit(I)Z
set_option maxRecDepth 20000 in
theorem ct_173 {m : Mm} {x0 : Int}   (r_x0 : rg x0)  : CK 1 173 [iv x0] m (fun m2 v => m2 = m ∧ ((v = 1 ∧ 48 ≤ x0 ∧ x0 ≤ 57) ∨ (v = 0 ∧ (x0 < 48 ∨ 57 < x0)))) := by
  refine br_173 r_x0 ?_
  unfold P_173
  refine ⟨fun s0_17 => (s0_17 = 1 ∧ 48 ≤ x0 ∧ x0 ≤ 57) ∨ (s0_17 = 0 ∧ (x0 < 48 ∨ 57 < x0)), ?_, ?_⟩
  · skip
    refine ⟨x0 < 48 ∨ 57 < x0, ?_, ?_⟩
    · skip
      refine ⟨fun hq => ?_, fun hq => ?_⟩
      · skip
        (first | trivial | omega | (refine ⟨?_, ?_⟩ <;> omega))
      · skip
        refine ⟨fun hq => ?_, fun hq => ?_⟩
        · skip
          (first | trivial | omega | (refine ⟨?_, ?_⟩ <;> omega))
        · skip
          (first | trivial | omega | (refine ⟨?_, ?_⟩ <;> omega))
    · intro   hR_16
      (first | trivial | omega | (refine ⟨?_, ?_⟩ <;> omega))
  · intro s0_17 r_s0_17 hR_17
    exact ⟨by omega, ⟨rfl, by first | trivial | omega | (refine ⟨?_, ?_⟩ <;> omega)⟩⟩
-- TippedCratesModel.isLetter(I)Z
set_option maxRecDepth 20000 in
theorem ct_174 {m : Mm} {x0 : Int}   (r_x0 : rg x0)  : CK 1 174 [iv x0] m (fun m2 v => m2 = m ∧ ((v = 1 ∧ 97 ≤ x0 ∧ x0 ≤ 122) ∨ (v = 0 ∧ (x0 < 97 ∨ 122 < x0)))) := by
  refine br_174 r_x0 ?_
  unfold P_174
  refine ⟨fun s0_17 => (s0_17 = 1 ∧ 97 ≤ x0 ∧ x0 ≤ 122) ∨ (s0_17 = 0 ∧ (x0 < 97 ∨ 122 < x0)), ?_, ?_⟩
  · skip
    refine ⟨x0 < 97 ∨ 122 < x0, ?_, ?_⟩
    · skip
      refine ⟨fun hq => ?_, fun hq => ?_⟩
      · skip
        (first | trivial | omega | (refine ⟨?_, ?_⟩ <;> omega))
      · skip
        refine ⟨fun hq => ?_, fun hq => ?_⟩
        · skip
          (first | trivial | omega | (refine ⟨?_, ?_⟩ <;> omega))
        · skip
          (first | trivial | omega | (refine ⟨?_, ?_⟩ <;> omega))
    · intro   hR_16
      (first | trivial | omega | (refine ⟨?_, ?_⟩ <;> omega))
  · intro s0_17 r_s0_17 hR_17
    exact ⟨by omega, ⟨rfl, by first | trivial | omega | (refine ⟨?_, ?_⟩ <;> omega)⟩⟩
-- TippedCratesModel.appends(JI)J
set_option maxRecDepth 20000 in
theorem ct_175 {m : Mm} {x0 : Int} {x2 : Int}   (r_x0 : rgl x0) (r_x2 : rg x2)  : CL 1 175 [lv x0, iv x2] m (fun m2 v => m2 = m ∧ (True)) := by
  refine br_175 r_x0 r_x2 ?_
  unfold P_175
  refine ⟨fun s0_21 => True, ?_, ?_⟩
  · skip
    refine ⟨fun hq => ?_, fun hq => ?_⟩
    · skip
      try have w1 : wrl (27 * x0) = 27 * x0 := wrl_id (by omega) (by omega)
      try have w2 : wr (x2 - 97) = x2 - 97 := wr_id (by omega) (by omega)
      try have w3 : wr ((wr (x2 - 97)) + 1) = (wr (x2 - 97)) + 1 := wr_id (by omega) (by omega)
      try have w4 : wrl ((wrl (27 * x0)) + (wr ((wr (x2 - 97)) + 1))) = (wrl (27 * x0)) + (wr ((wr (x2 - 97)) + 1)) := wrl_id (by omega) (by omega)
      (first | trivial | omega | (refine ⟨?_, ?_⟩ <;> omega))
    · skip
      (first | trivial | omega | (refine ⟨?_, ?_⟩ <;> omega))
  · intro s0_21 r_s0_21 hR_21
    exact ⟨rfl, by first | trivial | omega | (refine ⟨?_, ?_⟩ <;> omega)⟩
-- TippedCratesModel.is(I)Z
set_option maxRecDepth 20000 in
theorem ct_180 {m : Mm} {x1 : Int}  (T_m : Ty m) (r_x1 : rg x1)  : CK 1 180 [.ref 284, iv x1] m (fun m2 v => m2 = m ∧ ((v = 1 ∧ (rd m 284 13 = 0 ∧ rd m 287 (Int.toNat (rd m 284 11)) = x1)) ∨ (v = 0 ∧ ¬ (rd m 284 13 = 0 ∧ rd m 287 (Int.toNat (rd m 284 11)) = x1)))) := by
  refine br_180 r_x1 ?_
  unfold P_180
  refine ⟨fun s0_25 => (s0_25 = 1 ∧ (rd m 284 13 = 0 ∧ rd m 287 (Int.toNat (rd m 284 11)) = x1)) ∨ (s0_25 = 0 ∧ ¬ (rd m 284 13 = 0 ∧ rd m 287 (Int.toNat (rd m 284 11)) = x1)), ?_, ?_⟩
  · skip
    refine ⟨¬ (rd m 284 13 = 0 ∧ rd m 287 (Int.toNat (rd m 284 11)) = x1), ?_, ?_⟩
    · skip
      refine ⟨fun hq => ?_, fun hq => ?_⟩
      · skip
        (first | trivial | omega | (refine ⟨?_, ?_⟩ <;> omega))
      · skip
        have t2 := ty_284_11 T_m
        refine ⟨⟨by omega, by omega⟩, ?_⟩
        have t3 := ty_287 T_m (Int.toNat (rd m 284 11))
        refine ⟨fun hq => ?_, fun hq => ?_⟩
        · skip
          (first | trivial | omega | (refine ⟨?_, ?_⟩ <;> omega))
        · skip
          (first | trivial | omega | (refine ⟨?_, ?_⟩ <;> omega))
    · intro   hR_24
      (first | trivial | omega | (refine ⟨?_, ?_⟩ <;> omega))
  · intro s0_25 r_s0_25 hR_25
    exact ⟨by omega, ⟨rfl, by first | trivial | omega | (refine ⟨?_, ?_⟩ <;> omega)⟩⟩
-- TippedCratesModel.fail(I)V
set_option maxRecDepth 20000 in
theorem ct_181 {m : Mm} {x1 : Int}  (T_m : Ty m) (r_x1 : rg x1) (p0 : 1 ≤ x1 ∧ x1 ≤ 6) (p1 : 0 ≤ rd m 284 13) : CV 1 181 [.ref 284, iv x1] m (fun m2 => GX sFt m m2 ∧ (((rd m 284 13 = 0 ∧ rd m2 284 13 = x1 ∧ rd m2 284 14 = rd m 288 (Int.toNat (rd m 284 11))) ∨ (¬ rd m 284 13 = 0 ∧ rd m2 284 13 = rd m 284 13 ∧ rd m2 284 14 = rd m 284 14)) ∧ rd m2 284 11 = rd m 284 11 ∧ rd m2 284 15 = rd m 284 15 ∧ rd m2 284 16 = rd m 284 16)) := by
  refine br_181 r_x1 ?_
  unfold P_181
  have g_m : GX sFt m m := ⟨T_m, fun _ _ _ => rfl, fun _ _ => rfl⟩
  refine ⟨fun hq => ?_, fun hq => ?_⟩
  · skip
    intro m10 e_m10
    have g_m10 : GX sFt m m10 := by rw [e_m10]; exact GX.wt g_m (tw_284_13 T_m (by first | assumption | omega)) (Eq.refl true)
    have k10 : rd m10 284 11 = rd m 284 11 := by rw [e_m10, rd_wt, if_neg (by omega)]
    have t2 := ty_284_11 g_m10.1
    refine ⟨⟨by omega, by omega⟩, ?_⟩
    intro m23 e_m23
    have g_m23 : GX sFt m m23 := by rw [e_m23]; exact GX.wt g_m10 (tw_284_14 g_m10.1 (rd_rg _ _ _)) (Eq.refl true)
    have q13 : rd m23 284 13 = x1 := by rw [e_m23, rd_wt, if_neg (by omega), e_m10, rd_wt, if_pos ⟨rfl, rfl⟩, wr_id (by omega) (by omega)]
    have q14 : rd m23 284 14 = rd m 288 (Int.toNat (rd m 284 11)) := by rw [e_m23, rd_wt, if_pos ⟨rfl, rfl⟩, wr_i (rd_rg _ _ _), k10, e_m10, rd_wt, if_neg (by omega)]
    have q11 : rd m23 284 11 = rd m 284 11 := by rw [e_m23, rd_wt, if_neg (by omega), e_m10, rd_wt, if_neg (by omega)]
    have q15 : rd m23 284 15 = rd m 284 15 := by rw [e_m23, rd_wt, if_neg (by omega), e_m10, rd_wt, if_neg (by omega)]
    have q16 : rd m23 284 16 = rd m 284 16 := by rw [e_m23, rd_wt, if_neg (by omega), e_m10, rd_wt, if_neg (by omega)]
    exact ⟨g_m23, by first | exact ⟨Or.inl ⟨by omega, q13, q14⟩, q11, q15, q16⟩ | exact ⟨Or.inr ⟨by omega, rfl, rfl⟩, rfl, rfl, rfl⟩⟩
  · skip
    exact ⟨g_m, by first | exact ⟨Or.inl ⟨by omega, q13, q14⟩, q11, q15, q16⟩ | exact ⟨Or.inr ⟨by omega, rfl, rfl⟩, rfl, rfl, rfl⟩⟩
-- TippedCratesModel.goesOn()V
set_option maxRecDepth 20000 in
theorem ct_183 {m : Mm}   (T_m : Ty m)  (p0 : 0 ≤ rd m 284 13) : CV 2 183 [.ref 284] m (fun m2 => GX sFt m m2 ∧ (((rd m 284 11 < 400 ∧ rd m2 284 11 = rd m 284 11 + 1 ∧ rd m2 284 13 = rd m 284 13 ∧ rd m2 284 14 = rd m 284 14) ∨ (rd m 284 11 = 400 ∧ rd m2 284 11 = 400 ∧ ((rd m 284 13 = 0 ∧ rd m2 284 13 = 2 ∧ rd m2 284 14 = rd m 288 (Int.toNat (rd m 284 11))) ∨ (¬ rd m 284 13 = 0 ∧ rd m2 284 13 = rd m 284 13 ∧ rd m2 284 14 = rd m 284 14)))) ∧ rd m2 284 15 = rd m 284 15 ∧ rd m2 284 16 = rd m 284 16)) := by
  refine br_183  ?_
  unfold P_183
  have g_m : GX sFt m m := ⟨T_m, fun _ _ _ => rfl, fun _ _ => rfl⟩
  have tt := ty_284_11 T_m
  have t1 := ty_284_11 T_m
  refine ⟨fun m_28 => GX sFt m m_28 ∧ (((rd m 284 11 < 400 ∧ rd m_28 284 11 = rd m 284 11 + 1 ∧ rd m_28 284 13 = rd m 284 13 ∧ rd m_28 284 14 = rd m 284 14) ∨ (rd m 284 11 = 400 ∧ rd m_28 284 11 = 400 ∧ ((rd m 284 13 = 0 ∧ rd m_28 284 13 = 2 ∧ rd m_28 284 14 = rd m 288 (Int.toNat (rd m 284 11))) ∨ (¬ rd m 284 13 = 0 ∧ rd m_28 284 13 = rd m 284 13 ∧ rd m_28 284 14 = rd m 284 14)))) ∧ rd m_28 284 15 = rd m 284 15 ∧ rd m_28 284 16 = rd m 284 16), ?_, ?_⟩
  · skip
    refine ⟨fun hq => ?_, fun hq => ?_⟩
    · skip
      try have w2 : wr ((rd m 284 11) + 1) = (rd m 284 11) + 1 := wr_id (by omega) (by omega)
      intro m25 e_m25
      have g_m25 : GX sFt m m25 := by rw [e_m25]; exact GX.wt g_m (tw_284_11 T_m ⟨by omega, by omega⟩) (Eq.refl true)
      have q11 : rd m25 284 11 = rd m 284 11 + 1 := by rw [e_m25, rd_wt, if_pos ⟨rfl, rfl⟩, wr_i (wr_rg _), wr_id (by omega) (by omega)]
      have q13 : rd m25 284 13 = rd m 284 13 := by rw [e_m25, rd_wt, if_neg (by omega)]
      have q14 : rd m25 284 14 = rd m 284 14 := by rw [e_m25, rd_wt, if_neg (by omega)]
      have q15 : rd m25 284 15 = rd m 284 15 := by rw [e_m25, rd_wt, if_neg (by omega)]
      have q16 : rd m25 284 16 = rd m 284 16 := by rw [e_m25, rd_wt, if_neg (by omega)]
      exact ⟨g_m25, by first | exact ⟨Or.inl ⟨by omega, q11, q13, q14⟩, q15, q16⟩ | (refine ⟨Or.inr ⟨by omega, by omega, ?_⟩, by omega, by omega⟩; omega)⟩
    · skip
      refine CV.mono (ct_181   T_m (by unfold rg; decide) (by omega) (by omega)) (by decide) ?_
      rintro m12 ⟨hx_m12, h_m12⟩
      have g_m12 : GX sFt m m12 := gx_in g_m hx_m12 (fun _ _ h => h)
      exact ⟨g_m12, by first | exact ⟨Or.inl ⟨by omega, q11, q13, q14⟩, q15, q16⟩ | (refine ⟨Or.inr ⟨by omega, by omega, ?_⟩, by omega, by omega⟩; omega)⟩
  · intro m_28  hR_28
    obtain ⟨g_m_28, hR_28⟩ := hR_28
    exact ⟨g_m_28, by exact hR_28⟩
-- TippedCratesModel.place()I
set_option maxRecDepth 20000 in
theorem ct_187 {m : Mm}   (T_m : Ty m)   : CK 1 187 [.ref 284] m (fun m2 v => m2 = m ∧ (True)) := by
  refine br_187  ?_
  unfold P_187
  exact ⟨rfl, by first | trivial | omega | (refine ⟨?_, ?_⟩ <;> omega)⟩
-- TippedCratesModel.isOff(II)Z
set_option maxRecDepth 20000 in
theorem ct_188 {m : Mm} {x1 : Int} {x2 : Int}  (T_m : Ty m) (r_x1 : rg x1) (r_x2 : rg x2)  : CK 1 188 [.ref 284, iv x1, iv x2] m (fun m2 v => m2 = m ∧ ((v = 1 ∧ (rd m 293 (Int.toNat (rd m 284 19)) ≤ x1 ∨ rd m 294 (Int.toNat (rd m 284 19)) ≤ x2)) ∨ (v = 0 ∧ ¬ (rd m 293 (Int.toNat (rd m 284 19)) ≤ x1 ∨ rd m 294 (Int.toNat (rd m 284 19)) ≤ x2)))) := by
  refine br_188 r_x1 r_x2 ?_
  unfold P_188
  have t1 := ty_284_19 T_m
  refine ⟨⟨by omega, by omega⟩, ?_⟩
  have t2 := ty_293 T_m (Int.toNat (rd m 284 19))
  refine ⟨fun s0_31 => (s0_31 = 1 ∧ (rd m 293 (Int.toNat (rd m 284 19)) ≤ x1 ∨ rd m 294 (Int.toNat (rd m 284 19)) ≤ x2)) ∨ (s0_31 = 0 ∧ ¬ (rd m 293 (Int.toNat (rd m 284 19)) ≤ x1 ∨ rd m 294 (Int.toNat (rd m 284 19)) ≤ x2)), ?_, ?_⟩
  · skip
    refine ⟨rd m 293 (Int.toNat (rd m 284 19)) ≤ x1 ∨ rd m 294 (Int.toNat (rd m 284 19)) ≤ x2, ?_, ?_⟩
    · skip
      refine ⟨fun hq => ?_, fun hq => ?_⟩
      · skip
        (first | trivial | omega | (refine ⟨?_, ?_⟩ <;> omega))
      · skip
        refine ⟨⟨by omega, by omega⟩, ?_⟩
        have t3 := ty_294 T_m (Int.toNat (rd m 284 19))
        refine ⟨fun hq => ?_, fun hq => ?_⟩
        · skip
          (first | trivial | omega | (refine ⟨?_, ?_⟩ <;> omega))
        · skip
          (first | trivial | omega | (refine ⟨?_, ?_⟩ <;> omega))
    · intro   hR_26
      (first | trivial | omega | (refine ⟨?_, ?_⟩ <;> omega))
  · intro s0_31 r_s0_31 hR_31
    exact ⟨by omega, ⟨rfl, by first | trivial | omega | (refine ⟨?_, ?_⟩ <;> omega)⟩⟩
