/-- what the model's calls write, but read, feed, back -/
def sMd (i j : Nat) : Bool := Nat.beq i 317 || Nat.beq i 318 || Nat.beq i 321 || Nat.beq i 322 || Nat.beq i 323 || Nat.beq i 324 || Nat.beq i 334 || Nat.beq i 335 || Nat.beq i 336 || Nat.beq i 339 || Nat.beq i 340 || (Nat.beq i 284 && (Nat.beq j 51 || Nat.beq j 58 || Nat.beq j 60 || Nat.beq j 72))
/-- the tape -/
def sTp (i j : Nat) : Bool := Nat.beq i 285 || (Nat.beq i 284 && Nat.beq j 2)
-- TippedCratesModel.keepsRow()V
set_option maxRecDepth 20000 in
theorem ct_215 {m : Mm}   (T_m : Ty m)   : CV 1 215 [.ref 284] m (fun m2 => GX sMd m m2 ∧ (True)) := by
  refine br_215  ?_
  unfold P_215
  have g_m : GX sMd m m := ⟨T_m, fun _ _ _ => rfl, fun _ _ => rfl⟩
  refine ⟨fun x1_2 m_2 => GX sMd m m_2 ∧ (0 ≤ x1_2 ∧ x1_2 ≤ 51), fun x1_2 m_2 => Int.toNat (51 - x1_2), ?_, ?_⟩
  · exact ⟨g_m, by first | omega | (refine ⟨?_, ?_⟩ <;> omega) | trivial⟩
  · intro x1_2 m_2 r_x1_2 hI_2
    obtain ⟨g_m_2, hI_2⟩ := hI_2
    refine ⟨fun hq => ?_, fun hq => ?_⟩
    · skip
      exact ⟨g_m_2, by first | trivial | omega | (refine ⟨?_, ?_⟩ <;> omega)⟩
    · skip
      refine ⟨⟨by omega, by omega⟩, ?_⟩
      refine ⟨⟨by omega, by omega⟩, ?_⟩
      have t1 := tr_323 g_m_2.1 (Int.toNat x1_2)
      intro m19 e_m19
      have g_m19 : GX sMd m m19 := by rw [e_m19]; exact GX.wt g_m_2 (tz_322 g_m_2.1 (rd_rg _ _ _) (by omega) (by omega)) (Eq.refl true)
      try have w2 : wr (x1_2 + 1) = x1_2 + 1 := wr_id (by omega) (by omega)
      intro z1_20 e_z1_20
      have r_z1_20 : rg z1_20 := by rw [e_z1_20]; exact wr_rg _
      exact ⟨⟨g_m19, by first | omega | (refine ⟨?_, ?_⟩ <;> omega) | trivial⟩, by (try dsimp only); omega⟩
-- TippedCratesModel.records()V
set_option maxRecDepth 20000 in
theorem ct_240 {m : Mm}   (T_m : Ty m)   : CV 2 240 [.ref 284] m (fun m2 => GX sMd m m2 ∧ (True)) := by
  refine br_240  ?_
  unfold P_240
  have g_m : GX sMd m m := ⟨T_m, fun _ _ _ => rfl, fun _ _ => rfl⟩
  have tu := ty_284_60 T_m
  have t1 := ty_284_60 T_m
  refine ⟨fun m_49 => GX sMd m m_49 ∧ (rd m_49 284 60 ≤ 39), ?_, ?_⟩
  · skip
    refine ⟨fun hq => ?_, fun hq => ?_⟩
    · skip
      exact ⟨g_m, by first | trivial | omega | (refine ⟨?_, ?_⟩ <;> omega)⟩
    · skip
      refine ⟨fun x1_11 m_11 => GX sMd m m_11 ∧ ((0 ≤ x1_11 ∧ x1_11 ≤ 1989) ∧ rd m_11 284 60 = 40), fun x1_11 m_11 => Int.toNat (1989 - x1_11), ?_, ?_⟩
      · exact ⟨g_m, by first | omega | (refine ⟨?_, ?_⟩ <;> omega) | trivial⟩
      · intro x1_11 m_11 r_x1_11 hI_11
        obtain ⟨g_m_11, hI_11⟩ := hI_11
        refine ⟨fun hq => ?_, fun hq => ?_⟩
        · skip
          have t2 := ty_284_60 g_m_11.1
          try have w3 : wr ((rd m_11 284 60) - 1) = (rd m_11 284 60) - 1 := wr_id (by omega) (by omega)
          intro m46 e_m46
          have g_m46 : GX sMd m m46 := by rw [e_m46]; exact GX.wt g_m_11 (tw_284_60 g_m_11.1 ⟨by omega, by omega⟩) (Eq.refl true)
          have u46 : rd m46 284 60 = 39 := by rw [e_m46, rd_wt, if_pos ⟨rfl, rfl⟩, hI_11.2]; rfl
          exact ⟨g_m46, by first | trivial | omega | (refine ⟨?_, ?_⟩ <;> omega)⟩
        · skip
          try have w4 : wr (x1_11 + 51) = x1_11 + 51 := wr_id (by omega) (by omega)
          refine ⟨⟨by omega, by omega⟩, ?_⟩
          refine ⟨⟨by omega, by omega⟩, ?_⟩
          have t5 := tr_324 g_m_11.1 (Int.toNat (wr (x1_11 + 51)))
          intro m32 e_m32
          have g_m32 : GX sMd m m32 := by rw [e_m32]; exact GX.wt g_m_11 (tz_324 g_m_11.1 (rd_rg _ _ _) (fun h => (tr_324 g_m_11.1 _).1 (by omega)) (fun h1 h2 => (tr_324 g_m_11.1 _).2 (by omega) (by omega))) (Eq.refl true)
          have u32 : rd m32 284 60 = rd m_11 284 60 := by rw [e_m32, rd_wt, if_neg (by omega)]
          try have w6 : wr (x1_11 + 1) = x1_11 + 1 := wr_id (by omega) (by omega)
          intro z1_33 e_z1_33
          have r_z1_33 : rg z1_33 := by rw [e_z1_33]; exact wr_rg _
          exact ⟨⟨g_m32, by first | omega | (refine ⟨?_, ?_⟩ <;> omega) | trivial⟩, by (try dsimp only); omega⟩
  · intro m_49  hR_49
    obtain ⟨g_m_49, hR_49⟩ := hR_49
    refine ⟨fun x1_51 m_51 => GX sMd m m_51 ∧ ((0 ≤ x1_51 ∧ x1_51 ≤ 51) ∧ rd m_51 284 60 ≤ 39), fun x1_51 m_51 => Int.toNat (51 - x1_51), ?_, ?_⟩
    · exact ⟨g_m_49, by first | omega | (refine ⟨?_, ?_⟩ <;> omega) | trivial⟩
    · intro x1_51 m_51 r_x1_51 hI_51
      obtain ⟨g_m_51, hI_51⟩ := hI_51
      refine ⟨fun hq => ?_, fun hq => ?_⟩
      · skip
        have t7 := ty_284_60 g_m_51.1
        try have w8 : wr ((rd m_51 284 60) + 1) = (rd m_51 284 60) + 1 := wr_id (by omega) (by omega)
        intro m90 e_m90
        have g_m90 : GX sMd m m90 := by rw [e_m90]; exact GX.wt g_m_51 (tw_284_60 g_m_51.1 ⟨by omega, by omega⟩) (Eq.refl true)
        refine CV.mono (ct_215   g_m90.1) (by decide) ?_
        rintro m94 ⟨hx_m94, h_m94⟩
        have g_m94 : GX sMd m m94 := gx_in g_m90 hx_m94 (fun _ _ h => h)
        exact ⟨g_m94, by first | trivial | omega | (refine ⟨?_, ?_⟩ <;> omega)⟩
      · skip
        refine ⟨⟨by omega, by omega⟩, ?_⟩
        have t9 := ty_284_60 g_m_51.1
        try have w10 : wr (51 * (rd m_51 284 60)) = 51 * (rd m_51 284 60) := wr_id (by omega) (by omega)
        try have w11 : wr ((wr (51 * (rd m_51 284 60))) + x1_51) = (wr (51 * (rd m_51 284 60))) + x1_51 := wr_id (by omega) (by omega)
        refine ⟨⟨by omega, by omega⟩, ?_⟩
        have t12 := tr_322 g_m_51.1 (Int.toNat x1_51)
        intro m76 e_m76
        have g_m76 : GX sMd m m76 := by rw [e_m76]; exact GX.wt g_m_51 (tz_324 g_m_51.1 (rd_rg _ _ _) (fun h => (tr_322 g_m_51.1 _).1 (by omega)) (fun h1 h2 => (tr_322 g_m_51.1 _).2 (by omega) (by omega))) (Eq.refl true)
        have u76 : rd m76 284 60 = rd m_51 284 60 := by rw [e_m76, rd_wt, if_neg (by omega)]
        try have w13 : wr (x1_51 + 1) = x1_51 + 1 := wr_id (by omega) (by omega)
        intro z1_77 e_z1_77
        have r_z1_77 : rg z1_77 := by rw [e_z1_77]; exact wr_rg _
        exact ⟨⟨g_m76, by first | omega | (refine ⟨?_, ?_⟩ <;> omega) | trivial⟩, by (try dsimp only); omega⟩
-- TippedCratesModel.undo()Z
set_option maxRecDepth 20000 in
theorem ct_245 {m : Mm}   (T_m : Ty m)   : CK 1 245 [.ref 284] m (fun m2 v => GX sMd m m2 ∧ (True)) := by
  refine br_245  ?_
  unfold P_245
  have g_m : GX sMd m m := ⟨T_m, fun _ _ _ => rfl, fun _ _ => rfl⟩
  have tu := ty_284_60 T_m
  have t1 := ty_284_60 T_m
  refine ⟨fun hq => ?_, fun hq => ?_⟩
  · skip
    try have w2 : wr ((rd m 284 60) - 1) = (rd m 284 60) - 1 := wr_id (by omega) (by omega)
    intro m16 e_m16
    have g_m16 : GX sMd m m16 := by rw [e_m16]; exact GX.wt g_m (tw_284_60 T_m ⟨by omega, by omega⟩) (Eq.refl true)
    have u16 : rd m16 284 60 = rd m 284 60 - 1 := by rw [e_m16, rd_wt, if_pos ⟨rfl, rfl⟩, wr_i (wr_rg _), wr_id (by omega) (by omega)]
    refine ⟨fun x1_21 m_21 => GX sMd m m_21 ∧ ((0 ≤ x1_21 ∧ x1_21 ≤ 51) ∧ rd m_21 284 60 ≤ 39), fun x1_21 m_21 => Int.toNat (51 - x1_21), ?_, ?_⟩
    · exact ⟨g_m16, by first | omega | (refine ⟨?_, ?_⟩ <;> omega) | trivial⟩
    · intro x1_21 m_21 r_x1_21 hI_21
      obtain ⟨g_m_21, hI_21⟩ := hI_21
      refine ⟨fun hq => ?_, fun hq => ?_⟩
      · skip
        exact ⟨g_m_21, by first | trivial | omega | (refine ⟨?_, ?_⟩ <;> omega)⟩
      · skip
        have t3 := ty_284_60 g_m_21.1
        try have w4 : wr (51 * (rd m_21 284 60)) = 51 * (rd m_21 284 60) := wr_id (by omega) (by omega)
        try have w5 : wr ((wr (51 * (rd m_21 284 60))) + x1_21) = (wr (51 * (rd m_21 284 60))) + x1_21 := wr_id (by omega) (by omega)
        refine ⟨⟨by omega, by omega⟩, ?_⟩
        refine ⟨⟨by omega, by omega⟩, ?_⟩
        have t6 := tr_324 g_m_21.1 (Int.toNat (wr ((wr (51 * (rd m_21 284 60))) + x1_21)))
        intro m46 e_m46
        have g_m46 : GX sMd m m46 := by rw [e_m46]; exact GX.wt g_m_21 (tz_322 g_m_21.1 (rd_rg _ _ _) (fun h => (tr_324 g_m_21.1 _).1 (by omega)) (fun h1 h2 => (tr_324 g_m_21.1 _).2 (by omega) (by omega))) (Eq.refl true)
        have u46 : rd m46 284 60 = rd m_21 284 60 := by rw [e_m46, rd_wt, if_neg (by omega)]
        try have w7 : wr (x1_21 + 1) = x1_21 + 1 := wr_id (by omega) (by omega)
        intro z1_47 e_z1_47
        have r_z1_47 : rg z1_47 := by rw [e_z1_47]; exact wr_rg _
        exact ⟨⟨g_m46, by first | omega | (refine ⟨?_, ?_⟩ <;> omega) | trivial⟩, by (try dsimp only); omega⟩
  · skip
    exact ⟨g_m, by first | trivial | omega | (refine ⟨?_, ?_⟩ <;> omega)⟩
-- TippedCratesModel.tell(IIZ)I
set_option maxRecDepth 20000 in
theorem ct_277 {m : Mm} {x1 : Int} {x2 : Int} {x3 : Int}  (T_m : Ty m) (r_x1 : rg x1) (r_x2 : rg x2) (r_x3 : rg x3)  : CK 3 277 [.ref 284, iv x1, iv x2, iv x3] m (fun m2 v => GX sMd m m2 ∧ (True)) := by
  refine br_277 r_x1 r_x2 r_x3 ?_
  unfold P_277
  have g_m : GX sMd m m := ⟨T_m, fun _ _ _ => rfl, fun _ _ => rfl⟩
  have tt := ty_284_72 T_m
  have t1 := ty_284_72 T_m
  refine ⟨fun m_25 => GX sMd m m_25 ∧ (True), ?_, ?_⟩
  · skip
    refine ⟨fun hq => ?_, fun hq => ?_⟩
    · skip
      exact ⟨g_m, by first | trivial | omega | (refine ⟨?_, ?_⟩ <;> omega)⟩
    · skip
      refine CK.mono (ct_206   r_x1 (by unfold rg; decide) (by unfold rg; decide)) (by decide) ?_
      rintro m12 v12 r_v12 ⟨e_m12, h_m12⟩
      replace e_m12 := e_m12.symm
      subst e_m12
      refine ⟨fun hq => ?_, fun hq => ?_⟩
      · skip
        exact ⟨g_m, by first | trivial | omega | (refine ⟨?_, ?_⟩ <;> omega)⟩
      · skip
        refine CK.mono (ct_211   r_x2) (by decide) ?_
        rintro m19 v19 r_v19 ⟨e_m19, h_m19⟩
        replace e_m19 := e_m19.symm
        subst e_m19
        refine ⟨fun hq => ?_, fun hq => ?_⟩
        · skip
          refine ⟨⟨by omega, by omega⟩, ?_⟩
          intro m36 e_m36
          have g_m36 : GX sMd m m36 := by rw [e_m36]; exact GX.wt g_m (tw_334 T_m ⟨by omega, by omega⟩) (Eq.refl true)
          have u36 : rd m36 284 72 = rd m 284 72 := by rw [e_m36, rd_wt, if_neg (by omega)]
          have t2 := ty_284_72 g_m36.1
          refine ⟨⟨by omega, by omega⟩, ?_⟩
          intro m46 e_m46
          have g_m46 : GX sMd m m46 := by rw [e_m46]; exact GX.wt g_m36 (tw_335 g_m36.1 (by first | assumption | omega)) (Eq.refl true)
          have u46 : rd m46 284 72 = rd m36 284 72 := by rw [e_m46, rd_wt, if_neg (by omega)]
          have t3 := ty_284_72 g_m46.1
          refine ⟨⟨by omega, by omega⟩, ?_⟩
          intro m56 e_m56
          have g_m56 : GX sMd m m56 := by rw [e_m56]; exact GX.wt g_m46 (tw_336 g_m46.1 (nz_rg _)) (Eq.refl true)
          have u56 : rd m56 284 72 = rd m46 284 72 := by rw [e_m56, rd_wt, if_neg (by omega)]
          have t4 := ty_284_72 g_m56.1
          try have w5 : wr ((rd m56 284 72) + 1) = (rd m56 284 72) + 1 := wr_id (by omega) (by omega)
          intro m64 e_m64
          have g_m64 : GX sMd m m64 := by rw [e_m64]; exact GX.wt g_m56 (tw_284_72 g_m56.1 ⟨by omega, by omega⟩) (Eq.refl true)
          have t6 := ty_284_72 g_m64.1
          try have w7 : wr ((rd m64 284 72) - 1) = (rd m64 284 72) - 1 := wr_id (by omega) (by omega)
          exact ⟨g_m64, by first | trivial | omega | (refine ⟨?_, ?_⟩ <;> omega)⟩
        · skip
          exact ⟨g_m, by first | trivial | omega | (refine ⟨?_, ?_⟩ <;> omega)⟩
  · intro m_25  hR_25
    obtain ⟨g_m_25, hR_25⟩ := hR_25
    exact ⟨g_m_25, by first | trivial | omega | (refine ⟨?_, ?_⟩ <;> omega)⟩
-- TippedCratesModel.forget()I
set_option maxRecDepth 20000 in
theorem ct_278 {m : Mm}   (T_m : Ty m)   : CK 1 278 [.ref 284] m (fun m2 v => GX sMd m m2 ∧ (True)) := by
  refine br_278  ?_
  unfold P_278
  have g_m : GX sMd m m := ⟨T_m, fun _ _ _ => rfl, fun _ _ => rfl⟩
  have t1 := ty_284_72 T_m
  intro z1_4 e_z1_4
  have r_z1_4 : rg z1_4 := by rw [e_z1_4]; exact (rd_rg _ _ _)
  intro m7 e_m7
  have g_m7 : GX sMd m m7 := by rw [e_m7]; exact GX.wt g_m (tw_284_72 T_m ⟨by omega, by omega⟩) (Eq.refl true)
  exact ⟨g_m7, by first | trivial | omega | (refine ⟨?_, ?_⟩ <;> omega)⟩
-- TippedCratesModel.hold(I)Z
set_option maxRecDepth 20000 in
theorem ct_284 {m : Mm} {x1 : Int}  (T_m : Ty m) (r_x1 : rg x1)  : CK 2 284 [.ref 284, iv x1] m (fun m2 v => GX sMd m m2 ∧ ((v = 1 ∧ 0 ≤ x1 ∧ x1 ≤ 2) ∨ (v = 0 ∧ (x1 < 0 ∨ 2 < x1)))) := by
  refine br_284 r_x1 ?_
  unfold P_284
  have g_m : GX sMd m m := ⟨T_m, fun _ _ _ => rfl, fun _ _ => rfl⟩
  refine CK.mono (ct_206   r_x1 (by unfold rg; decide) (by unfold rg; decide)) (by decide) ?_
  rintro m3 v3 r_v3 ⟨e_m3, h_m3⟩
  replace e_m3 := e_m3.symm
  subst e_m3
  refine ⟨fun hq => ?_, fun hq => ?_⟩
  · skip
    refine ⟨⟨by omega, by omega⟩, ?_⟩
    intro m17 e_m17
    have g_m17 : GX sMd m m17 := by rw [e_m17]; exact GX.wt g_m (tw_339 T_m (nz_rg _)) (Eq.refl true)
    refine ⟨fun x2_20 m_20 => GX sMd m m_20 ∧ (0 ≤ x2_20 ∧ x2_20 ≤ 51), fun x2_20 m_20 => Int.toNat (51 - x2_20), ?_, ?_⟩
    · exact ⟨g_m17, by first | omega | (refine ⟨?_, ?_⟩ <;> omega) | trivial⟩
    · intro x2_20 m_20 r_x2_20 hI_20
      obtain ⟨g_m_20, hI_20⟩ := hI_20
      refine ⟨fun hq => ?_, fun hq => ?_⟩
      · skip
        exact ⟨g_m_20, by first | trivial | omega | (refine ⟨?_, ?_⟩ <;> omega)⟩
      · skip
        refine ⟨⟨by omega, by omega⟩, ?_⟩
        try have w1 : wr (51 * x1) = 51 * x1 := wr_id (by omega) (by omega)
        try have w2 : wr ((wr (51 * x1)) + x2_20) = (wr (51 * x1)) + x2_20 := wr_id (by omega) (by omega)
        refine ⟨⟨by omega, by omega⟩, ?_⟩
        have t3 := tr_322 g_m_20.1 (Int.toNat x2_20)
        intro m42 e_m42
        have g_m42 : GX sMd m m42 := by rw [e_m42]; exact GX.wt g_m_20 (tz_340 g_m_20.1 (rd_rg _ _ _) (fun h => (tr_322 g_m_20.1 _).1 (by omega)) (fun h1 h2 => (tr_322 g_m_20.1 _).2 (by omega) (by omega))) (Eq.refl true)
        try have w4 : wr (x2_20 + 1) = x2_20 + 1 := wr_id (by omega) (by omega)
        intro z2_43 e_z2_43
        have r_z2_43 : rg z2_43 := by rw [e_z2_43]; exact wr_rg _
        exact ⟨⟨g_m42, by first | omega | (refine ⟨?_, ?_⟩ <;> omega) | trivial⟩, by (try dsimp only); omega⟩
  · skip
    exact ⟨g_m, by first | trivial | omega | (refine ⟨?_, ?_⟩ <;> omega)⟩
-- TippedCratesModel.restore(I)Z
set_option maxRecDepth 20000 in
theorem ct_285 {m : Mm} {x1 : Int}  (T_m : Ty m) (r_x1 : rg x1)  : CK 2 285 [.ref 284, iv x1] m (fun m2 v => GX sMd m m2 ∧ (v = 0 ∨ v = 1)) := by
  refine br_285 r_x1 ?_
  unfold P_285
  have g_m : GX sMd m m := ⟨T_m, fun _ _ _ => rfl, fun _ _ => rfl⟩
  refine CK.mono (ct_206   r_x1 (by unfold rg; decide) (by unfold rg; decide)) (by decide) ?_
  rintro m3 v3 r_v3 ⟨e_m3, h_m3⟩
  replace e_m3 := e_m3.symm
  subst e_m3
  refine ⟨True, ?_, ?_⟩
  · skip
    refine ⟨fun hq => ?_, fun hq => ?_⟩
    · skip
      (first | trivial | omega | (refine ⟨?_, ?_⟩ <;> omega))
    · skip
      refine ⟨⟨by omega, by omega⟩, ?_⟩
      refine ⟨fun hq => ?_, fun hq => ?_⟩
      · skip
        refine ⟨fun x2_22 m_22 => GX sMd m m_22 ∧ (0 ≤ x2_22 ∧ x2_22 ≤ 51), fun x2_22 m_22 => Int.toNat (51 - x2_22), ?_, ?_⟩
        · exact ⟨g_m, by first | omega | (refine ⟨?_, ?_⟩ <;> omega) | trivial⟩
        · intro x2_22 m_22 r_x2_22 hI_22
          obtain ⟨g_m_22, hI_22⟩ := hI_22
          refine ⟨fun hq => ?_, fun hq => ?_⟩
          · skip
            intro m53 e_m53
            have g_m53 : GX sMd m m53 := by rw [e_m53]; exact GX.wt g_m_22 (tw_284_60 g_m_22.1 ⟨by omega, by omega⟩) (Eq.refl true)
            exact ⟨g_m53, by first | trivial | omega | (refine ⟨?_, ?_⟩ <;> omega)⟩
          · skip
            try have w2 : wr (51 * x1) = 51 * x1 := wr_id (by omega) (by omega)
            try have w3 : wr ((wr (51 * x1)) + x2_22) = (wr (51 * x1)) + x2_22 := wr_id (by omega) (by omega)
            refine ⟨⟨by omega, by omega⟩, ?_⟩
            refine ⟨⟨by omega, by omega⟩, ?_⟩
            have t4 := tr_340 g_m_22.1 (Int.toNat (wr ((wr (51 * x1)) + x2_22)))
            intro m44 e_m44
            have g_m44 : GX sMd m m44 := by rw [e_m44]; exact GX.wt g_m_22 (tz_322 g_m_22.1 (rd_rg _ _ _) (fun h => (tr_340 g_m_22.1 _).1 (by omega)) (fun h1 h2 => (tr_340 g_m_22.1 _).2 (by omega) (by omega))) (Eq.refl true)
            try have w5 : wr (x2_22 + 1) = x2_22 + 1 := wr_id (by omega) (by omega)
            intro z2_45 e_z2_45
            have r_z2_45 : rg z2_45 := by rw [e_z2_45]; exact wr_rg _
            exact ⟨⟨g_m44, by first | omega | (refine ⟨?_, ?_⟩ <;> omega) | trivial⟩, by (try dsimp only); omega⟩
      · skip
        (first | trivial | omega | (refine ⟨?_, ?_⟩ <;> omega))
  · intro   hR_18
    exact ⟨g_m, by first | trivial | omega | (refine ⟨?_, ?_⟩ <;> omega)⟩
-- TippedCratesModel.lays(I)V
set_option maxRecDepth 20000 in
theorem ct_170 {m : Mm} {x1 : Int}  (T_m : Ty m) (r_x1 : rg x1) (p0 : rd m 284 2 ≤ 1996) : CV 1 170 [.ref 284, iv x1] m (fun m2 => GX sTp m m2 ∧ (rd m2 284 2 = rd m 284 2 + 4)) := by
  refine br_170 r_x1 ?_
  unfold P_170
  have g_m : GX sTp m m := ⟨T_m, fun _ _ _ => rfl, fun _ _ => rfl⟩
  refine ⟨fun x2_3 m_3 => GX sTp m m_3 ∧ ((x2_3 = 24 ∨ x2_3 = 16 ∨ x2_3 = 8 ∨ x2_3 = 0 ∨ x2_3 = -8) ∧ 8 * rd m_3 284 2 + x2_3 = 8 * rd m 284 2 + 24), fun x2_3 m_3 => Int.toNat (x2_3 + 8), ?_, ?_⟩
  · exact ⟨g_m, by first | omega | (refine ⟨?_, ?_⟩ <;> omega) | trivial⟩
  · intro x2_3 m_3 r_x2_3 hI_3
    obtain ⟨g_m_3, hI_3⟩ := hI_3
    have tt := ty_284_2 g_m_3.1
    refine ⟨fun hq => ?_, fun hq => ?_⟩
    · skip
      exact ⟨g_m_3, by first | trivial | omega | (refine ⟨?_, ?_⟩ <;> omega)⟩
    · skip
      have t1 := ty_284_2 g_m_3.1
      refine ⟨⟨by omega, by omega⟩, ?_⟩
      have nbf2 := nb_bd (srI x1 x2_3)
      have nbf3 := nb_bd (nb (srI x1 x2_3))
      intro m19 e_m19
      have g_m19 : GX sTp m m19 := by rw [e_m19]; exact GX.wt g_m_3 (tw_285 g_m_3.1 ⟨by omega, by omega⟩) (Eq.refl true)
      have n19 : rd m19 284 2 = rd m_3 284 2 := by rw [e_m19, rd_wt, if_neg (by omega)]
      have t4 := ty_284_2 g_m19.1
      try have w5 : wr ((rd m19 284 2) + 1) = (rd m19 284 2) + 1 := wr_id (by omega) (by omega)
      intro m27 e_m27
      have g_m27 : GX sTp m m27 := by rw [e_m27]; exact GX.wt g_m19 (tw_284_2 g_m19.1 ⟨by omega, by omega⟩) (Eq.refl true)
      have n27 : rd m27 284 2 = rd m19 284 2 + 1 := by rw [e_m27, rd_wt, if_pos ⟨rfl, rfl⟩, wr_i (wr_rg _), wr_id (by omega) (by omega)]
      try have w6 : wr (x2_3 + (-8)) = x2_3 + (-8) := wr_id (by omega) (by omega)
      intro z2_30 e_z2_30
      have r_z2_30 : rg z2_30 := by rw [e_z2_30]; exact wr_rg _
      exact ⟨⟨g_m27, by first | omega | (refine ⟨?_, ?_⟩ <;> omega) | trivial⟩, by (try dsimp only); omega⟩
-- TippedCratesModel.feed(IIIII)I
set_option maxRecDepth 20000 in
theorem ct_169 {m : Mm} {x1 : Int} {x2 : Int} {x3 : Int} {x4 : Int} {x5 : Int}  (T_m : Ty m) (r_x1 : rg x1) (r_x2 : rg x2) (r_x3 : rg x3) (r_x4 : rg x4) (r_x5 : rg x5)  : CK 2 169 [.ref 284, iv x1, iv x2, iv x3, iv x4, iv x5] m (fun m2 v => GX sTp m m2 ∧ ((rd m 284 2 ≤ 1980 ∧ v = rd m 284 2 + 20 ∧ rd m2 284 2 = rd m 284 2 + 20) ∨ (¬ rd m 284 2 ≤ 1980 ∧ v = -1 ∧ rd m2 284 2 = rd m 284 2))) := by
  refine br_169 r_x1 r_x2 r_x3 r_x4 r_x5 ?_
  unfold P_169
  have g_m : GX sTp m m := ⟨T_m, fun _ _ _ => rfl, fun _ _ => rfl⟩
  have t1 := ty_284_2 T_m
  try have w2 : wr ((rd m 284 2) + 20) = (rd m 284 2) + 20 := wr_id (by omega) (by omega)
  refine ⟨fun hq => ?_, fun hq => ?_⟩
  · skip
    refine CV.mono (ct_170   T_m r_x1 (by omega)) (by decide) ?_
    rintro m17 ⟨hx_m17, h_m17⟩
    have g_m17 : GX sTp m m17 := gx_in g_m hx_m17 (fun _ _ h => h)
    refine CV.mono (ct_170   g_m17.1 r_x2 (by omega)) (by decide) ?_
    rintro m22 ⟨hx_m22, h_m22⟩
    have g_m22 : GX sTp m m22 := gx_in g_m17 hx_m22 (fun _ _ h => h)
    refine CV.mono (ct_170   g_m22.1 r_x3 (by omega)) (by decide) ?_
    rintro m27 ⟨hx_m27, h_m27⟩
    have g_m27 : GX sTp m m27 := gx_in g_m22 hx_m27 (fun _ _ h => h)
    refine CV.mono (ct_170   g_m27.1 r_x4 (by omega)) (by decide) ?_
    rintro m33 ⟨hx_m33, h_m33⟩
    have g_m33 : GX sTp m m33 := gx_in g_m27 hx_m33 (fun _ _ h => h)
    refine CV.mono (ct_170   g_m33.1 r_x5 (by omega)) (by decide) ?_
    rintro m39 ⟨hx_m39, h_m39⟩
    have g_m39 : GX sTp m m39 := gx_in g_m33 hx_m39 (fun _ _ h => h)
    have t3 := ty_284_2 g_m39.1
    exact ⟨g_m39, by first | trivial | omega | (refine ⟨?_, ?_⟩ <;> omega)⟩
  · skip
    exact ⟨g_m, by first | trivial | omega | (refine ⟨?_, ?_⟩ <;> omega)⟩
-- TippedCratesModel.back(I)I
set_option maxRecDepth 20000 in
theorem ct_171 {m : Mm} {x1 : Int}  (T_m : Ty m) (r_x1 : rg x1)  : CK 1 171 [.ref 284, iv x1] m (fun m2 v => GX sTp m m2 ∧ ((0 ≤ x1 ∧ x1 ≤ rd m 284 2 ∧ v = rd m 284 2 - x1 ∧ rd m2 284 2 = rd m 284 2 - x1) ∨ (¬ (0 ≤ x1 ∧ x1 ≤ rd m 284 2) ∧ v = -1 ∧ rd m2 284 2 = rd m 284 2))) := by
  refine br_171 r_x1 ?_
  unfold P_171
  have g_m : GX sTp m m := ⟨T_m, fun _ _ _ => rfl, fun _ _ => rfl⟩
  have tt := ty_284_2 T_m
  refine ⟨¬ (0 ≤ x1 ∧ x1 ≤ rd m 284 2), ?_, ?_⟩
  · skip
    refine ⟨fun hq => ?_, fun hq => ?_⟩
    · skip
      (first | trivial | omega | (refine ⟨?_, ?_⟩ <;> omega))
    · skip
      have t1 := ty_284_2 T_m
      refine ⟨fun hq => ?_, fun hq => ?_⟩
      · skip
        try have w2 : wr ((rd m 284 2) - x1) = (rd m 284 2) - x1 := wr_id (by omega) (by omega)
        intro m21 e_m21
        have g_m21 : GX sTp m m21 := by rw [e_m21]; exact GX.wt g_m (tw_284_2 T_m ⟨by omega, by omega⟩) (Eq.refl true)
        have nn : rd m21 284 2 = rd m 284 2 - x1 := by rw [e_m21, rd_wt, if_pos ⟨rfl, rfl⟩, wr_i (wr_rg _), wr_id (by omega) (by omega)]
        have t3 := ty_284_2 g_m21.1
        exact ⟨g_m21, by first | trivial | omega | (refine ⟨?_, ?_⟩ <;> omega)⟩
      · skip
        (first | trivial | omega | (refine ⟨?_, ?_⟩ <;> omega))
  · intro   hR_12
    exact ⟨g_m, by first | trivial | omega | (refine ⟨?_, ?_⟩ <;> omega)⟩
