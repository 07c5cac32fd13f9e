/-- four bytes more -/
def pushR (m m2 : Mm) (r i k : Nat) (x : Int) : Prop := rd m2 i k = rd m i k + 4 ∧ (∀ j : Nat, (j : Int) < rd m i k → rd m2 r j = rd m r j) ∧ ∀ q : Nat, q < 4 → rd m2 r (Int.toNat (rd m i k) + q) = nb (nb (srI x (24 - 8 * (q : Int))))
def puI (m m3 : Mm) (r i k : Nat) (x : Int) : Prop := (0 ≤ rd m i k ∧ rd m i k ≤ rd m3 i k) ∧ (∀ j : Nat, (j : Int) < rd m i k → rd m3 r j = rd m r j) ∧ ∀ q : Nat, (q : Int) < rd m3 i k - rd m i k → rd m3 r (Int.toNat (rd m i k) + q) = nb (nb (srI x (24 - 8 * (q : Int))))
theorem pu_0 {m : Mm} {r i k : Nat} {x : Int} (h : 0 ≤ rd m i k := by omega) : puI m m r i k x := ⟨⟨h, Int.le_refl _⟩, fun _ _ => rfl, fun q hq => by omega⟩
theorem pu_s {m m3 m4 : Mm} {r i k : Nat} {x x2 : Int} (h : puI m m3 r i k x) (h0 : 0 ≤ rd m i k) (e8 : 8 * rd m3 i k + x2 = 8 * rd m i k + 24) (n : rd m4 i k = rd m3 i k + 1) (_z : 0 ≤ x2) (f : ∀ j : Nat, ¬ (j : Int) = rd m3 i k → rd m4 r j = rd m3 r j) (v : rd m4 r (Int.toNat (rd m3 i k)) = nb (nb (srI x x2))) : puI m m4 r i k x := by
  obtain ⟨h1, h2, h3⟩ := h
  refine ⟨by omega, fun j hj => (f j (by omega)).trans (h2 j hj), fun q hq => ?_⟩
  by_cases z : (q : Int) < rd m3 i k - rd m i k
  · rw [f _ (by omega)]
    exact h3 q z
  · rw [show Int.toNat (rd m i k) + q = Int.toNat (rd m3 i k) by omega, v, show x2 = 24 - 8 * (q : Int) by omega]
theorem pu_e {m m3 : Mm} {r i k : Nat} {x : Int} (h : puI m m3 r i k x) (e : rd m3 i k = rd m i k + 4) : pushR m m3 r i k x := ⟨e, h.2.1, fun q hq => h.2.2 q (by omega)⟩
def feB (q : Nat) (x1 x2 x3 x4 x5 : Int) : Int := nb (nb (srI (if q < 4 then x1 else if q < 8 then x2 else if q < 12 then x3 else if q < 16 then x4 else x5) (24 - 8 * ((q % 4 : Nat) : Int))))
def feR (m m2 : Mm) (r i k : Nat) (x1 x2 x3 x4 x5 : Int) : Prop := (rd m i k ≤ 1980 ∧ rd m2 i k = rd m i k + 20 ∧ (∀ j : Nat, (j : Int) < rd m i k → rd m2 r j = rd m r j) ∧ ∀ q : Nat, q < 20 → rd m2 r (Int.toNat (rd m i k) + q) = feB q x1 x2 x3 x4 x5) ∨ (¬ rd m i k ≤ 1980 ∧ rd m2 i k = rd m i k ∧ ∀ j : Nat, rd m2 r j = rd m r j)
theorem fe_of {m a b c d e : Mm} {r i k : Nat} {x1 x2 x3 x4 x5 : Int} (h : 0 ≤ rd m i k ∧ rd m i k ≤ 1980) (h1 : pushR m a r i k x1) (h2 : pushR a b r i k x2) (h3 : pushR b c r i k x3) (h4 : pushR c d r i k x4) (h5 : pushR d e r i k x5) : rd m i k ≤ 1980 ∧ rd e i k = rd m i k + 20 ∧ (∀ j : Nat, (j : Int) < rd m i k → rd e r j = rd m r j) ∧ ∀ q : Nat, q < 20 → rd e r (Int.toNat (rd m i k) + q) = feB q x1 x2 x3 x4 x5 := by
  obtain ⟨a1, a2, a3⟩ := h1
  obtain ⟨b1, b2, b3⟩ := h2
  obtain ⟨c1, c2, c3⟩ := h3
  obtain ⟨d1, d2, d3⟩ := h4
  obtain ⟨e1, e2, e3⟩ := h5
  refine ⟨h.2, by omega, fun j hj => by rw [e2 j (by omega), d2 j (by omega), c2 j (by omega), b2 j (by omega), a2 j hj], fun q hq => ?_⟩
  unfold feB
  by_cases q1 : q < 4
  · rw [if_pos q1, e2 _ (by omega), d2 _ (by omega), c2 _ (by omega), b2 _ (by omega), a3 q q1, show ((q % 4 : Nat) : Int) = q by omega]
  · rw [if_neg q1]
    by_cases q2 : q < 8
    · rw [if_pos q2, e2 _ (by omega), d2 _ (by omega), c2 _ (by omega), show Int.toNat (rd m i k) + q = Int.toNat (rd a i k) + (q - 4) by omega, b3 (q - 4) (by omega), show ((q % 4 : Nat) : Int) = ((q - 4 : Nat) : Int) by omega]
    · rw [if_neg q2]
      by_cases q3 : q < 12
      · rw [if_pos q3, e2 _ (by omega), d2 _ (by omega), show Int.toNat (rd m i k) + q = Int.toNat (rd b i k) + (q - 8) by omega, c3 (q - 8) (by omega), show ((q % 4 : Nat) : Int) = ((q - 8 : Nat) : Int) by omega]
      · rw [if_neg q3]
        by_cases q4 : q < 16
        · rw [if_pos q4, e2 _ (by omega), show Int.toNat (rd m i k) + q = Int.toNat (rd c i k) + (q - 12) by omega, d3 (q - 12) (by omega), show ((q % 4 : Nat) : Int) = ((q - 12 : Nat) : Int) by omega]
        · rw [if_neg q4, show Int.toNat (rd m i k) + q = Int.toNat (rd d i k) + (q - 16) by omega, e3 (q - 16) (by omega), show ((q % 4 : Nat) : Int) = ((q - 16 : Nat) : Int) by omega]
-- TippedCrates$Tape.push(I)V
set_option maxRecDepth 20000 in
theorem cx_86 {m : Mm} {x1 : Int}  (T_m : Ty m) (r_x1 : rg x1) (p0 : rd m 1 0 ≤ 1996) : CV 1 86 [.ref 1, iv x1] m (fun m2 => GX sPu m m2 ∧ (pushR m m2 5 1 0 x1)) := by
  refine br_86 r_x1 ?_
  unfold P_86
  have g_m : GX sPu m m := ⟨T_m, fun _ _ _ => rfl, fun _ _ => rfl⟩
  have t0 := ty_1_0 T_m
  refine ⟨fun x2_3 m_3 => GX sPu m m_3 ∧ (((x2_3 = 24 ∨ x2_3 = 16 ∨ x2_3 = 8 ∨ x2_3 = 0 ∨ x2_3 = -8) ∧ 8 * rd m_3 1 0 + x2_3 = 8 * rd m 1 0 + 24) ∧ puI m m_3 5 1 0 x1), fun x2_3 m_3 => Int.toNat (x2_3 + 8), ?_, ?_⟩
  · exact ⟨g_m, by exact ⟨by omega, pu_0⟩⟩
  · intro x2_3 m_3 r_x2_3 hI_3
    obtain ⟨g_m_3, hI_3⟩ := hI_3
    have tt := ty_1_0 g_m_3.1
    refine ⟨2000 ≤ rd m_3 1 0 ∨ x2_3 < 0, ?_, ?_⟩
    · skip
      refine ⟨fun hq => ?_, fun hq => ?_⟩
      · skip
        (first | trivial | omega | (refine ⟨?_, ?_⟩ <;> omega))
      · skip
        have t1 := ty_1_0 g_m_3.1
        refine ⟨fun hq => ?_, fun hq => ?_⟩
        · skip
          (first | trivial | omega | (refine ⟨?_, ?_⟩ <;> omega))
        · skip
          refine ⟨⟨by omega, by omega⟩, ?_⟩
          have nbf2 := nb_bd (srI x1 x2_3)
          have nbf3 := nb_bd (nb (srI x1 x2_3))
          intro m29 e_m29
          have g_m29 : GX sPu m m29 := by rw [e_m29]; exact GX.wt g_m_3 (tw_5 g_m_3.1 ⟨by omega, by omega⟩) (Eq.refl true)
          have n1 : rd m29 1 0 = rd m_3 1 0 := by rw [e_m29, rd_wt, if_neg (by omega)]
          have t4 := ty_1_0 g_m29.1
          try have w5 : wr ((rd m29 1 0) + 1) = (rd m29 1 0) + 1 := wr_id (by omega) (by omega)
          intro m37 e_m37
          have g_m37 : GX sPu m m37 := by rw [e_m37]; exact GX.wt g_m29 (tw_1_0 g_m29.1 ⟨by omega, by omega⟩) (Eq.refl true)
          have n2 : rd m37 1 0 = rd m29 1 0 + 1 := by rw [e_m37, rd_wt, if_pos ⟨rfl, rfl⟩, wr_i (wr_rg _), wr_id (by omega) (by omega)]
          have pu : puI m m37 5 1 0 x1 := pu_s (x2 := x2_3) hI_3.2 (by omega) (by omega) (by omega) (by omega) (fun j hj => by rw [e_m37, rd_wt, if_neg (by omega), e_m29, rd_wt, if_neg (by omega)]) (by rw [e_m37, rd_wt, if_neg (by omega), e_m29, rd_wt, if_pos ⟨rfl, rfl⟩, wr_i (nb_rg _)])
          try have w6 : wr (x2_3 + (-8)) = x2_3 + (-8) := wr_id (by omega) (by omega)
          intro z2_40 e_z2_40
          have r_z2_40 : rg z2_40 := by rw [e_z2_40]; exact wr_rg _
          exact ⟨⟨g_m37, by exact ⟨by omega, pu⟩⟩, by (try dsimp only); omega⟩
    · intro   hR_46
      exact ⟨g_m_3, by exact pu_e hI_3.2 (by omega)⟩
-- TippedCratesModel.lays(I)V
set_option maxRecDepth 20000 in
theorem mx_170 {m : Mm} {x1 : Int}  (T_m : Ty m) (r_x1 : rg x1) (p0 : rd m 284 2 ≤ 1996) : CV 1 170 [.ref 284, iv x1] m (fun m2 => GX sTp m m2 ∧ (pushR m m2 285 284 2 x1)) := by
  refine br_170 r_x1 ?_
  unfold P_170
  have g_m : GX sTp m m := ⟨T_m, fun _ _ _ => rfl, fun _ _ => rfl⟩
  have t0 := ty_284_2 T_m
  refine ⟨fun x2_3 m_3 => GX sTp m m_3 ∧ (((x2_3 = 24 ∨ x2_3 = 16 ∨ x2_3 = 8 ∨ x2_3 = 0 ∨ x2_3 = -8) ∧ 8 * rd m_3 284 2 + x2_3 = 8 * rd m 284 2 + 24) ∧ puI m m_3 285 284 2 x1), fun x2_3 m_3 => Int.toNat (x2_3 + 8), ?_, ?_⟩
  · exact ⟨g_m, by exact ⟨by omega, pu_0⟩⟩
  · intro x2_3 m_3 r_x2_3 hI_3
    obtain ⟨g_m_3, hI_3⟩ := hI_3
    have tt := ty_284_2 g_m_3.1
    refine ⟨fun hq => ?_, fun hq => ?_⟩
    · skip
      exact ⟨g_m_3, by exact pu_e hI_3.2 (by omega)⟩
    · skip
      have t1 := ty_284_2 g_m_3.1
      refine ⟨⟨by omega, by omega⟩, ?_⟩
      have nbf2 := nb_bd (srI x1 x2_3)
      have nbf3 := nb_bd (nb (srI x1 x2_3))
      intro m19 e_m19
      have g_m19 : GX sTp m m19 := by rw [e_m19]; exact GX.wt g_m_3 (tw_285 g_m_3.1 ⟨by omega, by omega⟩) (Eq.refl true)
      have n1 : rd m19 284 2 = rd m_3 284 2 := by rw [e_m19, rd_wt, if_neg (by omega)]
      have t4 := ty_284_2 g_m19.1
      try have w5 : wr ((rd m19 284 2) + 1) = (rd m19 284 2) + 1 := wr_id (by omega) (by omega)
      intro m27 e_m27
      have g_m27 : GX sTp m m27 := by rw [e_m27]; exact GX.wt g_m19 (tw_284_2 g_m19.1 ⟨by omega, by omega⟩) (Eq.refl true)
      have n2 : rd m27 284 2 = rd m19 284 2 + 1 := by rw [e_m27, rd_wt, if_pos ⟨rfl, rfl⟩, wr_i (wr_rg _), wr_id (by omega) (by omega)]
      have pu : puI m m27 285 284 2 x1 := pu_s (x2 := x2_3) hI_3.2 (by omega) (by omega) (by omega) (by omega) (fun j hj => by rw [e_m27, rd_wt, if_neg (by omega), e_m19, rd_wt, if_neg (by omega)]) (by rw [e_m27, rd_wt, if_neg (by omega), e_m19, rd_wt, if_pos ⟨rfl, rfl⟩, wr_i (nb_rg _)])
      try have w6 : wr (x2_3 + (-8)) = x2_3 + (-8) := wr_id (by omega) (by omega)
      intro z2_30 e_z2_30
      have r_z2_30 : rg z2_30 := by rw [e_z2_30]; exact wr_rg _
      exact ⟨⟨g_m27, by exact ⟨by omega, pu⟩⟩, by (try dsimp only); omega⟩
-- TippedCrates.feed(IIIII)I
set_option maxRecDepth 20000 in
theorem cx_122 {m : Mm} {x1 : Int} {x2 : Int} {x3 : Int} {x4 : Int} {x5 : Int}  (T_m : Ty m) (r_x1 : rg x1) (r_x2 : rg x2) (r_x3 : rg x3) (r_x4 : rg x4) (r_x5 : rg x5)  : CK 2 122 [.ref 0, iv x1, iv x2, iv x3, iv x4, iv x5] m (fun m2 v => GX sPu m m2 ∧ (feR m m2 5 1 0 x1 x2 x3 x4 x5 ∧ ((rd m 1 0 ≤ 1980 ∧ v = rd m 1 0 + 20) ∨ (¬ rd m 1 0 ≤ 1980 ∧ v = -1)))) := by
  refine br_122 r_x1 r_x2 r_x3 r_x4 r_x5 ?_
  unfold P_122
  have g_m : GX sPu m m := ⟨T_m, fun _ _ _ => rfl, fun _ _ => rfl⟩
  have t0 := ty_1_0 T_m
  have t1 := ty_1_0 T_m
  refine ⟨fun hq => ?_, fun hq => ?_⟩
  · skip
    refine CV.mono (cx_86   T_m r_x1 (by omega)) (by decide) ?_
    rintro m20 ⟨hx_m20, h_m20⟩
    have g_m20 : GX sPu m m20 := gx_in g_m hx_m20 (fun _ _ h => h)
    have z0 := h_m20.1
    refine CV.mono (cx_86   g_m20.1 r_x2 (by omega)) (by decide) ?_
    rintro m28 ⟨hx_m28, h_m28⟩
    have g_m28 : GX sPu m m28 := gx_in g_m20 hx_m28 (fun _ _ h => h)
    have z1 := h_m28.1
    refine CV.mono (cx_86   g_m28.1 r_x3 (by omega)) (by decide) ?_
    rintro m36 ⟨hx_m36, h_m36⟩
    have g_m36 : GX sPu m m36 := gx_in g_m28 hx_m36 (fun _ _ h => h)
    have z2 := h_m36.1
    refine CV.mono (cx_86   g_m36.1 r_x4 (by omega)) (by decide) ?_
    rintro m45 ⟨hx_m45, h_m45⟩
    have g_m45 : GX sPu m m45 := gx_in g_m36 hx_m45 (fun _ _ h => h)
    have z3 := h_m45.1
    refine CV.mono (cx_86   g_m45.1 r_x5 (by omega)) (by decide) ?_
    rintro m54 ⟨hx_m54, h_m54⟩
    have g_m54 : GX sPu m m54 := gx_in g_m45 hx_m54 (fun _ _ h => h)
    have z4 := h_m54.1
    have t2 := ty_1_0 g_m54.1
    exact ⟨g_m54, by first | exact ⟨Or.inr ⟨by omega, rfl, fun _ => rfl⟩, Or.inr ⟨by omega, rfl⟩⟩ | exact ⟨Or.inl (fe_of (by omega) h_m20 h_m28 h_m36 h_m45 h_m54), Or.inl ⟨by omega, by omega⟩⟩⟩
  · skip
    exact ⟨g_m, by first | exact ⟨Or.inr ⟨by omega, rfl, fun _ => rfl⟩, Or.inr ⟨by omega, rfl⟩⟩ | exact ⟨Or.inl (fe_of (by omega) h_m20 h_m28 h_m36 h_m45 h_m54), Or.inl ⟨by omega, by omega⟩⟩⟩
-- TippedCratesModel.feed(IIIII)I
set_option maxRecDepth 20000 in
theorem mx_169 {m : Mm} {x1 : Int} {x2 : Int} {x3 : Int} {x4 : Int} {x5 : Int}  (T_m : Ty m) (r_x1 : rg x1) (r_x2 : rg x2) (r_x3 : rg x3) (r_x4 : rg x4) (r_x5 : rg x5)  : CK 2 169 [.ref 284, iv x1, iv x2, iv x3, iv x4, iv x5] m (fun m2 v => GX sTp m m2 ∧ (feR m m2 285 284 2 x1 x2 x3 x4 x5 ∧ ((rd m 284 2 ≤ 1980 ∧ v = rd m 284 2 + 20) ∨ (¬ rd m 284 2 ≤ 1980 ∧ v = -1)))) := by
  refine br_169 r_x1 r_x2 r_x3 r_x4 r_x5 ?_
  unfold P_169
  have g_m : GX sTp m m := ⟨T_m, fun _ _ _ => rfl, fun _ _ => rfl⟩
  have t0 := ty_284_2 T_m
  have t1 := ty_284_2 T_m
  try have w2 : wr ((rd m 284 2) + 20) = (rd m 284 2) + 20 := wr_id (by omega) (by omega)
  refine ⟨fun hq => ?_, fun hq => ?_⟩
  · skip
    refine CV.mono (mx_170   T_m r_x1 (by omega)) (by decide) ?_
    rintro m17 ⟨hx_m17, h_m17⟩
    have g_m17 : GX sTp m m17 := gx_in g_m hx_m17 (fun _ _ h => h)
    have z0 := h_m17.1
    refine CV.mono (mx_170   g_m17.1 r_x2 (by omega)) (by decide) ?_
    rintro m22 ⟨hx_m22, h_m22⟩
    have g_m22 : GX sTp m m22 := gx_in g_m17 hx_m22 (fun _ _ h => h)
    have z1 := h_m22.1
    refine CV.mono (mx_170   g_m22.1 r_x3 (by omega)) (by decide) ?_
    rintro m27 ⟨hx_m27, h_m27⟩
    have g_m27 : GX sTp m m27 := gx_in g_m22 hx_m27 (fun _ _ h => h)
    have z2 := h_m27.1
    refine CV.mono (mx_170   g_m27.1 r_x4 (by omega)) (by decide) ?_
    rintro m33 ⟨hx_m33, h_m33⟩
    have g_m33 : GX sTp m m33 := gx_in g_m27 hx_m33 (fun _ _ h => h)
    have z3 := h_m33.1
    refine CV.mono (mx_170   g_m33.1 r_x5 (by omega)) (by decide) ?_
    rintro m39 ⟨hx_m39, h_m39⟩
    have g_m39 : GX sTp m m39 := gx_in g_m33 hx_m39 (fun _ _ h => h)
    have z4 := h_m39.1
    have t3 := ty_284_2 g_m39.1
    exact ⟨g_m39, by first | exact ⟨Or.inr ⟨by omega, rfl, fun _ => rfl⟩, Or.inr ⟨by omega, rfl⟩⟩ | exact ⟨Or.inl (fe_of (by omega) h_m17 h_m22 h_m27 h_m33 h_m39), Or.inl ⟨by omega, by omega⟩⟩⟩
  · skip
    exact ⟨g_m, by first | exact ⟨Or.inr ⟨by omega, rfl, fun _ => rfl⟩, Or.inr ⟨by omega, rfl⟩⟩ | exact ⟨Or.inl (fe_of (by omega) h_m17 h_m22 h_m27 h_m33 h_m39), Or.inl ⟨by omega, by omega⟩⟩⟩
