/-- the row of costs is in range -/
def bsOk (m : Mm) : Prop := ∀ j : Nat, j < 600 → 0 ≤ rd m (Int.toNat (rd m 39 7)) j ∧ rd m (Int.toNat (rd m 39 7)) j ≤ 59401
theorem bs_fr {m m2 : Mm} (h : bsOk m) (T : Ty m) (e : rd m2 39 7 = rd m 39 7) (e2 : ∀ i j, i = 44 ∨ i = 45 → rd m2 i j = rd m i j) : bsOk m2 := by
  intro j hj
  have t := ty_39_7 T
  rw [e, e2 _ j (by omega)]
  exact h j hj
theorem bs_wt {m : Mm} {i j : Nat} {v : Int} (h : bsOk m) (h1 : ¬ i = 44) (h2 : ¬ i = 45) (h3 : ¬ i = 39 ∨ ¬ j = 7) (T : Ty m := by assumption) : bsOk (wt m i j v) :=
  bs_fr h T (by rw [rd_wt, if_neg (by omega)]) (fun a b hab => by rw [rd_wt, if_neg (by omega)])
theorem bs_w {m : Mm} {j : Nat} {v : Int} (h : bsOk m) (T : Ty m) (hv : 0 ≤ v ∧ v ≤ 59401) : bsOk (wt m (Int.toNat (rd m 39 7)) j v) := by
  intro q hq
  have t := ty_39_7 T
  have e : rd (wt m (Int.toNat (rd m 39 7)) j v) 39 7 = rd m 39 7 := by rw [rd_wt, if_neg (by omega)]
  rw [e, rd_wt]
  split
  · rw [wr_id (by omega) (by omega)]; exact hv
  · exact h q hq
theorem bs_12 {m m2 : Mm} (h : bsOk m) (g : GX s12 m m2) (T : Ty m) : bsOk m2 := bs_fr h T (g.2.1 39 7 rfl) (fun i j hi => g.2.1 i j (nb_ne (by omega)))
theorem bs_15 {m m2 : Mm} (h : bsOk m) (g : GX s15 m m2) (T : Ty m) : bsOk m2 := bs_fr h T (g.2.1 39 7 rfl) (fun i j hi => g.2.1 i j (nb_ne (by omega)))
theorem bs_fl {m : Mm} (T : Ty m) : bsOk (flm m (Int.toNat (rd m 39 7)) 600 59401) := by
  intro j hj
  have t := ty_39_7 T
  have e : rd (flm m (Int.toNat (rd m 39 7)) 600 59401) 39 7 = rd m 39 7 := by rw [rd_flm, if_neg (by omega)]
  rw [e, rd_flm, if_pos ⟨rfl, hj⟩, wr_id (by omega) (by omega)]
  omega
theorem bs_fl46 {m : Mm} {v : Int} {n : Nat} (h : bsOk m) (T : Ty m) : bsOk (flm m 46 n v) :=
  bs_fr h T (by rw [rd_flm, if_neg (by omega)]) (fun i j hi => by rw [rd_flm, if_neg (by omega)])
theorem lwOk_G {m0 m : Mm} (h : lwOk m0 11) (g : G m0 m) : lwOk m 11 := lwOk_fr h (g.2.1 11 4 rfl) (fun j => g.2.1 13 j rfl)
/-- what was told -/
def sRw (i j : Nat) : Bool := (Nat.beq i 49 && Nat.beq j 0) || Nat.beq i 50 || Nat.beq i 51 || Nat.beq i 52
-- TippedCrates$Walks.comeTo(III)V
set_option maxRecDepth 20000 in
theorem ct_106 {m0 m : Mm} {x1 : Int} {x2 : Int} {x3 : Int}  (g_m : G m0 m) (r_x1 : rg x1) (r_x2 : rg x2) (r_x3 : rg x3) (p0 : 0 ≤ x1 ∧ x1 ≤ 599) (p1 : -1 ≤ x2 ∧ x2 ≤ 599) : CV 1 106 [.ref 39, iv x1, iv x2, iv x3] m (fun m2 => G m0 m2 ∧ (True)) := by
  refine br_106 r_x1 r_x2 r_x3 ?_
  unfold P_106
  have t1 := ty_39_0 g_m.1
  refine ⟨fun hq => ?_, fun hq => ?_⟩
  · skip
    refine ⟨⟨by omega, by omega⟩, ?_⟩
    intro m20 e_m20
    have g_m20 : G m0 m20 := by rw [e_m20]; exact GX.wt g_m (tw_40 g_m.1 ⟨by omega, by omega⟩) (Eq.refl true)
    have e20 : rd m20 39 0 = rd m 39 0 := by rw [e_m20, rd_wt, if_neg (by omega)]
    have t2 := ty_39_0 g_m20.1
    try have w3 : wr ((rd m20 39 0) + 1) = (rd m20 39 0) + 1 := wr_id (by omega) (by omega)
    intro m28 e_m28
    have g_m28 : G m0 m28 := by rw [e_m28]; exact GX.wt g_m20 (tw_39_0 g_m20.1 ⟨by omega, by omega⟩) (Eq.refl true)
    refine ⟨fun s2_53 => True, ?_, ?_⟩
    · skip
      refine ⟨fun hq => ?_, fun hq => ?_⟩
      · skip
        refine ⟨⟨by omega, by omega⟩, ?_⟩
        try have w5 : wr ((rd m28 41 (Int.toNat x2)) + 1) = (rd m28 41 (Int.toNat x2)) + 1 := wr_id (by omega) (by omega)
        (first | trivial | omega | (refine ⟨?_, ?_⟩ <;> omega))
      · skip
        (first | trivial | omega | (refine ⟨?_, ?_⟩ <;> omega))
    · intro s2_53 r_s2_53 hR_53
      refine ⟨⟨by omega, by omega⟩, ?_⟩
      intro m53 e_m53
      have g_m53 : G m0 m53 := by rw [e_m53]; exact GX.wt g_m28 (tw_41 g_m28.1 (by first | assumption | omega)) (Eq.refl true)
      refine ⟨⟨by omega, by omega⟩, ?_⟩
      intro m60 e_m60
      have g_m60 : G m0 m60 := by rw [e_m60]; exact GX.wt g_m53 (tw_42 g_m53.1 ⟨by omega, by omega⟩) (Eq.refl true)
      refine ⟨⟨by omega, by omega⟩, ?_⟩
      intro m67 e_m67
      have g_m67 : G m0 m67 := by rw [e_m67]; exact GX.wt g_m60 (tw_43 g_m60.1 (by first | assumption | omega)) (Eq.refl true)
      exact ⟨g_m67, by first | trivial | omega | (refine ⟨?_, ?_⟩ <;> omega)⟩
  · skip
    exact ⟨g_m, by first | trivial | omega | (refine ⟨?_, ?_⟩ <;> omega)⟩
-- TippedCrates$Walks.walkAll()V
set_option maxRecDepth 20000 in
theorem ct_105 {m0 m : Mm}   (g_m : G m0 m)   : CV 2 105 [.ref 39] m (fun m2 => G m0 m2 ∧ (True)) := by
  refine br_105  ?_
  unfold P_105
  refine CV.mono (ct_299   ir_41 (by unfold rg; decide)) (by decide) ?_
  rintro m5 ⟨hx_m5, h_m5⟩
  have g_m5 : G m0 m5 := by rw [hx_m5]; exact gf_41 g_m ⟨by omega, by omega⟩
  intro m10 e_m10
  have g_m10 : G m0 m10 := by rw [e_m10]; exact GX.wt g_m5 (tw_39_0 g_m5.1 ⟨by omega, by omega⟩) (Eq.refl true)
  have t1 := ty_36_1 g_m10.1
  refine CV.mono (ct_106   g_m10 (rd_rg _ _ _) (by unfold rg; decide) (by unfold rg; decide) (by omega) (by omega)) (by decide) ?_
  rintro m23 ⟨g_m23, h_m23⟩
  refine ⟨fun x1_28 m_28 => G m0 m_28 ∧ (0 ≤ x1_28 ∧ x1_28 ≤ 600), fun x1_28 m_28 => Int.toNat (600 - x1_28), ?_, ?_⟩
  · exact ⟨g_m23, by first | omega | (refine ⟨?_, ?_⟩ <;> omega) | trivial⟩
  · intro x1_28 m_28 r_x1_28 hI_28
    obtain ⟨g_m_28, hI_28⟩ := hI_28
    have t2 := ty_39_0 g_m_28.1
    refine ⟨True, ?_, ?_⟩
    · skip
      refine ⟨fun hq => ?_, fun hq => ?_⟩
      · skip
        (first | trivial | omega | (refine ⟨?_, ?_⟩ <;> omega))
      · skip
        refine ⟨fun hq => ?_, fun hq => ?_⟩
        · skip
          (first | trivial | omega | (refine ⟨?_, ?_⟩ <;> omega))
        · skip
          refine ⟨fun x2_45 m_45 => G m0 m_45 ∧ (0 ≤ x2_45 ∧ x2_45 ≤ 4), fun x2_45 m_45 => Int.toNat (4 - x2_45), ?_, ?_⟩
          · exact ⟨g_m_28, by first | omega | (refine ⟨?_, ?_⟩ <;> omega) | trivial⟩
          · intro x2_45 m_45 r_x2_45 hI_45
            obtain ⟨g_m_45, hI_45⟩ := hI_45
            refine ⟨fun hq => ?_, fun hq => ?_⟩
            · skip
              try have w3 : wr (x1_28 + 1) = x1_28 + 1 := wr_id (by omega) (by omega)
              intro z1_98 e_z1_98
              have r_z1_98 : rg z1_98 := by rw [e_z1_98]; exact wr_rg _
              exact ⟨⟨g_m_45, by first | omega | (refine ⟨?_, ?_⟩ <;> omega) | trivial⟩, by (try dsimp only); omega⟩
            · skip
              refine ⟨⟨by omega, by omega⟩, ?_⟩
              have t4 := ty_40 g_m_45.1 (Int.toNat x1_28)
              refine CK.mono (ct_71   g_m_45.1 (rd_rg _ _ _) r_x2_45 (by omega) (by omega)) (by decide) ?_
              rintro m61 v61 r_v61 ⟨e_m61, h_m61⟩
              replace e_m61 := e_m61.symm
              subst e_m61
              refine ⟨fun m_92 => G m0 m_92 ∧ (True), ?_, ?_⟩
              · skip
                refine ⟨fun hq => ?_, fun hq => ?_⟩
                · skip
                  exact ⟨g_m_45, by first | trivial | omega | (refine ⟨?_, ?_⟩ <;> omega)⟩
                · skip
                  refine ⟨⟨by omega, by omega⟩, ?_⟩
                  refine ⟨fun hq => ?_, fun hq => ?_⟩
                  · skip
                    exact ⟨g_m_45, by first | trivial | omega | (refine ⟨?_, ?_⟩ <;> omega)⟩
                  · skip
                    refine ⟨⟨by omega, by omega⟩, ?_⟩
                    refine CV.mono (ct_106   g_m_45 r_v61 (rd_rg _ _ _) r_x2_45 (by omega) (by omega)) (by decide) ?_
                    rintro m89 ⟨g_m89, h_m89⟩
                    exact ⟨g_m89, by first | trivial | omega | (refine ⟨?_, ?_⟩ <;> omega)⟩
              · intro m_92  hR_92
                obtain ⟨g_m_92, hR_92⟩ := hR_92
                try have w6 : wr (x2_45 + 1) = x2_45 + 1 := wr_id (by omega) (by omega)
                intro z2_92 e_z2_92
                have r_z2_92 : rg z2_92 := by rw [e_z2_92]; exact wr_rg _
                exact ⟨⟨g_m_92, by first | omega | (refine ⟨?_, ?_⟩ <;> omega) | trivial⟩, by (try dsimp only); omega⟩
    · intro   hR_104
      exact ⟨g_m_28, by first | trivial | omega | (refine ⟨?_, ?_⟩ <;> omega)⟩
-- TippedCrates$Walks.firstReading(II)I
set_option maxRecDepth 20000 in
theorem ct_107 {m : Mm} {x1 : Int} {x2 : Int}  (T_m : Ty m) (r_x1 : rg x1) (r_x2 : rg x2)  : CK 2 107 [.ref 39, iv x1, iv x2] m (fun m2 v => m2 = m ∧ (-1 ≤ v ∧ v ≤ 599)) := by
  refine br_107 r_x1 r_x2 ?_
  unfold P_107
  refine ⟨fun x3_2 m_2 => m_2 = m ∧ (0 ≤ x3_2 ∧ x3_2 ≤ 600), fun x3_2 m_2 => Int.toNat (600 - x3_2), ?_, ?_⟩
  · exact ⟨rfl, by first | omega | (refine ⟨?_, ?_⟩ <;> omega) | trivial⟩
  · intro x3_2 m_2 r_x3_2 hI_2
    obtain ⟨e_m_2, hI_2⟩ := hI_2
    replace e_m_2 := e_m_2.symm
    subst e_m_2
    have t1 := ty_39_0 T_m
    refine ⟨fun hq => ?_, fun hq => ?_⟩
    · skip
      exact ⟨rfl, by first | trivial | omega | (refine ⟨?_, ?_⟩ <;> omega)⟩
    · skip
      refine ⟨⟨by omega, by omega⟩, ?_⟩
      have t2 := ty_40 T_m (Int.toNat x3_2)
      try have q3 : dvI (rd m 40 (Int.toNat x3_2)) 24 = (rd m 40 (Int.toNat x3_2)) / 24 := dv_eq (by omega) (by omega) (by omega) (by omega)
      refine ⟨fun m_47 => m_47 = m ∧ (True), ?_, ?_⟩
      · skip
        refine ⟨fun hq => ?_, fun hq => ?_⟩
        · skip
          exact ⟨rfl, by first | trivial | omega | (refine ⟨?_, ?_⟩ <;> omega)⟩
        · skip
          refine ⟨⟨by omega, by omega⟩, ?_⟩
          refine CK.mono (ct_72   T_m (rd_rg _ _ _) (by omega)) (by decide) ?_
          rintro m33 v33 r_v33 ⟨e_m33, h_m33⟩
          replace e_m33 := e_m33.symm
          subst e_m33
          refine ⟨fun hq => ?_, fun hq => ?_⟩
          · skip
            exact ⟨rfl, by first | trivial | omega | (refine ⟨?_, ?_⟩ <;> omega)⟩
          · skip
            refine ⟨⟨by omega, by omega⟩, ?_⟩
            exact ⟨rfl, by first | trivial | omega | (refine ⟨?_, ?_⟩ <;> omega)⟩
      · intro m_47  hR_47
        obtain ⟨e_m_47, hR_47⟩ := hR_47
        replace e_m_47 := e_m_47.symm
        subst e_m_47
        try have w4 : wr (x3_2 + 1) = x3_2 + 1 := wr_id (by omega) (by omega)
        intro z3_47 e_z3_47
        have r_z3_47 : rg z3_47 := by rw [e_z3_47]; exact wr_rg _
        exact ⟨⟨rfl, by first | omega | (refine ⟨?_, ?_⟩ <;> omega) | trivial⟩, by (try dsimp only); omega⟩
-- TippedCrates$Walks.wayTo(II)I
set_option maxRecDepth 20000 in
theorem ct_108 {m : Mm} {x1 : Int} {x2 : Int}  (T_m : Ty m) (r_x1 : rg x1) (r_x2 : rg x2) (p0 : -1 ≤ x1 ∧ x1 ≤ 599) : CK 1 108 [.ref 39, iv x1, iv x2] m (fun m2 v => m2 = m ∧ (True)) := by
  refine br_108 r_x1 r_x2 ?_
  unfold P_108
  refine ⟨fun hq => ?_, fun hq => ?_⟩
  · skip
    refine ⟨fun hq => ?_, fun hq => ?_⟩
    · skip
      refine ⟨True, ?_, ?_⟩
      · skip
        refine ⟨fun hq => ?_, fun hq => ?_⟩
        · skip
          (first | trivial | omega | (refine ⟨?_, ?_⟩ <;> omega))
        · skip
          refine ⟨⟨by omega, by omega⟩, ?_⟩
          refine ⟨fun hq => ?_, fun hq => ?_⟩
          · skip
            refine ⟨⟨by omega, by omega⟩, ?_⟩
            try have w2 : wr ((rd m 41 (Int.toNat x1)) - 1) = (rd m 41 (Int.toNat x1)) - 1 := wr_id (by omega) (by omega)
            try have w3 : wr ((wr ((rd m 41 (Int.toNat x1)) - 1)) - x2) = (wr ((rd m 41 (Int.toNat x1)) - 1)) - x2 := wr_id (by omega) (by omega)
            intro z4_48 e_z4_48
            have r_z4_48 : rg z4_48 := by rw [e_z4_48]; exact (wr_rg _)
            refine ⟨fun x3_50 x4_50 => 0 ≤ x3_50 ∧ x3_50 ≤ 599, fun x3_50 x4_50 => Int.toNat x4_50, ?_, ?_⟩
            · (first | omega | (refine ⟨?_, ?_⟩ <;> omega) | trivial)
            · intro x3_50 x4_50 r_x3_50 r_x4_50 hI_50
              refine ⟨True, ?_, ?_⟩
              · skip
                refine ⟨fun hq => ?_, fun hq => ?_⟩
                · skip
                  (first | trivial | omega | (refine ⟨?_, ?_⟩ <;> omega))
                · skip
                  refine ⟨⟨by omega, by omega⟩, ?_⟩
                  have t4 := ty_42 T_m (Int.toNat x3_50)
                  refine ⟨fun hq => ?_, fun hq => ?_⟩
                  · skip
                    (first | trivial | omega | (refine ⟨?_, ?_⟩ <;> omega))
                  · skip
                    refine ⟨⟨by omega, by omega⟩, ?_⟩
                    intro z3_71 e_z3_71
                    have r_z3_71 : rg z3_71 := by rw [e_z3_71]; exact (rd_rg _ _ _)
                    try have w5 : wr (x4_50 + (-1)) = x4_50 + (-1) := wr_id (by omega) (by omega)
                    intro z4_72 e_z4_72
                    have r_z4_72 : rg z4_72 := by rw [e_z4_72]; exact wr_rg _
                    exact ⟨by first | omega | (refine ⟨?_, ?_⟩ <;> omega) | trivial, by (try dsimp only); omega⟩
              · intro   hR_78
                refine ⟨⟨by omega, by omega⟩, ?_⟩
                exact ⟨rfl, by first | trivial | omega | (refine ⟨?_, ?_⟩ <;> omega)⟩
          · skip
            (first | trivial | omega | (refine ⟨?_, ?_⟩ <;> omega))
      · intro   hR_34
        exact ⟨rfl, by first | trivial | omega | (refine ⟨?_, ?_⟩ <;> omega)⟩
    · skip
      refine ⟨⟨by omega, by omega⟩, ?_⟩
      exact ⟨rfl, by first | trivial | omega | (refine ⟨?_, ?_⟩ <;> omega)⟩
  · skip
    exact ⟨rfl, by first | trivial | omega | (refine ⟨?_, ?_⟩ <;> omega)⟩
-- TippedCrates$Walks.flagsReading(I)I
set_option maxRecDepth 20000 in
theorem ct_109 {m : Mm} {x1 : Int}  (T_m : Ty m) (r_x1 : rg x1)  : CK 2 109 [.ref 39, iv x1] m (fun m2 v => m2 = m ∧ (True)) := by
  refine br_109 r_x1 ?_
  unfold P_109
  refine ⟨fun x2_4 x3_4 m_4 => m_4 = m ∧ (0 ≤ x3_4 ∧ x3_4 ≤ 600), fun x2_4 x3_4 m_4 => Int.toNat (600 - x3_4), ?_, ?_⟩
  · exact ⟨rfl, by first | omega | (refine ⟨?_, ?_⟩ <;> omega) | trivial⟩
  · intro x2_4 x3_4 m_4 r_x2_4 r_x3_4 hI_4
    obtain ⟨e_m_4, hI_4⟩ := hI_4
    replace e_m_4 := e_m_4.symm
    subst e_m_4
    have t1 := ty_39_0 T_m
    refine ⟨fun hq => ?_, fun hq => ?_⟩
    · skip
      exact ⟨rfl, by first | trivial | omega | (refine ⟨?_, ?_⟩ <;> omega)⟩
    · skip
      refine ⟨⟨by omega, by omega⟩, ?_⟩
      have t2 := ty_40 T_m (Int.toNat x3_4)
      refine CK.mono (ct_72   T_m (rd_rg _ _ _) (by omega)) (by decide) ?_
      rintro m22 v22 r_v22 ⟨e_m22, h_m22⟩
      replace e_m22 := e_m22.symm
      subst e_m22
      refine ⟨fun y2_43 => True, ?_, ?_⟩
      · skip
        refine ⟨fun hq => ?_, fun hq => ?_⟩
        · skip
          (first | trivial | omega | (refine ⟨?_, ?_⟩ <;> omega))
        · skip
          refine ⟨⟨by omega, by omega⟩, ?_⟩
          try have q3 : dvI (rd m 40 (Int.toNat x3_4)) 24 = (rd m 40 (Int.toNat x3_4)) / 24 := dv_eq (by omega) (by omega) (by omega) (by omega)
          intro z2_42 e_z2_42
          have r_z2_42 : rg z2_42 := by rw [e_z2_42]; exact (io_rg _ _ _)
          (first | trivial | omega | (refine ⟨?_, ?_⟩ <;> omega))
      · intro y2_43 r_y2_43 hR_43
        try have w4 : wr (x3_4 + 1) = x3_4 + 1 := wr_id (by omega) (by omega)
        intro z3_43 e_z3_43
        have r_z3_43 : rg z3_43 := by rw [e_z3_43]; exact wr_rg _
        exact ⟨⟨rfl, by first | omega | (refine ⟨?_, ?_⟩ <;> omega) | trivial⟩, by (try dsimp only); omega⟩
-- TippedCrates$Walks.nearestReading(II)I
set_option maxRecDepth 20000 in
theorem ct_110 {m : Mm} {x1 : Int} {x2 : Int}  (T_m : Ty m) (r_x1 : rg x1) (r_x2 : rg x2)  : CK 2 110 [.ref 39, iv x1, iv x2] m (fun m2 v => m2 = m ∧ (True)) := by
  refine br_110 r_x1 r_x2 ?_
  unfold P_110
  refine ⟨fun x3_10 x4_10 x5_10 m_10 => m_10 = m ∧ (0 ≤ x5_10 ∧ x5_10 ≤ 600), fun x3_10 x4_10 x5_10 m_10 => Int.toNat (600 - x5_10), ?_, ?_⟩
  · exact ⟨rfl, by first | omega | (refine ⟨?_, ?_⟩ <;> omega) | trivial⟩
  · intro x3_10 x4_10 x5_10 m_10 r_x3_10 r_x4_10 r_x5_10 hI_10
    obtain ⟨e_m_10, hI_10⟩ := hI_10
    replace e_m_10 := e_m_10.symm
    subst e_m_10
    have t1 := ty_39_0 T_m
    refine ⟨fun hq => ?_, fun hq => ?_⟩
    · skip
      refine ⟨fun s0_102 => True, ?_, ?_⟩
      · skip
        refine ⟨fun hq => ?_, fun hq => ?_⟩
        · skip
          (first | trivial | omega | (refine ⟨?_, ?_⟩ <;> omega))
        · skip
          (first | trivial | omega | (refine ⟨?_, ?_⟩ <;> omega))
      · intro s0_102 r_s0_102 hR_102
        exact ⟨rfl, by first | trivial | omega | (refine ⟨?_, ?_⟩ <;> omega)⟩
    · skip
      refine ⟨⟨by omega, by omega⟩, ?_⟩
      have t2 := ty_40 T_m (Int.toNat x5_10)
      intro z6_26 e_z6_26
      have r_z6_26 : rg z6_26 := by rw [e_z6_26]; exact (rd_rg _ _ _)
      refine CK.mono (ct_72   T_m r_z6_26 (by omega)) (by decide) ?_
      rintro m34 v34 r_v34 ⟨e_m34, h_m34⟩
      replace e_m34 := e_m34.symm
      subst e_m34
      refine ⟨fun y3_86 y4_86 => True, ?_, ?_⟩
      · skip
        refine ⟨fun hq => ?_, fun hq => ?_⟩
        · skip
          refine ⟨True, ?_, ?_⟩
          · skip
            refine ⟨fun hq => ?_, fun hq => ?_⟩
            · skip
              (first | trivial | omega | (refine ⟨?_, ?_⟩ <;> omega))
            · skip
              refine ⟨⟨by omega, by omega⟩, ?_⟩
              refine ⟨fun hq => ?_, fun hq => ?_⟩
              · skip
                (first | trivial | omega | (refine ⟨?_, ?_⟩ <;> omega))
              · skip
                try have q4 : dvI z6_26 24 = z6_26 / 24 := dv_eq (by omega) (by omega) (by omega) (by omega)
                refine ⟨fun hq => ?_, fun hq => ?_⟩
                · skip
                  (first | trivial | omega | (refine ⟨?_, ?_⟩ <;> omega))
                · skip
                  (first | trivial | omega | (refine ⟨?_, ?_⟩ <;> omega))
          · intro   hR_71
            try have q5 : dvI z6_26 24 = z6_26 / 24 := dv_eq (by omega) (by omega) (by omega) (by omega)
            intro z3_76 e_z3_76
            have r_z3_76 : rg z3_76 := by rw [e_z3_76]; exact (io_rg _ _ _)
            refine ⟨⟨by omega, by omega⟩, ?_⟩
            intro z4_84 e_z4_84
            have r_z4_84 : rg z4_84 := by rw [e_z4_84]; exact (rd_rg _ _ _)
            (first | trivial | omega | (refine ⟨?_, ?_⟩ <;> omega))
        · skip
          (first | trivial | omega | (refine ⟨?_, ?_⟩ <;> omega))
      · intro y3_86 y4_86 r_y3_86 r_y4_86 hR_86
        try have w7 : wr (x5_10 + 1) = x5_10 + 1 := wr_id (by omega) (by omega)
        intro z5_86 e_z5_86
        have r_z5_86 : rg z5_86 := by rw [e_z5_86]; exact wr_rg _
        exact ⟨⟨rfl, by first | omega | (refine ⟨?_, ?_⟩ <;> omega) | trivial⟩, by (try dsimp only); omega⟩
-- TippedCrates$Walks.roundAsNow()I
set_option maxRecDepth 20000 in
theorem ct_111 {m : Mm}   (T_m : Ty m)   : CK 1 111 [.ref 39] m (fun m2 v => m2 = m ∧ (True)) := by
  refine br_111  ?_
  unfold P_111
  have t1 := ty_39_0 T_m
  refine ⟨fun s0_14 => (s0_14 = (-2) ∨ s0_14 = 2), ?_, ?_⟩
  · skip
    refine ⟨fun hq => ?_, fun hq => ?_⟩
    · skip
      (first | trivial | omega | (refine ⟨?_, ?_⟩ <;> omega))
    · skip
      (first | trivial | omega | (refine ⟨?_, ?_⟩ <;> omega))
  · intro s0_14 r_s0_14 hR_14
    exact ⟨rfl, by first | trivial | omega | (refine ⟨?_, ?_⟩ <;> omega)⟩
-- TippedCrates$Walks.roundTurned()I
set_option maxRecDepth 20000 in
theorem ct_112 {m : Mm}   (T_m : Ty m)   : CK 1 112 [.ref 39] m (fun m2 v => m2 = m ∧ (True)) := by
  refine br_112  ?_
  unfold P_112
  refine ⟨fun x1_2 => 1 ≤ x1_2 ∧ x1_2 ≤ 600, fun x1_2 => Int.toNat (600 - x1_2), ?_, ?_⟩
  · (first | omega | (refine ⟨?_, ?_⟩ <;> omega) | trivial)
  · intro x1_2 r_x1_2 hI_2
    have t1 := ty_39_0 T_m
    refine ⟨fun hq => ?_, fun hq => ?_⟩
    · skip
      exact ⟨rfl, by first | trivial | omega | (refine ⟨?_, ?_⟩ <;> omega)⟩
    · skip
      refine ⟨⟨by omega, by omega⟩, ?_⟩
      have t2 := ty_40 T_m (Int.toNat x1_2)
      try have q3 : dvI (rd m 40 (Int.toNat x1_2)) 24 = (rd m 40 (Int.toNat x1_2)) / 24 := dv_eq (by omega) (by omega) (by omega) (by omega)
      have t4 := ty_36_1 T_m
      try have q5 : dvI (rd m 36 1) 24 = (rd m 36 1) / 24 := dv_eq (by omega) (by omega) (by omega) (by omega)
      refine ⟨fun hq => ?_, fun hq => ?_⟩
      · skip
        try have w6 : wr (x1_2 + 1) = x1_2 + 1 := wr_id (by omega) (by omega)
        intro z1_44 e_z1_44
        have r_z1_44 : rg z1_44 := by rw [e_z1_44]; exact wr_rg _
        exact ⟨by first | omega | (refine ⟨?_, ?_⟩ <;> omega) | trivial, by (try dsimp only); omega⟩
      · skip
        refine ⟨⟨by omega, by omega⟩, ?_⟩
        refine ⟨⟨by omega, by omega⟩, ?_⟩
        exact ⟨rfl, by first | trivial | omega | (refine ⟨?_, ?_⟩ <;> omega)⟩
-- TippedCrates$Walks.marksOnTop()I
set_option maxRecDepth 20000 in
theorem ct_113 {m : Mm}   (T_m : Ty m)   : CK 2 113 [.ref 39] m (fun m2 v => m2 = m ∧ (True)) := by
  refine br_113  ?_
  unfold P_113
  refine ⟨fun x1_4 x2_4 m_4 => m_4 = m ∧ (0 ≤ x2_4 ∧ x2_4 ≤ 600), fun x1_4 x2_4 m_4 => Int.toNat (600 - x2_4), ?_, ?_⟩
  · exact ⟨rfl, by first | omega | (refine ⟨?_, ?_⟩ <;> omega) | trivial⟩
  · intro x1_4 x2_4 m_4 r_x1_4 r_x2_4 hI_4
    obtain ⟨e_m_4, hI_4⟩ := hI_4
    replace e_m_4 := e_m_4.symm
    subst e_m_4
    have t1 := ty_39_0 T_m
    refine ⟨fun hq => ?_, fun hq => ?_⟩
    · skip
      exact ⟨rfl, by first | trivial | omega | (refine ⟨?_, ?_⟩ <;> omega)⟩
    · skip
      refine ⟨⟨by omega, by omega⟩, ?_⟩
      have t2 := ty_40 T_m (Int.toNat x2_4)
      refine CK.mono (ct_72   T_m (rd_rg _ _ _) (by omega)) (by decide) ?_
      rintro m24 v24 r_v24 ⟨e_m24, h_m24⟩
      replace e_m24 := e_m24.symm
      subst e_m24
      intro z1_29 e_z1_29
      have r_z1_29 : rg z1_29 := by rw [e_z1_29]; exact (io_rg _ _ _)
      try have w3 : wr (x2_4 + 1) = x2_4 + 1 := wr_id (by omega) (by omega)
      intro z2_30 e_z2_30
      have r_z2_30 : rg z2_30 := by rw [e_z2_30]; exact wr_rg _
      exact ⟨⟨rfl, by first | omega | (refine ⟨?_, ?_⟩ <;> omega) | trivial⟩, by (try dsimp only); omega⟩
-- TippedCrates$Walks.stepsBeside(I)I
set_option maxRecDepth 20000 in
theorem ct_114 {m : Mm} {x1 : Int}  (T_m : Ty m) (r_x1 : rg x1)  : CK 2 114 [.ref 39, iv x1] m (fun m2 v => m2 = m ∧ (True)) := by
  refine br_114 r_x1 ?_
  unfold P_114
  refine ⟨fun x2_2 m_2 => m_2 = m ∧ (0 ≤ x2_2 ∧ x2_2 ≤ 600), fun x2_2 m_2 => Int.toNat (600 - x2_2), ?_, ?_⟩
  · exact ⟨rfl, by first | omega | (refine ⟨?_, ?_⟩ <;> omega) | trivial⟩
  · intro x2_2 m_2 r_x2_2 hI_2
    obtain ⟨e_m_2, hI_2⟩ := hI_2
    replace e_m_2 := e_m_2.symm
    subst e_m_2
    have t1 := ty_39_0 T_m
    refine ⟨fun hq => ?_, fun hq => ?_⟩
    · skip
      exact ⟨rfl, by first | trivial | omega | (refine ⟨?_, ?_⟩ <;> omega)⟩
    · skip
      refine ⟨fun x3_12 m_12 => m_12 = m ∧ (0 ≤ x3_12 ∧ x3_12 ≤ 4), fun x3_12 m_12 => Int.toNat (4 - x3_12), ?_, ?_⟩
      · exact ⟨rfl, by first | omega | (refine ⟨?_, ?_⟩ <;> omega) | trivial⟩
      · intro x3_12 m_12 r_x3_12 hI_12
        obtain ⟨e_m_12, hI_12⟩ := hI_12
        replace e_m_12 := e_m_12.symm
        subst e_m_12
        refine ⟨fun hq => ?_, fun hq => ?_⟩
        · skip
          try have w2 : wr (x2_2 + 1) = x2_2 + 1 := wr_id (by omega) (by omega)
          intro z2_59 e_z2_59
          have r_z2_59 : rg z2_59 := by rw [e_z2_59]; exact wr_rg _
          exact ⟨⟨rfl, by first | omega | (refine ⟨?_, ?_⟩ <;> omega) | trivial⟩, by (try dsimp only); omega⟩
        · skip
          refine ⟨⟨by omega, by omega⟩, ?_⟩
          have t3 := ty_40 T_m (Int.toNat x2_2)
          try have q4 : dvI (rd m 40 (Int.toNat x2_2)) 24 = (rd m 40 (Int.toNat x2_2)) / 24 := dv_eq (by omega) (by omega) (by omega) (by omega)
          refine CK.mono (ct_30   T_m (io_rg _ _ _) r_x3_12 (by omega) (by omega)) (by decide) ?_
          rintro m34 v34 r_v34 ⟨e_m34, h_m34⟩
          replace e_m34 := e_m34.symm
          subst e_m34
          refine ⟨fun hq => ?_, fun hq => ?_⟩
          · skip
            try have w5 : wr (x3_12 + 1) = x3_12 + 1 := wr_id (by omega) (by omega)
            intro z3_53 e_z3_53
            have r_z3_53 : rg z3_53 := by rw [e_z3_53]; exact wr_rg _
            exact ⟨⟨rfl, by first | omega | (refine ⟨?_, ?_⟩ <;> omega) | trivial⟩, by (try dsimp only); omega⟩
          · skip
            refine ⟨⟨by omega, by omega⟩, ?_⟩
            refine ⟨⟨by omega, by omega⟩, ?_⟩
            exact ⟨rfl, by first | trivial | omega | (refine ⟨?_, ?_⟩ <;> omega)⟩
-- TippedCrates$Walks.unlink(I)V
set_option maxRecDepth 20000 in
theorem ct_118 {m0 m : Mm} {x1 : Int}  (g_m : G m0 m) (r_x1 : rg x1) (p0 : 0 ≤ x1 ∧ x1 ≤ 599) (p1 : bsOk m) : CV 1 118 [.ref 39, iv x1] m (fun m2 => G m0 m2 ∧ (bsOk m2)) := by
  refine br_118 r_x1 ?_
  unfold P_118
  have tb := ty_39_7 g_m.1
  have bb := p1 (Int.toNat x1) (by omega)
  refine ⟨⟨by omega, by omega⟩, ?_⟩
  have t1 := ty_47 g_m.1 (Int.toNat x1)
  refine ⟨fun m_50 => G m0 m_50 ∧ (bsOk m_50), ?_, ?_⟩
  · skip
    refine ⟨fun hq => ?_, fun hq => ?_⟩
    · skip
      refine ⟨⟨by omega, by omega⟩, ?_⟩
      refine ⟨⟨by omega, by omega⟩, ?_⟩
      refine ⟨⟨by omega, by omega⟩, ?_⟩
      have t2 := ty_48 g_m.1 (Int.toNat x1)
      intro m49 e_m49
      have g_m49 : G m0 m49 := by rw [e_m49]; exact GX.wt g_m (tw_48 g_m.1 ⟨by omega, by omega⟩) (Eq.refl true)
      have b_m49 : bsOk m49 := by rw [e_m49]; exact bs_wt p1 (by omega) (by omega) (by omega) g_m.1
      exact ⟨g_m49, by first | exact b_m29 | exact b_m49⟩
    · skip
      have t3 := ty_39_7 g_m.1
      refine ⟨by omega, ?_⟩
      refine ⟨⟨by omega, by omega⟩, ?_⟩
      refine ⟨⟨by omega, by omega⟩, ?_⟩
      try have q5 : rmI (rd m (Int.toNat (rd m 39 7)) (Int.toNat x1)) 100 = (rd m (Int.toNat (rd m 39 7)) (Int.toNat x1)) % 100 := rm_eq (by omega) (by omega) (by omega) (by omega)
      refine ⟨⟨by omega, by omega⟩, ?_⟩
      have t6 := ty_48 g_m.1 (Int.toNat x1)
      intro m29 e_m29
      have g_m29 : G m0 m29 := by rw [e_m29]; exact GX.wt g_m (tw_46 g_m.1 ⟨by omega, by omega⟩) (Eq.refl true)
      have b_m29 : bsOk m29 := by rw [e_m29]; exact bs_wt p1 (by omega) (by omega) (by omega) g_m.1
      exact ⟨g_m29, by first | exact b_m29 | exact b_m49⟩
  · intro m_50  hR_50
    obtain ⟨g_m_50, hR_50⟩ := hR_50
    refine ⟨⟨by omega, by omega⟩, ?_⟩
    have t7 := ty_48 g_m_50.1 (Int.toNat x1)
    refine ⟨fun m_77 => G m0 m_77 ∧ (bsOk m_77), ?_, ?_⟩
    · skip
      refine ⟨fun hq => ?_, fun hq => ?_⟩
      · skip
        exact ⟨g_m_50, by first | exact b_m76 | exact hR_50⟩
      · skip
        refine ⟨⟨by omega, by omega⟩, ?_⟩
        refine ⟨⟨by omega, by omega⟩, ?_⟩
        refine ⟨⟨by omega, by omega⟩, ?_⟩
        have t8 := ty_47 g_m_50.1 (Int.toNat x1)
        intro m76 e_m76
        have g_m76 : G m0 m76 := by rw [e_m76]; exact GX.wt g_m_50 (tw_47 g_m_50.1 ⟨by omega, by omega⟩) (Eq.refl true)
        have b_m76 : bsOk m76 := by rw [e_m76]; exact bs_wt hR_50 (by omega) (by omega) (by omega) g_m_50.1
        exact ⟨g_m76, by first | exact b_m76 | exact hR_50⟩
    · intro m_77  hR_77
      obtain ⟨g_m_77, hR_77⟩ := hR_77
      try have w10 : wr ((rd m_77 39 12) - 1) = (rd m_77 39 12) - 1 := wr_id (by omega) (by omega)
      intro m84 e_m84
      have g_m84 : G m0 m84 := by rw [e_m84]; exact GX.wt g_m_77 (tw_39_12 g_m_77.1 (wr_rg _)) (Eq.refl true)
      have b_m84 : bsOk m84 := by rw [e_m84]; exact bs_wt hR_77 (by omega) (by omega) (by omega) g_m_77.1
      exact ⟨g_m84, by exact b_m84⟩
-- TippedCrates$Walks.offer(II)V
set_option maxRecDepth 20000 in
theorem ct_117 {m0 m : Mm} {x1 : Int} {x2 : Int}  (g_m : G m0 m) (r_x1 : rg x1) (r_x2 : rg x2) (p0 : 0 ≤ x1 ∧ x1 ≤ 599) (p1 : 0 ≤ x2 ∧ x2 ≤ 59500) (p2 : bsOk m) : CV 2 117 [.ref 39, iv x1, iv x2] m (fun m2 => G m0 m2 ∧ (bsOk m2)) := by
  refine br_117 r_x1 r_x2 ?_
  unfold P_117
  have tb := ty_39_7 g_m.1
  have bb := p2 (Int.toNat x1) (by omega)
  have t1 := ty_39_7 g_m.1
  refine ⟨by omega, ?_⟩
  refine ⟨⟨by omega, by omega⟩, ?_⟩
  refine ⟨fun hq => ?_, fun hq => ?_⟩
  · skip
    refine ⟨by omega, ?_⟩
    refine ⟨⟨by omega, by omega⟩, ?_⟩
    refine ⟨fun m_27 => G m0 m_27 ∧ (bsOk m_27 ∧ x2 ≤ 59400), ?_, ?_⟩
    · skip
      refine ⟨fun hq => ?_, fun hq => ?_⟩
      · skip
        exact ⟨g_m, by first | exact ⟨h_m24, by omega⟩ | exact ⟨p2, by omega⟩⟩
      · skip
        refine CV.mono (ct_118   g_m r_x1 (by omega) p2) (by decide) ?_
        rintro m24 ⟨g_m24, h_m24⟩
        exact ⟨g_m24, by first | exact ⟨h_m24, by omega⟩ | exact ⟨p2, by omega⟩⟩
    · intro m_27  hR_27
      obtain ⟨g_m_27, hR_27⟩ := hR_27
      try have q3 : rmI x2 100 = x2 % 100 := rm_eq (by omega) (by omega) (by omega) (by omega)
      refine ⟨⟨by omega, by omega⟩, ?_⟩
      have t4 := ty_46 g_m_27.1 (Int.toNat (rmI x2 100))
      intro z3_36 e_z3_36
      have r_z3_36 : rg z3_36 := by rw [e_z3_36]; exact (rd_rg _ _ _)
      have t5 := ty_39_7 g_m_27.1
      refine ⟨by omega, ?_⟩
      refine ⟨⟨by omega, by omega⟩, ?_⟩
      intro m43 e_m43
      have g_m43 : G m0 m43 := by rw [e_m43]; exact GX.wt g_m_27 (tw_wk g_m_27.1 (by omega) (by first | assumption | omega)) (by first | exact rg_wk (by omega) | (unfold isSt at *; simp; omega))
      have b_m43 : bsOk m43 := by rw [e_m43]; exact bs_w hR_27.1 g_m_27.1 (by omega)
      refine ⟨⟨by omega, by omega⟩, ?_⟩
      intro m53 e_m53
      have g_m53 : G m0 m53 := by rw [e_m53]; exact GX.wt g_m43 (tw_46 g_m43.1 ⟨by omega, by omega⟩) (Eq.refl true)
      have b_m53 : bsOk m53 := by rw [e_m53]; exact bs_wt b_m43 (by omega) (by omega) (by omega) g_m43.1
      refine ⟨⟨by omega, by omega⟩, ?_⟩
      intro m60 e_m60
      have g_m60 : G m0 m60 := by rw [e_m60]; exact GX.wt g_m53 (tw_47 g_m53.1 ⟨by omega, by omega⟩) (Eq.refl true)
      have b_m60 : bsOk m60 := by rw [e_m60]; exact bs_wt b_m53 (by omega) (by omega) (by omega) g_m53.1
      refine ⟨⟨by omega, by omega⟩, ?_⟩
      intro m67 e_m67
      have g_m67 : G m0 m67 := by rw [e_m67]; exact GX.wt g_m60 (tw_48 g_m60.1 ⟨by omega, by omega⟩) (Eq.refl true)
      have b_m67 : bsOk m67 := by rw [e_m67]; exact bs_wt b_m60 (by omega) (by omega) (by omega) g_m60.1
      refine ⟨fun m_80 => G m0 m_80 ∧ (bsOk m_80), ?_, ?_⟩
      · skip
        refine ⟨fun hq => ?_, fun hq => ?_⟩
        · skip
          exact ⟨g_m67, by first | exact b_m79 | exact b_m67⟩
        · skip
          refine ⟨⟨by omega, by omega⟩, ?_⟩
          intro m79 e_m79
          have g_m79 : G m0 m79 := by rw [e_m79]; exact GX.wt g_m67 (tw_47 g_m67.1 ⟨by omega, by omega⟩) (Eq.refl true)
          have b_m79 : bsOk m79 := by rw [e_m79]; exact bs_wt b_m67 (by omega) (by omega) (by omega) g_m67.1
          exact ⟨g_m79, by first | exact b_m79 | exact b_m67⟩
      · intro m_80  hR_80
        obtain ⟨g_m_80, hR_80⟩ := hR_80
        try have w7 : wr ((rd m_80 39 12) + 1) = (rd m_80 39 12) + 1 := wr_id (by omega) (by omega)
        intro m87 e_m87
        have g_m87 : G m0 m87 := by rw [e_m87]; exact GX.wt g_m_80 (tw_39_12 g_m_80.1 (wr_rg _)) (Eq.refl true)
        have b_m87 : bsOk m87 := by rw [e_m87]; exact bs_wt hR_80 (by omega) (by omega) (by omega) g_m_80.1
        exact ⟨g_m87, by first | exact b_m87 | exact p2⟩
  · skip
    exact ⟨g_m, by first | exact b_m87 | exact p2⟩
-- TippedCrates$Walks.offerNexts(LTippedCrates$State;II)V
set_option maxRecDepth 20000 in
theorem ct_116 {m0 m : Mm} {a : Nat} {x2 : Int} {x3 : Int}  (g_m : G m0 m) (h_a : isSt a) (r_x2 : rg x2) (r_x3 : rg x3) (p0 : 0 ≤ x2 ∧ x2 ≤ 2) (p1 : 0 ≤ x3 ∧ x3 ≤ 599) (p2 : bsOk m) (p3 : lwOk m0 11) : CV 3 116 [.ref 39, .ref a, iv x2, iv x3] m (fun m2 => G m0 m2 ∧ (bsOk m2)) := by
  refine br_116 h_a r_x2 r_x3 ?_
  unfold P_116
  refine ⟨fun x4_3 m_3 => G m0 m_3 ∧ ((0 ≤ x4_3 ∧ x4_3 ≤ 4) ∧ bsOk m_3), fun x4_3 m_3 => Int.toNat (4 - x4_3), ?_, ?_⟩
  · exact ⟨g_m, by exact ⟨by omega, p2⟩⟩
  · intro x4_3 m_3 r_x4_3 hI_3
    obtain ⟨g_m_3, hI_3⟩ := hI_3
    have tb := ty_39_7 g_m_3.1
    refine ⟨fun hq => ?_, fun hq => ?_⟩
    · skip
      exact ⟨g_m_3, by exact hI_3.2⟩
    · skip
      refine CK.mono (ct_71   g_m_3.1 r_x3 r_x4_3 (by omega) (by omega)) (by decide) ?_
      rintro m16 v16 r_v16 ⟨e_m16, h_m16⟩
      replace e_m16 := e_m16.symm
      subst e_m16
      refine ⟨fun m_99 => G m0 m_99 ∧ (bsOk m_99), ?_, ?_⟩
      · skip
        refine ⟨fun hq => ?_, fun hq => ?_⟩
        · skip
          exact ⟨g_m_3, by first | exact hI_3.2 | exact h_m96⟩
        · skip
          have t1 := ty_39_7 g_m_3.1
          refine ⟨by omega, ?_⟩
          refine ⟨⟨by omega, by omega⟩, ?_⟩
          refine ⟨by omega, ?_⟩
          refine ⟨⟨by omega, by omega⟩, ?_⟩
          refine ⟨fun hq => ?_, fun hq => ?_⟩
          · skip
            refine CK.mono (ct_72   g_m_3.1 r_v16 (by omega)) (by decide) ?_
            rintro m64 v64 r_v64 ⟨e_m64, h_m64⟩
            replace e_m64 := e_m64.symm
            subst e_m64
            refine CK.mono (ct_73   g_m_3.1 r_v16 (by omega)) (by decide) ?_
            rintro m73 v73 r_v73 ⟨e_m73, h_m73⟩
            replace e_m73 := e_m73.symm
            subst e_m73
            try have q4 : dvI x3 24 = x3 / 24 := dv_eq (by omega) (by omega) (by omega) (by omega)
            refine CV.mono (ct_3   g_m_3.1 h_a r_x2 (io_rg _ _ _) r_x4_3 r_v64 r_v73 (by omega) (by omega) (by omega)) (by decide) ?_
            rintro m76 ⟨hx_m76, h_m76⟩
            have g_m76 : G m0 m76 := gx_in g_m_3 hx_m76 in_s12_scr
            have b76 := bs_12 hI_3.2 hx_m76 g_m_3.1
            have tb76 := ty_39_7 g_m76.1
            have bb76 := b76 (Int.toNat x3) (by omega)
            have t5 := ty_39_7 g_m76.1
            refine ⟨by omega, ?_⟩
            refine ⟨⟨by omega, by omega⟩, ?_⟩
            refine CK.mono (ct_4   g_m76.1 (lwOk_G p3 g_m76)) (by decide) ?_
            rintro m92 v92 r_v92 ⟨hx_m92, h_m92⟩
            have g_m92 : G m0 m92 := gx_in g_m76 hx_m92 in_s15_scr
            have b92 := bs_15 b76 hx_m92 g_m76.1
            try have w7 : wr ((rd m76 (Int.toNat (rd m76 39 7)) (Int.toNat x3)) + v92) = (rd m76 (Int.toNat (rd m76 39 7)) (Int.toNat x3)) + v92 := wr_id (by omega) (by omega)
            refine CV.mono (ct_117   g_m92 r_v16 (wr_rg _) (by omega) (by omega) b92) (by decide) ?_
            rintro m96 ⟨g_m96, h_m96⟩
            exact ⟨g_m96, by first | exact hI_3.2 | exact h_m96⟩
          · skip
            exact ⟨g_m_3, by first | exact hI_3.2 | exact h_m96⟩
      · intro m_99  hR_99
        obtain ⟨g_m_99, hR_99⟩ := hR_99
        try have w8 : wr (x4_3 + 1) = x4_3 + 1 := wr_id (by omega) (by omega)
        intro z4_99 e_z4_99
        have r_z4_99 : rg z4_99 := by rw [e_z4_99]; exact wr_rg _
        exact ⟨⟨g_m_99, by exact ⟨by omega, by assumption⟩⟩, by (try dsimp only); omega⟩
-- TippedCrates$Walks.leastCost(LTippedCrates$State;II)I
set_option maxRecDepth 20000 in
theorem ct_115 {m0 m : Mm} {a : Nat} {x2 : Int} {x3 : Int}  (g_m : G m0 m) (h_a : isSt a) (r_x2 : rg x2) (r_x3 : rg x3) (p0 : 0 ≤ x2 ∧ x2 ≤ 2) (p1 : lwOk m0 11) : CK 4 115 [.ref 39, .ref a, iv x2, iv x3] m (fun m2 v => G m0 m2 ∧ (True)) := by
  refine br_115 h_a r_x2 r_x3 ?_
  unfold P_115
  have tb := ty_39_7 g_m.1
  have t1 := ty_39_7 g_m.1
  refine ⟨by omega, ?_⟩
  refine CV.mono (ct_299   (wk_R (by omega)) (by unfold rg; decide)) (by decide) ?_
  rintro m6 ⟨hx_m6, h_m6⟩
  have g_m6 : G m0 m6 := by rw [hx_m6]; exact gf_wk g_m (by omega) ⟨by omega, by omega⟩
  have b6 : bsOk m6 := by rw [hx_m6]; exact bs_fl g_m.1
  refine CV.mono (ct_299   ir_46 (by unfold rg; decide)) (by decide) ?_
  rintro m14 ⟨hx_m14, h_m14⟩
  have g_m14 : G m0 m14 := by rw [hx_m14]; exact gf_46 g_m6 ⟨by omega, by omega⟩
  have b14 : bsOk m14 := by rw [hx_m14]; exact bs_fl46 b6 g_m6.1
  intro m19 e_m19
  have g_m19 : G m0 m19 := by rw [e_m19]; exact GX.wt g_m14 (tw_39_12 g_m14.1 (by first | assumption | omega)) (Eq.refl true)
  have b_m19 : bsOk m19 := by rw [e_m19]; exact bs_wt b14 (by omega) (by omega) (by omega) g_m14.1
  have t2 := ty_36_1 g_m19.1
  refine CV.mono (ct_117   g_m19 (rd_rg _ _ _) (by unfold rg; decide) (by omega) (by omega) b_m19) (by decide) ?_
  rintro m31 ⟨g_m31, h_m31⟩
  refine ⟨fun x4_37 m_37 => G m0 m_37 ∧ ((0 ≤ x4_37 ∧ x4_37 ≤ 59401) ∧ bsOk m_37), fun x4_37 m_37 => Int.toNat (59401 - x4_37), ?_, ?_⟩
  · exact ⟨g_m31, by exact ⟨by omega, h_m31⟩⟩
  · intro x4_37 m_37 r_x4_37 hI_37
    obtain ⟨g_m_37, hI_37⟩ := hI_37
    refine ⟨True, ?_, ?_⟩
    · skip
      refine ⟨fun hq => ?_, fun hq => ?_⟩
      · skip
        (first | trivial | omega | (refine ⟨?_, ?_⟩ <;> omega))
      · skip
        refine ⟨fun hq => ?_, fun hq => ?_⟩
        · skip
          (first | trivial | omega | (refine ⟨?_, ?_⟩ <;> omega))
        · skip
          refine ⟨fun x5_54 m_54 => G m0 m_54 ∧ ((0 ≤ x5_54 ∧ x5_54 ≤ 600) ∧ bsOk m_54), fun x5_54 m_54 => Int.toNat (600 - x5_54), ?_, ?_⟩
          · exact ⟨g_m_37, by exact ⟨by omega, hI_37.2⟩⟩
          · intro x5_54 m_54 r_x5_54 hI_54
            obtain ⟨g_m_54, hI_54⟩ := hI_54
            refine ⟨True, ?_, ?_⟩
            · skip
              refine ⟨fun hq => ?_, fun hq => ?_⟩
              · skip
                (first | trivial | omega | (refine ⟨?_, ?_⟩ <;> omega))
              · skip
                try have q4 : rmI x4_37 100 = x4_37 % 100 := rm_eq (by omega) (by omega) (by omega) (by omega)
                refine ⟨⟨by omega, by omega⟩, ?_⟩
                have t5 := ty_46 g_m_54.1 (Int.toNat (rmI x4_37 100))
                refine ⟨fun hq => ?_, fun hq => ?_⟩
                · skip
                  (first | trivial | omega | (refine ⟨?_, ?_⟩ <;> omega))
                · skip
                  refine ⟨⟨by omega, by omega⟩, ?_⟩
                  intro z6_86 e_z6_86
                  have r_z6_86 : rg z6_86 := by rw [e_z6_86]; exact (rd_rg _ _ _)
                  try have q6 : dvI z6_86 24 = z6_86 / 24 := dv_eq (by omega) (by omega) (by omega) (by omega)
                  refine ⟨fun hq => ?_, fun hq => ?_⟩
                  · skip
                    refine CV.mono (ct_118   g_m_54 r_z6_86 (by omega) hI_54.2) (by decide) ?_
                    rintro m103 ⟨g_m103, h_m103⟩
                    refine CV.mono (ct_116   g_m103 h_a r_x2 r_z6_86 (by omega) (by omega) h_m103 p1) (by decide) ?_
                    rintro m111 ⟨g_m111, h_m111⟩
                    try have w7 : wr (x5_54 + 1) = x5_54 + 1 := wr_id (by omega) (by omega)
                    intro z5_114 e_z5_114
                    have r_z5_114 : rg z5_114 := by rw [e_z5_114]; exact wr_rg _
                    exact ⟨⟨g_m111, by exact ⟨by omega, h_m111⟩⟩, by (try dsimp only); omega⟩
                  · skip
                    exact ⟨g_m_54, by first | trivial | omega | (refine ⟨?_, ?_⟩ <;> omega)⟩
            · intro   hR_120
              try have w8 : wr (x4_37 + 1) = x4_37 + 1 := wr_id (by omega) (by omega)
              intro z4_120 e_z4_120
              have r_z4_120 : rg z4_120 := by rw [e_z4_120]; exact wr_rg _
              exact ⟨⟨g_m_54, by exact ⟨by omega, hI_54.2⟩⟩, by (try dsimp only); omega⟩
    · intro   hR_126
      exact ⟨g_m_37, by first | trivial | omega | (refine ⟨?_, ?_⟩ <;> omega)⟩
-- TippedCrates$Walks.enrich(II)V
set_option maxRecDepth 20000 in
theorem ct_120 {m0 m : Mm} {x1 : Int} {x2 : Int}  (g_m : G m0 m) (r_x1 : rg x1) (r_x2 : rg x2) (p0 : 0 ≤ x1 ∧ x1 ≤ 599) : CV 2 120 [.ref 39, iv x1, iv x2] m (fun m2 => G m0 m2 ∧ (True)) := by
  refine br_120 r_x1 r_x2 ?_
  unfold P_120
  refine ⟨fun x3_2 m_2 => G m0 m_2 ∧ (0 ≤ x3_2 ∧ x3_2 ≤ 4), fun x3_2 m_2 => Int.toNat (4 - x3_2), ?_, ?_⟩
  · exact ⟨g_m, by first | omega | (refine ⟨?_, ?_⟩ <;> omega) | trivial⟩
  · intro x3_2 m_2 r_x3_2 hI_2
    obtain ⟨g_m_2, hI_2⟩ := hI_2
    refine ⟨fun hq => ?_, fun hq => ?_⟩
    · skip
      exact ⟨g_m_2, by first | trivial | omega | (refine ⟨?_, ?_⟩ <;> omega)⟩
    · skip
      refine CK.mono (ct_71   g_m_2.1 r_x1 r_x3_2 (by omega) (by omega)) (by decide) ?_
      rintro m13 v13 r_v13 ⟨e_m13, h_m13⟩
      replace e_m13 := e_m13.symm
      subst e_m13
      refine ⟨fun m_79 => G m0 m_79 ∧ (True), ?_, ?_⟩
      · skip
        refine ⟨fun hq => ?_, fun hq => ?_⟩
        · skip
          exact ⟨g_m_2, by first | trivial | omega | (refine ⟨?_, ?_⟩ <;> omega)⟩
        · skip
          refine ⟨fun s0_35 => True, ?_, ?_⟩
          · skip
            refine ⟨fun hq => ?_, fun hq => ?_⟩
            · skip
              (first | trivial | omega | (refine ⟨?_, ?_⟩ <;> omega))
            · skip
              try have w1 : wr (3 - x3_2) = 3 - x3_2 := wr_id (by omega) (by omega)
              (first | trivial | omega | (refine ⟨?_, ?_⟩ <;> omega))
          · intro s0_35 r_s0_35 hR_35
            have t2 := ty_39_7 g_m_2.1
            refine ⟨by omega, ?_⟩
            refine ⟨⟨by omega, by omega⟩, ?_⟩
            refine CK.mono (ct_73   g_m_2.1 r_v13 (by omega)) (by decide) ?_
            rintro m50 v50 r_v50 ⟨e_m50, h_m50⟩
            replace e_m50 := e_m50.symm
            subst e_m50
            try have w4 : wr (4 * v50) = 4 * v50 := wr_id (by omega) (by omega)
            try have w5 : wr ((rd m_2 (Int.toNat (rd m_2 39 7)) (Int.toNat x1)) + (wr (4 * v50))) = (rd m_2 (Int.toNat (rd m_2 39 7)) (Int.toNat x1)) + (wr (4 * v50)) := wr_id (by omega) (by omega)
            try have w6 : wr ((wr ((rd m_2 (Int.toNat (rd m_2 39 7)) (Int.toNat x1)) + (wr (4 * v50)))) + s0_35) = (wr ((rd m_2 (Int.toNat (rd m_2 39 7)) (Int.toNat x1)) + (wr (4 * v50)))) + s0_35 := wr_id (by omega) (by omega)
            intro z6_58 e_z6_58
            have r_z6_58 : rg z6_58 := by rw [e_z6_58]; exact (wr_rg _)
            have t7 := ty_39_8 g_m_2.1
            refine ⟨by omega, ?_⟩
            refine ⟨by omega, ?_⟩
            refine ⟨⟨by omega, by omega⟩, ?_⟩
            refine ⟨⟨by omega, by omega⟩, ?_⟩
            intro m78 e_m78
            have g_m78 : G m0 m78 := by rw [e_m78]; exact GX.wt g_m_2 (tw_wk g_m_2.1 (by omega) (mx_rg (rd_rg _ _ _) r_z6_58)) (rg_wk (by omega))
            exact ⟨g_m78, by first | trivial | omega | (refine ⟨?_, ?_⟩ <;> omega)⟩
      · intro m_79  hR_79
        obtain ⟨g_m_79, hR_79⟩ := hR_79
        try have w9 : wr (x3_2 + 1) = x3_2 + 1 := wr_id (by omega) (by omega)
        intro z3_79 e_z3_79
        have r_z3_79 : rg z3_79 := by rw [e_z3_79]; exact wr_rg _
        exact ⟨⟨g_m_79, by first | omega | (refine ⟨?_, ?_⟩ <;> omega) | trivial⟩, by (try dsimp only); omega⟩
-- TippedCrates$Walks.richestWalk(II)I
set_option maxRecDepth 20000 in
theorem ct_119 {m0 m : Mm} {x1 : Int} {x2 : Int}  (g_m : G m0 m) (r_x1 : rg x1) (r_x2 : rg x2) (p0 : 0 ≤ x1 ∧ x1 ≤ 40) : CK 3 119 [.ref 39, iv x1, iv x2] m (fun m2 v => G m0 m2 ∧ (True)) := by
  refine br_119 r_x1 r_x2 ?_
  unfold P_119
  have tb := ty_39_7 g_m.1
  have t1 := ty_39_7 g_m.1
  refine ⟨by omega, ?_⟩
  refine CV.mono (ct_299   (wk_R (by omega)) (by unfold rg; decide)) (by decide) ?_
  rintro m5 ⟨hx_m5, h_m5⟩
  have g_m5 : G m0 m5 := by rw [hx_m5]; exact gf_wk g_m (by omega) ⟨by omega, by omega⟩
  have t2 := ty_39_7 g_m5.1
  refine ⟨by omega, ?_⟩
  have t3 := ty_36_1 g_m5.1
  refine ⟨⟨by omega, by omega⟩, ?_⟩
  intro m20 e_m20
  have g_m20 : G m0 m20 := by rw [e_m20]; exact GX.wt g_m5 (tw_wk g_m5.1 (by omega) (by first | assumption | omega)) (by first | exact rg_wk (by omega) | (unfold isSt at *; simp; omega))
  refine ⟨fun x3_23 m_23 => G m0 m_23 ∧ (0 ≤ x3_23 ∧ x3_23 ≤ 40), fun x3_23 m_23 => Int.toNat (40 - x3_23), ?_, ?_⟩
  · exact ⟨g_m20, by first | omega | (refine ⟨?_, ?_⟩ <;> omega) | trivial⟩
  · intro x3_23 m_23 r_x3_23 hI_23
    obtain ⟨g_m_23, hI_23⟩ := hI_23
    have tb8 := ty_39_8 g_m_23.1
    refine ⟨fun hq => ?_, fun hq => ?_⟩
    · skip
      have t4 := ty_39_7 g_m_23.1
      refine ⟨by omega, ?_⟩
      refine ⟨fun x3_113 x6_113 => 0 ≤ x6_113 ∧ x6_113 ≤ 600, fun x3_113 x6_113 => Int.toNat (600 - x6_113), ?_, ?_⟩
      · (first | omega | (refine ⟨?_, ?_⟩ <;> omega) | trivial)
      · intro x3_113 x6_113 r_x3_113 r_x6_113 hI_113
        refine ⟨fun hq => ?_, fun hq => ?_⟩
        · skip
          refine ⟨True, ?_, ?_⟩
          · skip
            refine ⟨fun hq => ?_, fun hq => ?_⟩
            · skip
              (first | trivial | omega | (refine ⟨?_, ?_⟩ <;> omega))
            · skip
              refine ⟨True, ?_, ?_⟩
              · skip
                refine ⟨fun hq => ?_, fun hq => ?_⟩
                · skip
                  (first | trivial | omega | (refine ⟨?_, ?_⟩ <;> omega))
                · skip
                  refine ⟨fun hq => ?_, fun hq => ?_⟩
                  · skip
                    (first | trivial | omega | (refine ⟨?_, ?_⟩ <;> omega))
                  · skip
                    (first | trivial | omega | (refine ⟨?_, ?_⟩ <;> omega))
              · intro   hR_157
                refine ⟨fun s0_172 => True, ?_, ?_⟩
                · skip
                  refine ⟨fun hq => ?_, fun hq => ?_⟩
                  · skip
                    try have q5 : rmI x3_113 4 = x3_113 % 4 := rm_eq (by omega) (by omega) (by omega) (by omega)
                    try have w6 : wr (3 - (rmI x3_113 4)) = 3 - (rmI x3_113 4) := wr_id (by omega) (by omega)
                    (first | trivial | omega | (refine ⟨?_, ?_⟩ <;> omega))
                  · skip
                    try have q7 : dvI x3_113 4 = x3_113 / 4 := dv_eq (by omega) (by omega) (by omega) (by omega)
                    (first | trivial | omega | (refine ⟨?_, ?_⟩ <;> omega))
                · intro s0_172 r_s0_172 hR_172
                  exact ⟨g_m_23, by first | trivial | omega | (refine ⟨?_, ?_⟩ <;> omega)⟩
          · intro   hR_154
            exact ⟨g_m_23, by first | trivial | omega | (refine ⟨?_, ?_⟩ <;> omega)⟩
        · skip
          refine ⟨⟨by omega, by omega⟩, ?_⟩
          intro z7_125 e_z7_125
          have r_z7_125 : rg z7_125 := by rw [e_z7_125]; exact (rd_rg _ _ _)
          intro z3_133 e_z3_133
          have r_z3_133 : rg z3_133 := by rw [e_z3_133]; exact (mx_rg r_x3_113 r_z7_125)
          try have w9 : wr (x6_113 + 1) = x6_113 + 1 := wr_id (by omega) (by omega)
          intro z6_134 e_z6_134
          have r_z6_134 : rg z6_134 := by rw [e_z6_134]; exact wr_rg _
          exact ⟨by first | omega | (refine ⟨?_, ?_⟩ <;> omega) | trivial, by (try dsimp only); omega⟩
    · skip
      have t10 := ty_39_8 g_m_23.1
      refine ⟨by omega, ?_⟩
      refine CV.mono (ct_299   (wk_R (by omega)) (by unfold rg; decide)) (by decide) ?_
      rintro m33 ⟨hx_m33, h_m33⟩
      have g_m33 : G m0 m33 := by rw [hx_m33]; exact gf_wk g_m_23 (by omega) ⟨by omega, by omega⟩
      refine ⟨fun x4_39 m_39 => G m0 m_39 ∧ (0 ≤ x4_39 ∧ x4_39 ≤ 600), fun x4_39 m_39 => Int.toNat (600 - x4_39), ?_, ?_⟩
      · exact ⟨g_m33, by first | omega | (refine ⟨?_, ?_⟩ <;> omega) | trivial⟩
      · intro x4_39 m_39 r_x4_39 hI_39
        obtain ⟨g_m_39, hI_39⟩ := hI_39
        refine ⟨fun hq => ?_, fun hq => ?_⟩
        · skip
          have t11 := ty_39_7 g_m_39.1
          refine ⟨by omega, ?_⟩
          have t12 := ty_39_8 g_m_39.1
          refine ⟨by omega, ?_⟩
          intro m82 e_m82
          have g_m82 : G m0 m82 := by rw [e_m82]; exact GX.wt g_m_39 (tw_39_7 g_m_39.1 ⟨by omega, by omega⟩) (Eq.refl true)
          intro m88 e_m88
          have g_m88 : G m0 m88 := by rw [e_m88]; exact GX.wt g_m82 (tw_39_8 g_m82.1 ⟨by omega, by omega⟩) (Eq.refl true)
          try have w13 : wr (x3_23 + 1) = x3_23 + 1 := wr_id (by omega) (by omega)
          intro z3_91 e_z3_91
          have r_z3_91 : rg z3_91 := by rw [e_z3_91]; exact wr_rg _
          exact ⟨⟨g_m88, by first | omega | (refine ⟨?_, ?_⟩ <;> omega) | trivial⟩, by (try dsimp only); omega⟩
        · skip
          have t14 := ty_39_7 g_m_39.1
          refine ⟨by omega, ?_⟩
          refine ⟨⟨by omega, by omega⟩, ?_⟩
          refine ⟨fun m_65 => G m0 m_65 ∧ (True), ?_, ?_⟩
          · skip
            refine ⟨fun hq => ?_, fun hq => ?_⟩
            · skip
              exact ⟨g_m_39, by first | trivial | omega | (refine ⟨?_, ?_⟩ <;> omega)⟩
            · skip
              refine CV.mono (ct_120   g_m_39 r_x4_39 r_x3_23 (by omega)) (by decide) ?_
              rintro m62 ⟨g_m62, h_m62⟩
              exact ⟨g_m62, by first | trivial | omega | (refine ⟨?_, ?_⟩ <;> omega)⟩
          · intro m_65  hR_65
            obtain ⟨g_m_65, hR_65⟩ := hR_65
            try have w16 : wr (x4_39 + 1) = x4_39 + 1 := wr_id (by omega) (by omega)
            intro z4_65 e_z4_65
            have r_z4_65 : rg z4_65 := by rw [e_z4_65]; exact wr_rg _
            exact ⟨⟨g_m_65, by first | omega | (refine ⟨?_, ?_⟩ <;> omega) | trivial⟩, by (try dsimp only); omega⟩
-- TippedCrates$Rows.addTold(IIZ)I
set_option maxRecDepth 20000 in
theorem ct_56 {m : Mm} {x1 : Int} {x2 : Int} {x3 : Int}  (T_m : Ty m) (r_x1 : rg x1) (r_x2 : rg x2) (r_x3 : rg x3) (p0 : 1 ≤ x1 ∧ x1 ≤ 5) : CK 1 56 [.ref 49, iv x1, iv x2, iv x3] m (fun m2 v => GX sRw m m2 ∧ (True)) := by
  refine br_56 r_x1 r_x2 r_x3 ?_
  unfold P_56
  have g_m : GX sRw m m := ⟨T_m, fun _ _ _ => rfl, fun _ _ => rfl⟩
  have t1 := ty_49_0 T_m
  refine ⟨fun hq => ?_, fun hq => ?_⟩
  · skip
    refine ⟨⟨by omega, by omega⟩, ?_⟩
    intro m20 e_m20
    have g_m20 : GX sRw m m20 := by rw [e_m20]; exact GX.wt g_m (tw_50 T_m ⟨by omega, by omega⟩) (Eq.refl true)
    have e20 : rd m20 49 0 = rd m 49 0 := by rw [e_m20, rd_wt, if_neg (by omega)]
    have t2 := ty_49_0 g_m20.1
    refine ⟨⟨by omega, by omega⟩, ?_⟩
    intro m30 e_m30
    have g_m30 : GX sRw m m30 := by rw [e_m30]; exact GX.wt g_m20 (tw_51 g_m20.1 (by first | assumption | omega)) (Eq.refl true)
    have e30 : rd m30 49 0 = rd m20 49 0 := by rw [e_m30, rd_wt, if_neg (by omega)]
    have t3 := ty_49_0 g_m30.1
    refine ⟨⟨by omega, by omega⟩, ?_⟩
    intro m40 e_m40
    have g_m40 : GX sRw m m40 := by rw [e_m40]; exact GX.wt g_m30 (tw_52 g_m30.1 (nz_rg _)) (Eq.refl true)
    have e40 : rd m40 49 0 = rd m30 49 0 := by rw [e_m40, rd_wt, if_neg (by omega)]
    have t4 := ty_49_0 g_m40.1
    try have w5 : wr ((rd m40 49 0) + 1) = (rd m40 49 0) + 1 := wr_id (by omega) (by omega)
    intro m48 e_m48
    have g_m48 : GX sRw m m48 := by rw [e_m48]; exact GX.wt g_m40 (tw_49_0 g_m40.1 ⟨by omega, by omega⟩) (Eq.refl true)
    have t6 := ty_49_0 g_m48.1
    try have w7 : wr ((rd m48 49 0) - 1) = (rd m48 49 0) - 1 := wr_id (by omega) (by omega)
    exact ⟨g_m48, by first | trivial | omega | (refine ⟨?_, ?_⟩ <;> omega)⟩
  · skip
    exact ⟨g_m, by first | trivial | omega | (refine ⟨?_, ?_⟩ <;> omega)⟩
-- TippedCrates$Rows.clearTold()I
set_option maxRecDepth 20000 in
theorem ct_57 {m : Mm}   (T_m : Ty m)   : CK 1 57 [.ref 49] m (fun m2 v => GX sRw m m2 ∧ (True)) := by
  refine br_57  ?_
  unfold P_57
  have g_m : GX sRw m m := ⟨T_m, fun _ _ _ => rfl, fun _ _ => rfl⟩
  have t1 := ty_49_0 T_m
  intro z1_4 e_z1_4
  have r_z1_4 : rg z1_4 := by rw [e_z1_4]; exact (rd_rg _ _ _)
  intro m7 e_m7
  have g_m7 : GX sRw m m7 := by rw [e_m7]; exact GX.wt g_m (tw_49_0 T_m ⟨by omega, by omega⟩) (Eq.refl true)
  exact ⟨g_m7, by first | trivial | omega | (refine ⟨?_, ?_⟩ <;> omega)⟩
-- TippedCrates$Rows.isAsKnown(II)Z
set_option maxRecDepth 20000 in
theorem ct_60 {m : Mm} {x1 : Int} {x2 : Int}  (T_m : Ty m) (r_x1 : rg x1) (r_x2 : rg x2)  : CK 1 60 [.ref 49, iv x1, iv x2] m (fun m2 v => m2 = m ∧ (v = 0 ∨ v = 1)) := by
  refine br_60 r_x1 r_x2 ?_
  unfold P_60
  refine ⟨fun x3_2 => 0 ≤ x3_2 ∧ x3_2 ≤ 20, fun x3_2 => Int.toNat (20 - x3_2), ?_, ?_⟩
  · (first | omega | (refine ⟨?_, ?_⟩ <;> omega) | trivial)
  · intro x3_2 r_x3_2 hI_2
    have t1 := ty_49_9 T_m
    refine ⟨fun hq => ?_, fun hq => ?_⟩
    · skip
      exact ⟨rfl, by first | trivial | omega | (refine ⟨?_, ?_⟩ <;> omega)⟩
    · skip
      refine ⟨⟨by omega, by omega⟩, ?_⟩
      have t2 := ty_50 T_m (Int.toNat x3_2)
      refine ⟨True, ?_, ?_⟩
      · skip
        refine ⟨fun hq => ?_, fun hq => ?_⟩
        · skip
          (first | trivial | omega | (refine ⟨?_, ?_⟩ <;> omega))
        · skip
          refine ⟨⟨by omega, by omega⟩, ?_⟩
          refine ⟨⟨by omega, by omega⟩, ?_⟩
          refine ⟨fun s1_41 => (s1_41 = 0 ∨ s1_41 = 1), ?_, ?_⟩
          · skip
            refine ⟨fun hq => ?_, fun hq => ?_⟩
            · skip
              (first | trivial | omega | (refine ⟨?_, ?_⟩ <;> omega))
            · skip
              (first | trivial | omega | (refine ⟨?_, ?_⟩ <;> omega))
          · intro s1_41 r_s1_41 hR_41
            refine ⟨fun hq => ?_, fun hq => ?_⟩
            · skip
              (first | trivial | omega | (refine ⟨?_, ?_⟩ <;> omega))
            · skip
              exact ⟨rfl, by first | trivial | omega | (refine ⟨?_, ?_⟩ <;> omega)⟩
      · intro   hR_46
        try have w5 : wr (x3_2 + 1) = x3_2 + 1 := wr_id (by omega) (by omega)
        intro z3_46 e_z3_46
        have r_z3_46 : rg z3_46 := by rw [e_z3_46]; exact wr_rg _
        exact ⟨by first | omega | (refine ⟨?_, ?_⟩ <;> omega) | trivial, by (try dsimp only); omega⟩
-- TippedCrates$Rows.noteRow(I)V
set_option maxRecDepth 20000 in
theorem ct_61 {m0 m : Mm} {x1 : Int}  (g_m : G m0 m) (r_x1 : rg x1)  : CV 1 61 [.ref 49, iv x1] m (fun m2 => G m0 m2 ∧ (True)) := by
  refine br_61 r_x1 ?_
  unfold P_61
  refine ⟨fun m_12 => G m0 m_12 ∧ (True), ?_, ?_⟩
  · skip
    refine ⟨fun hq => ?_, fun hq => ?_⟩
    · skip
      exact ⟨g_m, by first | trivial | omega | (refine ⟨?_, ?_⟩ <;> omega)⟩
    · skip
      intro m9 e_m9
      have g_m9 : G m0 m9 := by rw [e_m9]; exact GX.wt g_m (tw_49_2 g_m.1 (by first | assumption | omega)) (Eq.refl true)
      exact ⟨g_m9, by first | trivial | omega | (refine ⟨?_, ?_⟩ <;> omega)⟩
  · intro m_12  hR_12
    obtain ⟨g_m_12, hR_12⟩ := hR_12
    try have w3 : wr ((rd m_12 49 1) + 1) = (rd m_12 49 1) + 1 := wr_id (by omega) (by omega)
    intro m19 e_m19
    have g_m19 : G m0 m19 := by rw [e_m19]; exact GX.wt g_m_12 (tw_49_1 g_m_12.1 (wr_rg _)) (Eq.refl true)
    refine ⟨fun x2_24 m_24 => G m0 m_24 ∧ (0 ≤ x2_24 ∧ x2_24 ≤ 5), fun x2_24 m_24 => Int.toNat (5 - x2_24), ?_, ?_⟩
    · exact ⟨g_m19, by first | omega | (refine ⟨?_, ?_⟩ <;> omega) | trivial⟩
    · intro x2_24 m_24 r_x2_24 hI_24
      obtain ⟨g_m_24, hI_24⟩ := hI_24
      have t4 := ty_49_10 g_m_24.1
      refine ⟨fun hq => ?_, fun hq => ?_⟩
      · skip
        exact ⟨g_m_24, by first | trivial | omega | (refine ⟨?_, ?_⟩ <;> omega)⟩
      · skip
        refine ⟨⟨by omega, by omega⟩, ?_⟩
        try have w5 : wr (x2_24 * 10) = x2_24 * 10 := wr_id (by omega) (by omega)
        have t6 := ty_53 g_m_24.1 (Int.toNat x2_24)
        try have w7 : wr ((wr (x2_24 * 10)) + (rd m_24 53 (Int.toNat x2_24))) = (wr (x2_24 * 10)) + (rd m_24 53 (Int.toNat x2_24)) := wr_id (by omega) (by omega)
        refine ⟨⟨by omega, by omega⟩, ?_⟩
        refine ⟨⟨by omega, by omega⟩, ?_⟩
        try have w9 : wr ((rd m_24 54 (Int.toNat (wr ((wr (x2_24 * 10)) + (rd m_24 53 (Int.toNat x2_24)))))) + 1) = (rd m_24 54 (Int.toNat (wr ((wr (x2_24 * 10)) + (rd m_24 53 (Int.toNat x2_24)))))) + 1 := wr_id (by omega) (by omega)
        intro m51 e_m51
        have g_m51 : G m0 m51 := by rw [e_m51]; exact GX.wt g_m_24 (tw_54 g_m_24.1 (wr_rg _)) (Eq.refl true)
        try have w10 : wr (x2_24 + 1) = x2_24 + 1 := wr_id (by omega) (by omega)
        intro z2_52 e_z2_52
        have r_z2_52 : rg z2_52 := by rw [e_z2_52]; exact wr_rg _
        exact ⟨⟨g_m51, by first | omega | (refine ⟨?_, ?_⟩ <;> omega) | trivial⟩, by (try dsimp only); omega⟩
-- TippedCrates$Rows.worstLeft(I)I
set_option maxRecDepth 20000 in
theorem ct_63 {m : Mm} {x1 : Int}  (T_m : Ty m) (r_x1 : rg x1) (p0 : 1 ≤ x1 ∧ x1 ≤ 5) : CK 1 63 [.ref 49, iv x1] m (fun m2 v => m2 = m ∧ (True)) := by
  refine br_63 r_x1 ?_
  unfold P_63
  refine ⟨fun x2_4 x3_4 => 0 ≤ x3_4 ∧ x3_4 ≤ 10, fun x2_4 x3_4 => Int.toNat (10 - x3_4), ?_, ?_⟩
  · (first | omega | (refine ⟨?_, ?_⟩ <;> omega) | trivial)
  · intro x2_4 x3_4 r_x2_4 r_x3_4 hI_4
    refine ⟨fun hq => ?_, fun hq => ?_⟩
    · skip
      exact ⟨rfl, by first | trivial | omega | (refine ⟨?_, ?_⟩ <;> omega)⟩
    · skip
      try have w1 : wr (x1 - 1) = x1 - 1 := wr_id (by omega) (by omega)
      try have w2 : wr ((wr (x1 - 1)) * 10) = (wr (x1 - 1)) * 10 := wr_id (by omega) (by omega)
      try have w3 : wr ((wr ((wr (x1 - 1)) * 10)) + x3_4) = (wr ((wr (x1 - 1)) * 10)) + x3_4 := wr_id (by omega) (by omega)
      refine ⟨⟨by omega, by omega⟩, ?_⟩
      intro z2_27 e_z2_27
      have r_z2_27 : rg z2_27 := by rw [e_z2_27]; exact (mx_rg r_x2_4 (rd_rg _ _ _))
      try have w5 : wr (x3_4 + 1) = x3_4 + 1 := wr_id (by omega) (by omega)
      intro z3_28 e_z3_28
      have r_z3_28 : rg z3_28 := by rw [e_z3_28]; exact wr_rg _
      exact ⟨by first | omega | (refine ⟨?_, ?_⟩ <;> omega) | trivial, by (try dsimp only); omega⟩
-- TippedCrates$Rows.bestToHear(I)I
set_option maxRecDepth 20000 in
theorem ct_62 {m : Mm} {x1 : Int}  (T_m : Ty m) (r_x1 : rg x1) (p0 : 1 ≤ x1 ∧ x1 ≤ 5) : CK 2 62 [.ref 49, iv x1] m (fun m2 v => m2 = m ∧ (True)) := by
  refine br_62 r_x1 ?_
  unfold P_62
  refine ⟨fun hq => ?_, fun hq => ?_⟩
  · skip
    refine ⟨fun x2_19 x3_19 x4_19 m_19 => m_19 = m ∧ (1 ≤ x4_19 ∧ x4_19 ≤ 6), fun x2_19 x3_19 x4_19 m_19 => Int.toNat (6 - x4_19), ?_, ?_⟩
    · exact ⟨rfl, by first | omega | (refine ⟨?_, ?_⟩ <;> omega) | trivial⟩
    · intro x2_19 x3_19 x4_19 m_19 r_x2_19 r_x3_19 r_x4_19 hI_19
      obtain ⟨e_m_19, hI_19⟩ := hI_19
      replace e_m_19 := e_m_19.symm
      subst e_m_19
      refine ⟨fun hq => ?_, fun hq => ?_⟩
      · skip
        exact ⟨rfl, by first | trivial | omega | (refine ⟨?_, ?_⟩ <;> omega)⟩
      · skip
        refine CK.mono (ct_63   T_m r_x4_19 (by omega)) (by decide) ?_
        rintro m28 v28 r_v28 ⟨e_m28, h_m28⟩
        replace e_m28 := e_m28.symm
        subst e_m28
        refine ⟨fun y2_45 y3_45 => True, ?_, ?_⟩
        · skip
          refine ⟨fun hq => ?_, fun hq => ?_⟩
          · skip
            (first | trivial | omega | (refine ⟨?_, ?_⟩ <;> omega))
          · skip
            (first | trivial | omega | (refine ⟨?_, ?_⟩ <;> omega))
        · intro y2_45 y3_45 r_y2_45 r_y3_45 hR_45
          try have w2 : wr (x4_19 + 1) = x4_19 + 1 := wr_id (by omega) (by omega)
          intro z4_45 e_z4_45
          have r_z4_45 : rg z4_45 := by rw [e_z4_45]; exact wr_rg _
          exact ⟨⟨rfl, by first | omega | (refine ⟨?_, ?_⟩ <;> omega) | trivial⟩, by (try dsimp only); omega⟩
  · skip
    exact ⟨rfl, by first | trivial | omega | (refine ⟨?_, ?_⟩ <;> omega)⟩
-- TippedCrates$Rows.tryRows(III)V
set_option maxRecDepth 20000 in
theorem ct_59 (N : Nat) : ∀ {m0 m : Mm} {x1 : Int} {x2 : Int} {x3 : Int}  (g_m : G m0 m) (r_x1 : rg x1) (r_x2 : rg x2) (r_x3 : rg x3) (p0 : 0 ≤ x1 ∧ x1 ≤ 599) (p1 : 0 ≤ x2) (hN : Int.toNat (5 - x2) < N), CV (N + 4) 59 [.ref 49, iv x1, iv x2, iv x3] m (fun m2 => G m0 m2 ∧ (True)) := by
  induction N with
  | zero => intros; omega
  | succ N ih =>
    intro m0 m x1 x2 x3 g_m r_x1 r_x2 r_x3 p0 p1 hN
    refine br_59 (d := N + 4) r_x1 r_x2 r_x3 ?_
    unfold P_59
    have t1 := ty_49_10 g_m.1
    refine ⟨True, ?_, ?_⟩
    · skip
      refine ⟨fun hq => ?_, fun hq => ?_⟩
      · skip
        (first | trivial | omega | (refine ⟨?_, ?_⟩ <;> omega))
      · skip
        refine ⟨fun hq => ?_, fun hq => ?_⟩
        · skip
          refine ⟨fun x4_22 m_22 => G m0 m_22 ∧ (0 ≤ x4_22 ∧ x4_22 ≤ 4), fun x4_22 m_22 => Int.toNat (4 - x4_22), ?_, ?_⟩
          · exact ⟨g_m, by first | omega | (refine ⟨?_, ?_⟩ <;> omega) | trivial⟩
          · intro x4_22 m_22 r_x4_22 hI_22
            obtain ⟨g_m_22, hI_22⟩ := hI_22
            refine ⟨fun hq => ?_, fun hq => ?_⟩
            · skip
              exact ⟨g_m_22, by first | trivial | omega | (refine ⟨?_, ?_⟩ <;> omega)⟩
            · skip
              refine CK.mono (ct_71   g_m_22.1 r_x1 r_x4_22 (by omega) (by omega)) (by omega) ?_
              rintro m35 v35 r_v35 ⟨e_m35, h_m35⟩
              replace e_m35 := e_m35.symm
              subst e_m35
              refine ⟨fun m_95 => G m0 m_95 ∧ (True), ?_, ?_⟩
              · skip
                refine ⟨fun hq => ?_, fun hq => ?_⟩
                · skip
                  refine CK.mono (ct_73   g_m_22.1 r_v35 (by omega)) (by omega) ?_
                  rintro m60 v60 r_v60 ⟨e_m60, h_m60⟩
                  replace e_m60 := e_m60.symm
                  subst e_m60
                  refine ⟨⟨by omega, by omega⟩, ?_⟩
                  intro m63 e_m63
                  have g_m63 : G m0 m63 := by rw [e_m63]; exact GX.wt g_m_22 (tw_53 g_m_22.1 ⟨by omega, by omega⟩) (Eq.refl true)
                  refine ⟨⟨by omega, by omega⟩, ?_⟩
                  try have w2 : wr (x2 + 1) = x2 + 1 := wr_id (by omega) (by omega)
                  have t3 := ty_53 g_m63.1 (Int.toNat x2)
                  refine CK.mono (ct_60   g_m63.1 (wr_rg _) (rd_rg _ _ _)) (by omega) ?_
                  rintro m74 v74 r_v74 ⟨e_m74, h_m74⟩
                  replace e_m74 := e_m74.symm
                  subst e_m74
                  refine ⟨fun hq => ?_, fun hq => ?_⟩
                  · skip
                    exact ⟨g_m63, by first | trivial | omega | (refine ⟨?_, ?_⟩ <;> omega)⟩
                  · skip
                    try have w4 : wr (x3 * 4) = x3 * 4 := wr_id (by omega) (by omega)
                    try have w5 : wr ((wr (x3 * 4)) + x4_22) = (wr (x3 * 4)) + x4_22 := wr_id (by omega) (by omega)
                    refine CV.mono (ih g_m63 r_v35 (wr_rg _) (wr_rg _) (by omega) (by omega) (by omega)) (Nat.le_refl _) ?_
                    rintro m92 ⟨g_m92, h_m92⟩
                    exact ⟨g_m92, by first | trivial | omega | (refine ⟨?_, ?_⟩ <;> omega)⟩
                · skip
                  exact ⟨g_m_22, by first | trivial | omega | (refine ⟨?_, ?_⟩ <;> omega)⟩
              · intro m_95  hR_95
                obtain ⟨g_m_95, hR_95⟩ := hR_95
                try have w6 : wr (x4_22 + 1) = x4_22 + 1 := wr_id (by omega) (by omega)
                intro z4_95 e_z4_95
                have r_z4_95 : rg z4_95 := by rw [e_z4_95]; exact wr_rg _
                exact ⟨⟨g_m_95, by first | omega | (refine ⟨?_, ?_⟩ <;> omega) | trivial⟩, by (try dsimp only); omega⟩
        · skip
          (first | trivial | omega | (refine ⟨?_, ?_⟩ <;> omega))
    · intro   hR_13
      refine CV.mono (ct_61   g_m r_x3) (by omega) ?_
      rintro m15 ⟨g_m15, h_m15⟩
      exact ⟨g_m15, by first | trivial | omega | (refine ⟨?_, ?_⟩ <;> omega)⟩
-- TippedCrates$Rows.findRows(II)V
set_option maxRecDepth 20000 in
theorem ct_58 {m0 m : Mm} {x1 : Int} {x2 : Int}  (g_m : G m0 m) (r_x1 : rg x1) (r_x2 : rg x2) (p0 : 0 ≤ x1 ∧ x1 ≤ 20) (p1 : 1 ≤ x2 ∧ x2 ≤ 5) : CV 11 58 [.ref 49, iv x1, iv x2] m (fun m2 => G m0 m2 ∧ (True)) := by
  refine br_58 r_x1 r_x2 ?_
  unfold P_58
  intro m2 e_m2
  have g_m2 : G m0 m2 := by rw [e_m2]; exact GX.wt g_m (tw_49_9 g_m.1 ⟨by omega, by omega⟩) (Eq.refl true)
  intro m7 e_m7
  have g_m7 : G m0 m7 := by rw [e_m7]; exact GX.wt g_m2 (tw_49_10 g_m2.1 ⟨by omega, by omega⟩) (Eq.refl true)
  intro m12 e_m12
  have g_m12 : G m0 m12 := by rw [e_m12]; exact GX.wt g_m7 (tw_49_1 g_m7.1 (by first | assumption | omega)) (Eq.refl true)
  intro m18 e_m18
  have g_m18 : G m0 m18 := by rw [e_m18]; exact GX.wt g_m12 (tw_49_2 g_m12.1 (by first | assumption | omega)) (Eq.refl true)
  refine CV.mono (ct_299   ir_54 (by unfold rg; decide)) (by decide) ?_
  rintro m26 ⟨hx_m26, h_m26⟩
  have g_m26 : G m0 m26 := by rw [hx_m26]; exact gf_54 g_m18 ⟨by omega, by omega⟩
  refine ⟨fun x3_31 => 0 ≤ x3_31 ∧ x3_31 ≤ 20, fun x3_31 => Int.toNat (20 - x3_31), ?_, ?_⟩
  · (first | omega | (refine ⟨?_, ?_⟩ <;> omega) | trivial)
  · intro x3_31 r_x3_31 hI_31
    have t1 := ty_49_9 g_m26.1
    refine ⟨fun hq => ?_, fun hq => ?_⟩
    · skip
      have t2 := ty_36_1 g_m26.1
      refine CV.mono (ct_59 6  g_m26 (rd_rg _ _ _) (by unfold rg; decide) (by unfold rg; decide) (by omega) (by omega) (by omega)) (by decide) ?_
      rintro m69 ⟨g_m69, h_m69⟩
      exact ⟨g_m69, by first | trivial | omega | (refine ⟨?_, ?_⟩ <;> omega)⟩
    · skip
      refine ⟨⟨by omega, by omega⟩, ?_⟩
      have t3 := ty_50 g_m26.1 (Int.toNat x3_31)
      have t4 := ty_49_10 g_m26.1
      refine ⟨fun hq => ?_, fun hq => ?_⟩
      · skip
        try have w5 : wr (x3_31 + 1) = x3_31 + 1 := wr_id (by omega) (by omega)
        intro z3_53 e_z3_53
        have r_z3_53 : rg z3_53 := by rw [e_z3_53]; exact wr_rg _
        exact ⟨by first | omega | (refine ⟨?_, ?_⟩ <;> omega) | trivial, by (try dsimp only); omega⟩
      · skip
        exact ⟨g_m26, by first | trivial | omega | (refine ⟨?_, ?_⟩ <;> omega)⟩
-- TippedCrates$Rows.spellFrom(III)I
set_option maxRecDepth 20000 in
theorem ct_65 (N : Nat) : ∀ {m : Mm} {x1 : Int} {x2 : Int} {x3 : Int}  (T_m : Ty m) (r_x1 : rg x1) (r_x2 : rg x2) (r_x3 : rg x3) (p0 : 0 ≤ x1 ∧ x1 ≤ 599) (hN : Int.toNat x3 < N), CK (N + 3) 65 [.ref 49, iv x1, iv x2, iv x3] m (fun m2 v => m2 = m ∧ (True)) := by
  induction N with
  | zero => intros; omega
  | succ N ih =>
    intro m x1 x2 x3 T_m r_x1 r_x2 r_x3 p0 hN
    refine br_65 (d := N + 3) r_x1 r_x2 r_x3 ?_
    unfold P_65
    refine ⟨True, ?_, ?_⟩
    · skip
      refine ⟨fun hq => ?_, fun hq => ?_⟩
      · skip
        (first | trivial | omega | (refine ⟨?_, ?_⟩ <;> omega))
      · skip
        refine ⟨fun hq => ?_, fun hq => ?_⟩
        · skip
          try have w1 : wr (x3 - 1) = x3 - 1 := wr_id (by omega) (by omega)
          refine ⟨⟨by omega, by omega⟩, ?_⟩
          have sxf2 := sx_4 (j := (wr (x3 - 1))) ⟨by omega, by omega⟩
          refine ⟨by omega, ?_⟩
          intro z4_22 e_z4_22
          have r_z4_22 : rg z4_22 := by rw [e_z4_22]; exact (io_rg _ _ _)
          refine ⟨⟨by omega, by omega⟩, ?_⟩
          refine ⟨by omega, ?_⟩
          intro z5_33 e_z5_33
          have r_z5_33 : rg z5_33 := by rw [e_z5_33]; exact (io_rg _ _ _)
          refine ⟨fun x6_41 x7_41 m_41 => m_41 = m ∧ (0 ≤ x7_41 ∧ x7_41 ≤ 4), fun x6_41 x7_41 m_41 => Int.toNat (4 - x7_41), ?_, ?_⟩
          · exact ⟨rfl, by first | omega | (refine ⟨?_, ?_⟩ <;> omega) | trivial⟩
          · intro x6_41 x7_41 m_41 r_x6_41 r_x7_41 hI_41
            obtain ⟨e_m_41, hI_41⟩ := hI_41
            replace e_m_41 := e_m_41.symm
            subst e_m_41
            refine ⟨fun hq => ?_, fun hq => ?_⟩
            · skip
              exact ⟨rfl, by first | trivial | omega | (refine ⟨?_, ?_⟩ <;> omega)⟩
            · skip
              refine CK.mono (ct_71   T_m r_x1 r_x7_41 (by omega) (by omega)) (by omega) ?_
              rintro m54 v54 r_v54 ⟨e_m54, h_m54⟩
              replace e_m54 := e_m54.symm
              subst e_m54
              refine ⟨fun y6_95 m_95 => m_95 = m ∧ (True), ?_, ?_⟩
              · skip
                refine ⟨fun hq => ?_, fun hq => ?_⟩
                · skip
                  exact ⟨rfl, by first | trivial | omega | (refine ⟨?_, ?_⟩ <;> omega)⟩
                · skip
                  refine CK.mono (ct_73   T_m r_v54 (by omega)) (by omega) ?_
                  rintro m71 v71 r_v71 ⟨e_m71, h_m71⟩
                  replace e_m71 := e_m71.symm
                  subst e_m71
                  refine ⟨fun hq => ?_, fun hq => ?_⟩
                  · skip
                    exact ⟨rfl, by first | trivial | omega | (refine ⟨?_, ?_⟩ <;> omega)⟩
                  · skip
                    refine CK.mono (ih T_m r_v54 r_z5_33 (wr_rg _) (by omega) (by omega)) (Nat.le_refl _) ?_
                    rintro m89 v89 r_v89 ⟨e_m89, h_m89⟩
                    replace e_m89 := e_m89.symm
                    subst e_m89
                    try have w3 : wr (x6_41 + v89) = x6_41 + v89 := wr_id (by omega) (by omega)
                    intro z6_93 e_z6_93
                    have r_z6_93 : rg z6_93 := by rw [e_z6_93]; exact (wr_rg _)
                    exact ⟨rfl, by first | trivial | omega | (refine ⟨?_, ?_⟩ <;> omega)⟩
              · intro y6_95 m_95 r_y6_95 hR_95
                obtain ⟨e_m_95, hR_95⟩ := hR_95
                replace e_m_95 := e_m_95.symm
                subst e_m_95
                try have w4 : wr (x7_41 + 1) = x7_41 + 1 := wr_id (by omega) (by omega)
                intro z7_95 e_z7_95
                have r_z7_95 : rg z7_95 := by rw [e_z7_95]; exact wr_rg _
                exact ⟨⟨rfl, by first | omega | (refine ⟨?_, ?_⟩ <;> omega) | trivial⟩, by (try dsimp only); omega⟩
        · skip
          (first | trivial | omega | (refine ⟨?_, ?_⟩ <;> omega))
    · intro   hR_11
      exact ⟨rfl, by first | trivial | omega | (refine ⟨?_, ?_⟩ <;> omega)⟩
-- TippedCrates$Rows.spellings(II)I
set_option maxRecDepth 20000 in
theorem ct_64 {m : Mm} {x1 : Int} {x2 : Int}  (T_m : Ty m) (r_x1 : rg x1) (r_x2 : rg x2) (p0 : 1 ≤ x2 ∧ x2 ≤ 6) : CK 11 64 [.ref 49, iv x1, iv x2] m (fun m2 v => m2 = m ∧ (True)) := by
  refine br_64 r_x1 r_x2 ?_
  unfold P_64
  have t1 := ty_36_1 T_m
  refine CK.mono (ct_65 7  T_m (rd_rg _ _ _) r_x1 r_x2 (by omega) (by omega)) (by decide) ?_
  rintro m10 v10 r_v10 ⟨e_m10, h_m10⟩
  replace e_m10 := e_m10.symm
  subst e_m10
  exact ⟨rfl, by first | trivial | omega | (refine ⟨?_, ?_⟩ <;> omega)⟩
-- TippedCrates$Rows.playFrom(IIZ)I
set_option maxRecDepth 20000 in
theorem ct_68 (N : Nat) : ∀ {m : Mm} {x1 : Int} {x2 : Int} {x3 : Int}  (T_m : Ty m) (r_x1 : rg x1) (r_x2 : rg x2) (r_x3 : rg x3) (p0 : 0 ≤ x1 ∧ x1 ≤ 599) (hN : Int.toNat x2 < N), CK (N + 3) 68 [.ref 49, iv x1, iv x2, iv x3] m (fun m2 v => m2 = m ∧ (True)) := by
  induction N with
  | zero => intros; omega
  | succ N ih =>
    intro m x1 x2 x3 T_m r_x1 r_x2 r_x3 p0 hN
    refine br_68 (d := N + 3) r_x1 r_x2 r_x3 ?_
    unfold P_68
    refine ⟨fun x4_6 x5_6 m_6 => m_6 = m ∧ (0 ≤ x5_6 ∧ x5_6 ≤ 4), fun x4_6 x5_6 m_6 => Int.toNat (4 - x5_6), ?_, ?_⟩
    · exact ⟨rfl, by first | omega | (refine ⟨?_, ?_⟩ <;> omega) | trivial⟩
    · intro x4_6 x5_6 m_6 r_x4_6 r_x5_6 hI_6
      obtain ⟨e_m_6, hI_6⟩ := hI_6
      replace e_m_6 := e_m_6.symm
      subst e_m_6
      refine ⟨True, ?_, ?_⟩
      · skip
        refine ⟨fun hq => ?_, fun hq => ?_⟩
        · skip
          (first | trivial | omega | (refine ⟨?_, ?_⟩ <;> omega))
        · skip
          refine ⟨fun hq => ?_, fun hq => ?_⟩
          · skip
            (first | trivial | omega | (refine ⟨?_, ?_⟩ <;> omega))
          · skip
            refine ⟨fun hq => ?_, fun hq => ?_⟩
            · skip
              (first | trivial | omega | (refine ⟨?_, ?_⟩ <;> omega))
            · skip
              refine CK.mono (ct_71   T_m r_x1 r_x5_6 (by omega) (by omega)) (by omega) ?_
              rintro m29 v29 r_v29 ⟨e_m29, h_m29⟩
              replace e_m29 := e_m29.symm
              subst e_m29
              refine ⟨fun y4_94 m_94 => m_94 = m ∧ (True), ?_, ?_⟩
              · skip
                refine ⟨fun hq => ?_, fun hq => ?_⟩
                · skip
                  refine ⟨fun s3_58 => (s3_58 = 0 ∨ s3_58 = 1), ?_, ?_⟩
                  · skip
                    refine ⟨fun hq => ?_, fun hq => ?_⟩
                    · skip
                      (first | trivial | omega | (refine ⟨?_, ?_⟩ <;> omega))
                    · skip
                      (first | trivial | omega | (refine ⟨?_, ?_⟩ <;> omega))
                  · intro s3_58 r_s3_58 hR_58
                    try have w1 : wr (x2 - 1) = x2 - 1 := wr_id (by omega) (by omega)
                    refine CK.mono (ih T_m r_v29 (wr_rg _) r_s3_58 (by omega) (by omega)) (Nat.le_refl _) ?_
                    rintro m58 v58 r_v58 ⟨e_m58, h_m58⟩
                    replace e_m58 := e_m58.symm
                    subst e_m58
                    refine ⟨True, ?_, ?_⟩
                    · skip
                      refine ⟨fun hq => ?_, fun hq => ?_⟩
                      · skip
                        (first | trivial | omega | (refine ⟨?_, ?_⟩ <;> omega))
                      · skip
                        refine ⟨fun hq => ?_, fun hq => ?_⟩
                        · skip
                          refine ⟨fun hq => ?_, fun hq => ?_⟩
                          · skip
                            exact ⟨rfl, by first | trivial | omega | (refine ⟨?_, ?_⟩ <;> omega)⟩
                          · skip
                            (first | trivial | omega | (refine ⟨?_, ?_⟩ <;> omega))
                        · skip
                          refine ⟨fun hq => ?_, fun hq => ?_⟩
                          · skip
                            exact ⟨rfl, by first | trivial | omega | (refine ⟨?_, ?_⟩ <;> omega)⟩
                          · skip
                            (first | trivial | omega | (refine ⟨?_, ?_⟩ <;> omega))
                    · intro   hR_90
                      exact ⟨rfl, by first | trivial | omega | (refine ⟨?_, ?_⟩ <;> omega)⟩
                · skip
                  exact ⟨rfl, by first | trivial | omega | (refine ⟨?_, ?_⟩ <;> omega)⟩
              · intro y4_94 m_94 r_y4_94 hR_94
                obtain ⟨e_m_94, hR_94⟩ := hR_94
                replace e_m_94 := e_m_94.symm
                subst e_m_94
                try have w2 : wr (x5_6 + 1) = x5_6 + 1 := wr_id (by omega) (by omega)
                intro z5_94 e_z5_94
                have r_z5_94 : rg z5_94 := by rw [e_z5_94]; exact wr_rg _
                exact ⟨⟨rfl, by first | omega | (refine ⟨?_, ?_⟩ <;> omega) | trivial⟩, by (try dsimp only); omega⟩
      · intro   hR_100
        refine ⟨fun s0_119 m_119 => m_119 = m ∧ (True), ?_, ?_⟩
        · skip
          refine ⟨fun hq => ?_, fun hq => ?_⟩
          · skip
            exact ⟨rfl, by first | trivial | omega | (refine ⟨?_, ?_⟩ <;> omega)⟩
          · skip
            refine CK.mono (ct_72   T_m r_x1 (by omega)) (by omega) ?_
            rintro m111 v111 r_v111 ⟨e_m111, h_m111⟩
            replace e_m111 := e_m111.symm
            subst e_m111
            exact ⟨rfl, by first | trivial | omega | (refine ⟨?_, ?_⟩ <;> omega)⟩
        · intro s0_119 m_119 r_s0_119 hR_119
          obtain ⟨e_m_119, hR_119⟩ := hR_119
          replace e_m_119 := e_m_119.symm
          subst e_m_119
          exact ⟨rfl, by first | trivial | omega | (refine ⟨?_, ?_⟩ <;> omega)⟩
-- TippedCrates$Rows.endOfGame(I)I
set_option maxRecDepth 20000 in
theorem ct_66 {m : Mm} {x1 : Int}  (T_m : Ty m) (r_x1 : rg x1) (p0 : 1 ≤ x1 ∧ x1 ≤ 6) : CK 11 66 [.ref 49, iv x1] m (fun m2 v => m2 = m ∧ (True)) := by
  refine br_66 r_x1 ?_
  unfold P_66
  have t1 := ty_36_1 T_m
  refine CK.mono (ct_68 7  T_m (rd_rg _ _ _) r_x1 (by unfold rg; decide) (by omega) (by omega)) (by decide) ?_
  rintro m10 v10 r_v10 ⟨e_m10, h_m10⟩
  replace e_m10 := e_m10.symm
  subst e_m10
  exact ⟨rfl, by first | trivial | omega | (refine ⟨?_, ?_⟩ <;> omega)⟩
-- TippedCrates$Rows.openingWay(II)I
set_option maxRecDepth 20000 in
theorem ct_67 {m : Mm} {x1 : Int} {x2 : Int}  (T_m : Ty m) (r_x1 : rg x1) (r_x2 : rg x2) (p0 : 1 ≤ x2 ∧ x2 ≤ 6) : CK 11 67 [.ref 49, iv x1, iv x2] m (fun m2 v => m2 = m ∧ (True)) := by
  refine br_67 r_x1 r_x2 ?_
  unfold P_67
  refine ⟨fun x3_2 m_2 => m_2 = m ∧ (0 ≤ x3_2 ∧ x3_2 ≤ 4), fun x3_2 m_2 => Int.toNat (4 - x3_2), ?_, ?_⟩
  · exact ⟨rfl, by first | omega | (refine ⟨?_, ?_⟩ <;> omega) | trivial⟩
  · intro x3_2 m_2 r_x3_2 hI_2
    obtain ⟨e_m_2, hI_2⟩ := hI_2
    replace e_m_2 := e_m_2.symm
    subst e_m_2
    refine ⟨fun hq => ?_, fun hq => ?_⟩
    · skip
      exact ⟨rfl, by first | trivial | omega | (refine ⟨?_, ?_⟩ <;> omega)⟩
    · skip
      have t1 := ty_36_1 T_m
      refine CK.mono (ct_71   T_m (rd_rg _ _ _) r_x3_2 (by omega) (by omega)) (by decide) ?_
      rintro m19 v19 r_v19 ⟨e_m19, h_m19⟩
      replace e_m19 := e_m19.symm
      subst e_m19
      refine ⟨fun m_46 => m_46 = m ∧ (True), ?_, ?_⟩
      · skip
        refine ⟨fun hq => ?_, fun hq => ?_⟩
        · skip
          exact ⟨rfl, by first | trivial | omega | (refine ⟨?_, ?_⟩ <;> omega)⟩
        · skip
          try have w2 : wr (x2 - 1) = x2 - 1 := wr_id (by omega) (by omega)
          refine CK.mono (ct_68 7  T_m r_v19 (wr_rg _) (by unfold rg; decide) (by omega) (by omega)) (by decide) ?_
          rintro m37 v37 r_v37 ⟨e_m37, h_m37⟩
          replace e_m37 := e_m37.symm
          subst e_m37
          refine ⟨fun hq => ?_, fun hq => ?_⟩
          · skip
            exact ⟨rfl, by first | trivial | omega | (refine ⟨?_, ?_⟩ <;> omega)⟩
          · skip
            exact ⟨rfl, by first | trivial | omega | (refine ⟨?_, ?_⟩ <;> omega)⟩
      · intro m_46  hR_46
        obtain ⟨e_m_46, hR_46⟩ := hR_46
        replace e_m_46 := e_m_46.symm
        subst e_m_46
        try have w3 : wr (x3_2 + 1) = x3_2 + 1 := wr_id (by omega) (by omega)
        intro z3_46 e_z3_46
        have r_z3_46 : rg z3_46 := by rw [e_z3_46]; exact wr_rg _
        exact ⟨⟨rfl, by first | omega | (refine ⟨?_, ?_⟩ <;> omega) | trivial⟩, by (try dsimp only); omega⟩
