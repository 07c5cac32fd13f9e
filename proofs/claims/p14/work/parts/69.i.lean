theorem fl_b {w h x y : Int} (hw : 2 ≤ w ∧ w ≤ 5) (hh : 2 ≤ h ∧ h ≤ 5) (hx : 0 ≤ x ∧ x < w) (hy : 0 ≤ y ∧ y < h) : wr (w * y) = w * y ∧ wr (wr (w * y) + x) = w * y + x ∧ 0 ≤ w * y + x ∧ w * y + x ≤ 24 ∧ w * y + x < w * h := by
  have h1 : w = 2 ∨ w = 3 ∨ w = 4 ∨ w = 5 := by omega
  rcases h1 with rfl | rfl | rfl | rfl
  all_goals
    refine ⟨wr_id (by omega) (by omega), ?_, by omega, by omega, by omega⟩
    rw [wr_id (x := _ * y) (by omega) (by omega)]
    exact wr_id (by omega) (by omega)
theorem an01 {x y : Int} (hx : x = 0 ∨ x = 1) (hy : y = 0 ∨ y = 1) : (anI x y = 1 ∧ x = 1 ∧ y = 1) ∨ (anI x y = 0 ∧ (x = 0 ∨ y = 0)) := by
  rcases hx with rfl | rfl <;> rcases hy with rfl | rfl <;> decide
/-- regions of the plan -/
def sLf (i _j : Nat) : Bool := Nat.beq i 16 || Nat.beq i 17 || Nat.beq i 18
def sPl (i _j : Nat) : Bool := Nat.beq i 16 || Nat.beq i 17 || Nat.beq i 18 || Nat.beq i 7 || Nat.beq i 8 || Nat.beq i 9
theorem in_sLf_sPl (i j : Nat) (h : sLf i j = true) : sPl i j = true := by
  unfold sLf at h
  unfold sPl
  rw [h]
  rfl
theorem GX_fl8 {S : Nat → Nat → Bool} {m0 m : Mm} (h : GX S m0 m) (hs : ∀ j, S 8 j = true := by exact fun _ => rfl) : GX S m0 (flm m 8 25 0) := by
  refine ⟨fun i j => ?_, fun x y e => ?_, h.2.2⟩
  · rw [rd_flm]
    by_cases q : i = 8 ∧ j < 25
    · rw [if_pos q, q.1]; exact (show (0 : Int) ≤ wr 0 ∧ wr 0 ≤ 9 by decide)
    · rw [if_neg q]; exact h.1 i j
  · rw [rd_flm, if_neg (fun q => by rw [q.1, hs] at e; cases e)]
    exact h.2.1 x y e
theorem GX_fl9 {S : Nat → Nat → Bool} {m0 m : Mm} (h : GX S m0 m) (hs : ∀ j, S 9 j = true := by exact fun _ => rfl) : GX S m0 (flm m 9 3 (-1)) := by
  refine ⟨fun i j => ?_, fun x y e => ?_, h.2.2⟩
  · rw [rd_flm]
    by_cases q : i = 9 ∧ j < 3
    · rw [if_pos q, q.1]; exact (show (-1 : Int) ≤ wr (-1) ∧ wr (-1) ≤ 24 by decide)
    · rw [if_neg q]; exact h.1 i j
  · rw [rd_flm, if_neg (fun q => by rw [q.1, hs] at e; cases e)]
    exact h.2.1 x y e
theorem tcl_2 {m : Mm} {a b sp dp n : Nat} (h : Ty m) (ha : isLw a) (hb : isLw b) : Ty (cpm m (b + 2) sp (a + 2) dp n) := h.cp (fun j _ _ => by rw [(tyB_lw ha j).1]; exact ty_lw2 h hb _)
theorem tcl_3 {m : Mm} {a b sp dp n : Nat} (h : Ty m) (ha : isLw a) (hb : isLw b) : Ty (cpm m (b + 3) sp (a + 3) dp n) := h.cp (fun j _ _ => by rw [(tyB_lw ha j).2.1]; exact ty_lw3 h hb _)
-- TippedCrates$Reader.isInYard(II)Z
set_option maxRecDepth 20000 in
theorem ct_52 {m : Mm} {x1 : Int} {x2 : Int}  (T_m : Ty m) (r_x1 : rg x1) (r_x2 : rg x2)  : CK 2 52 [.ref 19, iv x1, iv x2] m (fun m2 v => m2 = m ∧ ((v = 1 ∧ (0 ≤ x1 ∧ x1 ≤ rd m 19 8 - 1 ∧ 0 ≤ x2 ∧ x2 ≤ rd m 19 9 - 1)) ∨ (v = 0 ∧ ¬ (0 ≤ x1 ∧ x1 ≤ rd m 19 8 - 1 ∧ 0 ≤ x2 ∧ x2 ≤ rd m 19 9 - 1)))) := by
  refine br_52 r_x1 r_x2 ?_
  unfold P_52
  have t1 := ty_19_8 T_m
  try have w2 : wr ((rd m 19 8) - 1) = (rd m 19 8) - 1 := wr_id (by omega) (by omega)
  refine CK.mono (ct_166   r_x1 (by unfold rg; decide) (wr_rg _)) (by decide) ?_
  rintro m8 v8 r_v8 ⟨e_m8, h_m8⟩
  replace e_m8 := e_m8.symm
  subst e_m8
  refine ⟨fun s0_33 m_33 => m_33 = m ∧ ((s0_33 = 1 ∧ (0 ≤ x1 ∧ x1 ≤ rd m 19 8 - 1 ∧ 0 ≤ x2 ∧ x2 ≤ rd m 19 9 - 1)) ∨ (s0_33 = 0 ∧ ¬ (0 ≤ x1 ∧ x1 ≤ rd m 19 8 - 1 ∧ 0 ≤ x2 ∧ x2 ≤ rd m 19 9 - 1))), ?_, ?_⟩
  · skip
    refine ⟨fun m_32 => m_32 = m ∧ (¬ (0 ≤ x1 ∧ x1 ≤ rd m 19 8 - 1 ∧ 0 ≤ x2 ∧ x2 ≤ rd m 19 9 - 1)), ?_, ?_⟩
    · skip
      refine ⟨fun hq => ?_, fun hq => ?_⟩
      · skip
        exact ⟨rfl, by first | trivial | omega | (refine ⟨?_, ?_⟩ <;> omega)⟩
      · skip
        have t3 := ty_19_9 T_m
        try have w4 : wr ((rd m 19 9) - 1) = (rd m 19 9) - 1 := wr_id (by omega) (by omega)
        refine CK.mono (ct_166   r_x2 (by unfold rg; decide) (wr_rg _)) (by decide) ?_
        rintro m22 v22 r_v22 ⟨e_m22, h_m22⟩
        replace e_m22 := e_m22.symm
        subst e_m22
        refine ⟨fun hq => ?_, fun hq => ?_⟩
        · skip
          exact ⟨rfl, by first | trivial | omega | (refine ⟨?_, ?_⟩ <;> omega)⟩
        · skip
          exact ⟨rfl, by first | trivial | omega | (refine ⟨?_, ?_⟩ <;> omega)⟩
    · intro m_32  hR_32
      obtain ⟨e_m_32, hR_32⟩ := hR_32
      replace e_m_32 := e_m_32.symm
      subst e_m_32
      exact ⟨rfl, by first | trivial | omega | (refine ⟨?_, ?_⟩ <;> omega)⟩
  · intro s0_33 m_33 r_s0_33 hR_33
    obtain ⟨e_m_33, hR_33⟩ := hR_33
    replace e_m_33 := e_m_33.symm
    subst e_m_33
    exact ⟨by omega, ⟨rfl, by first | trivial | omega | (refine ⟨?_, ?_⟩ <;> omega)⟩⟩
-- TippedCrates$Reader.isPairIn([III)Z
set_option maxRecDepth 20000 in
theorem ct_53 {m : Mm} {b n : Nat} {x2 : Int} {x3 : Int}  (T_m : Ty m) (h_b : isR n b) (r_x2 : rg x2) (r_x3 : rg x3) (p0 : x2 * 2 ≤ n) (p1 : 0 ≤ x3 ∧ x3 ≤ 2) : CK 1 53 [.ref 19, .ref b, iv x2, iv x3] m (fun m2 v => m2 = m ∧ (v = 0 ∨ v = 1)) := by
  refine br_53 h_b r_x2 r_x3 ?_
  unfold P_53
  have hn := h_b.2.1
  refine ⟨fun x4_3 => 0 ≤ x4_3 ∧ x4_3 ≤ 100000, fun x4_3 => Int.toNat (100000 - x4_3), ?_, ?_⟩
  · (first | omega | (refine ⟨?_, ?_⟩ <;> omega) | trivial)
  · intro x4_3 r_x4_3 hI_3
    refine ⟨fun hq => ?_, fun hq => ?_⟩
    · skip
      exact ⟨rfl, by first | trivial | omega | (refine ⟨?_, ?_⟩ <;> omega)⟩
    · skip
      try have w1 : wr (x4_3 * 2) = x4_3 * 2 := wr_id (by omega) (by omega)
      refine ⟨⟨by omega, by omega⟩, ?_⟩
      try have w2 : wr (x3 * 2) = x3 * 2 := wr_id (by omega) (by omega)
      refine ⟨⟨by omega, by omega⟩, ?_⟩
      have t4 := ty_27 T_m (Int.toNat (wr (x3 * 2)))
      refine ⟨True, ?_, ?_⟩
      · skip
        refine ⟨fun hq => ?_, fun hq => ?_⟩
        · skip
          (first | trivial | omega | (refine ⟨?_, ?_⟩ <;> omega))
        · skip
          try have w5 : wr ((wr (x4_3 * 2)) + 1) = (wr (x4_3 * 2)) + 1 := wr_id (by omega) (by omega)
          refine ⟨⟨by omega, by omega⟩, ?_⟩
          try have w6 : wr ((wr (x3 * 2)) + 1) = (wr (x3 * 2)) + 1 := wr_id (by omega) (by omega)
          refine ⟨⟨by omega, by omega⟩, ?_⟩
          have t8 := ty_27 T_m (Int.toNat (wr ((wr (x3 * 2)) + 1)))
          refine ⟨fun hq => ?_, fun hq => ?_⟩
          · skip
            (first | trivial | omega | (refine ⟨?_, ?_⟩ <;> omega))
          · skip
            exact ⟨rfl, by first | trivial | omega | (refine ⟨?_, ?_⟩ <;> omega)⟩
      · intro   hR_49
        try have w9 : wr (x4_3 + 1) = x4_3 + 1 := wr_id (by omega) (by omega)
        intro z4_49 e_z4_49
        have r_z4_49 : rg z4_49 := by rw [e_z4_49]; exact wr_rg _
        exact ⟨by first | omega | (refine ⟨?_, ?_⟩ <;> omega) | trivial, by (try dsimp only); omega⟩
-- TippedCrates$Reader.fitsYard()Z
set_option maxRecDepth 20000 in
theorem ct_51 {m : Mm}   (T_m : Ty m)   : CK 3 51 [.ref 19] m (fun m2 v => m2 = m ∧ ((v = 0 ∨ v = 1) ∧ (v = 1 → (∀ k : Nat, (k : Int) < rd m 19 11 → (0 ≤ rd m 25 (2 * k) ∧ rd m 25 (2 * k) ≤ rd m 19 8 - 1 ∧ 0 ≤ rd m 25 (2 * k + 1) ∧ rd m 25 (2 * k + 1) ≤ rd m 19 9 - 1)) ∧ (∀ k : Nat, (k : Int) < rd m 19 12 → (0 ≤ rd m 26 (3 * k) ∧ rd m 26 (3 * k) ≤ rd m 19 8 - 1 ∧ 0 ≤ rd m 26 (3 * k + 1) ∧ rd m 26 (3 * k + 1) ≤ rd m 19 9 - 1)) ∧ (∀ k : Nat, (k : Int) < rd m 19 13 → (0 ≤ rd m 27 (2 * k) ∧ rd m 27 (2 * k) ≤ rd m 19 8 - 1 ∧ 0 ≤ rd m 27 (2 * k + 1) ∧ rd m 27 (2 * k + 1) ≤ rd m 19 9 - 1))))) := by
  refine br_51  ?_
  unfold P_51
  have u11 := ty_19_11 T_m
  have u12 := ty_19_12 T_m
  have u13 := ty_19_13 T_m
  refine ⟨fun x1_4 x2_4 m_4 => m_4 = m ∧ ((0 ≤ x2_4 ∧ x2_4 ≤ 8) ∧ (x1_4 = 0 ∨ x1_4 = 1) ∧ (x1_4 = 1 → ∀ k : Nat, (k : Int) < x2_4 → (0 ≤ rd m 25 (2 * k) ∧ rd m 25 (2 * k) ≤ rd m 19 8 - 1 ∧ 0 ≤ rd m 25 (2 * k + 1) ∧ rd m 25 (2 * k + 1) ≤ rd m 19 9 - 1))), fun x1_4 x2_4 m_4 => Int.toNat (8 - x2_4), ?_, ?_⟩
  · exact ⟨rfl, by exact ⟨by omega, by omega, fun _ k hk => by omega⟩⟩
  · intro x1_4 x2_4 m_4 r_x1_4 r_x2_4 hI_4
    obtain ⟨e_m_4, hI_4⟩ := hI_4
    replace e_m_4 := e_m_4.symm
    subst e_m_4
    have t1 := ty_19_11 T_m
    refine ⟨fun hq => ?_, fun hq => ?_⟩
    · skip
      refine ⟨fun x1_45 x2_45 m_45 => m_45 = m ∧ ((0 ≤ x2_45 ∧ x2_45 ≤ 10) ∧ (x1_45 = 0 ∨ x1_45 = 1) ∧ (x1_45 = 1 → ∀ k : Nat, (k : Int) < x2_45 → (0 ≤ rd m 26 (3 * k) ∧ rd m 26 (3 * k) ≤ rd m 19 8 - 1 ∧ 0 ≤ rd m 26 (3 * k + 1) ∧ rd m 26 (3 * k + 1) ≤ rd m 19 9 - 1)) ∧ (x1_45 = 1 → x1_4 = 1)), fun x1_45 x2_45 m_45 => Int.toNat (10 - x2_45), ?_, ?_⟩
      · exact ⟨rfl, by exact ⟨by omega, by omega, fun _ k hk => by omega, fun h => h⟩⟩
      · intro x1_45 x2_45 m_45 r_x1_45 r_x2_45 hI_45
        obtain ⟨e_m_45, hI_45⟩ := hI_45
        replace e_m_45 := e_m_45.symm
        subst e_m_45
        have t2 := ty_19_12 T_m
        refine ⟨fun hq => ?_, fun hq => ?_⟩
        · skip
          refine ⟨fun x1_86 x2_86 m_86 => m_86 = m ∧ ((0 ≤ x2_86 ∧ x2_86 ≤ 3) ∧ (x1_86 = 0 ∨ x1_86 = 1) ∧ (x1_86 = 1 → ∀ k : Nat, (k : Int) < x2_86 → (0 ≤ rd m 27 (2 * k) ∧ rd m 27 (2 * k) ≤ rd m 19 8 - 1 ∧ 0 ≤ rd m 27 (2 * k + 1) ∧ rd m 27 (2 * k + 1) ≤ rd m 19 9 - 1)) ∧ (x1_86 = 1 → x1_45 = 1)), fun x1_86 x2_86 m_86 => Int.toNat (3 - x2_86), ?_, ?_⟩
          · exact ⟨rfl, by exact ⟨by omega, by omega, fun _ k hk => by omega, fun h => h⟩⟩
          · intro x1_86 x2_86 m_86 r_x1_86 r_x2_86 hI_86
            obtain ⟨e_m_86, hI_86⟩ := hI_86
            replace e_m_86 := e_m_86.symm
            subst e_m_86
            have t3 := ty_19_13 T_m
            refine ⟨fun hq => ?_, fun hq => ?_⟩
            · skip
              exact ⟨by omega, ⟨rfl, by exact ⟨by omega, fun h => ⟨fun k hk => hI_4.2.2 (by omega) k (by omega), fun k hk => hI_45.2.2.1 (by omega) k (by omega), fun k hk => hI_86.2.2.1 h k (by omega)⟩⟩⟩⟩
            · skip
              try have w4 : wr (x2_86 * 2) = x2_86 * 2 := wr_id (by omega) (by omega)
              refine ⟨⟨by omega, by omega⟩, ?_⟩
              try have w5 : wr ((wr (x2_86 * 2)) + 1) = (wr (x2_86 * 2)) + 1 := wr_id (by omega) (by omega)
              refine ⟨⟨by omega, by omega⟩, ?_⟩
              have t6 := ty_27 T_m (Int.toNat (wr (x2_86 * 2)))
              have t7 := ty_27 T_m (Int.toNat (wr ((wr (x2_86 * 2)) + 1)))
              refine CK.mono (ct_52   T_m (rd_rg _ _ _) (rd_rg _ _ _)) (by decide) ?_
              rintro m114 v114 r_v114 ⟨e_m114, h_m114⟩
              replace e_m114 := e_m114.symm
              subst e_m114
              intro z1_118 e_z1_118
              have r_z1_118 : rg z1_118 := by rw [e_z1_118]; exact (io_rg _ _ _)
              have an1 := an01 (x := x1_86) (y := v114) (by omega) (by omega)
              rw [← e_z1_118] at an1
              refine CK.mono (ct_53   T_m ir_25 (rd_rg _ _ _) r_x2_86 (by omega) (by omega)) (by decide) ?_
              rintro m130 v130 r_v130 ⟨e_m130, h_m130⟩
              replace e_m130 := e_m130.symm
              subst e_m130
              refine ⟨fun s1_154 m_154 => m_154 = m ∧ ((s1_154 = 0 ∨ s1_154 = 1)), ?_, ?_⟩
              · skip
                refine ⟨fun m_153 => m_153 = m ∧ (True), ?_, ?_⟩
                · skip
                  refine ⟨fun hq => ?_, fun hq => ?_⟩
                  · skip
                    exact ⟨rfl, by first | trivial | omega | (refine ⟨?_, ?_⟩ <;> omega)⟩
                  · skip
                    refine CK.mono (ct_53   T_m ir_27 r_x2_86 r_x2_86 (by omega) (by omega)) (by decide) ?_
                    rintro m143 v143 r_v143 ⟨e_m143, h_m143⟩
                    replace e_m143 := e_m143.symm
                    subst e_m143
                    refine ⟨fun hq => ?_, fun hq => ?_⟩
                    · skip
                      exact ⟨rfl, by first | trivial | omega | (refine ⟨?_, ?_⟩ <;> omega)⟩
                    · skip
                      exact ⟨rfl, by first | trivial | omega | (refine ⟨?_, ?_⟩ <;> omega)⟩
                · intro m_153  hR_153
                  obtain ⟨e_m_153, hR_153⟩ := hR_153
                  replace e_m_153 := e_m_153.symm
                  subst e_m_153
                  exact ⟨rfl, by first | trivial | omega | (refine ⟨?_, ?_⟩ <;> omega)⟩
              · intro s1_154 m_154 r_s1_154 hR_154
                obtain ⟨e_m_154, hR_154⟩ := hR_154
                replace e_m_154 := e_m_154.symm
                subst e_m_154
                intro z1_155 e_z1_155
                have r_z1_155 : rg z1_155 := by rw [e_z1_155]; exact (io_rg _ _ _)
                try have w8 : wr (x2_86 + 1) = x2_86 + 1 := wr_id (by omega) (by omega)
                intro z2_156 e_z2_156
                have r_z2_156 : rg z2_156 := by rw [e_z2_156]; exact wr_rg _
                have an6 := an01 (x := z1_118) (y := s1_154) (by omega) (by omega)
                rw [← e_z1_155] at an6
                have k86 : z1_155 = 1 → ∀ k : Nat, (k : Int) < x2_86 + 1 → (0 ≤ rd m 27 (2 * k) ∧ rd m 27 (2 * k) ≤ rd m 19 8 - 1 ∧ 0 ≤ rd m 27 (2 * k + 1) ∧ rd m 27 (2 * k + 1) ≤ rd m 19 9 - 1) := by
                  intro h1 k hk
                  by_cases e : (k : Int) < x2_86
                  · exact hI_86.2.2.1 (by omega) k e
                  · have e1 : rd m 27 (2 * k) = rd m 27 (Int.toNat (wr (x2_86 * 2))) := congrArg (rd m 27) (by omega)
                    have e2 : rd m 27 (2 * k + 1) = rd m 27 (Int.toNat (wr ((wr (x2_86 * 2)) + 1))) := congrArg (rd m 27) (by omega)
                    rw [e1, e2]
                    omega
                exact ⟨⟨rfl, by exact ⟨by omega, by omega, fun h k hk => k86 h k (by omega), fun h => hI_86.2.2.2 (by omega)⟩⟩, by (try dsimp only); omega⟩
        · skip
          try have w9 : wr (x2_45 * 3) = x2_45 * 3 := wr_id (by omega) (by omega)
          refine ⟨⟨by omega, by omega⟩, ?_⟩
          try have w10 : wr ((wr (x2_45 * 3)) + 1) = (wr (x2_45 * 3)) + 1 := wr_id (by omega) (by omega)
          refine ⟨⟨by omega, by omega⟩, ?_⟩
          have t11 := ty_26 T_m (Int.toNat (wr (x2_45 * 3)))
          have t12 := ty_26 T_m (Int.toNat (wr ((wr (x2_45 * 3)) + 1)))
          refine CK.mono (ct_52   T_m (rd_rg _ _ _) (rd_rg _ _ _)) (by decide) ?_
          rintro m73 v73 r_v73 ⟨e_m73, h_m73⟩
          replace e_m73 := e_m73.symm
          subst e_m73
          intro z1_77 e_z1_77
          have r_z1_77 : rg z1_77 := by rw [e_z1_77]; exact (io_rg _ _ _)
          try have w13 : wr (x2_45 + 1) = x2_45 + 1 := wr_id (by omega) (by omega)
          intro z2_78 e_z2_78
          have r_z2_78 : rg z2_78 := by rw [e_z2_78]; exact wr_rg _
          have an5 := an01 (x := x1_45) (y := v73) (by omega) (by omega)
          rw [← e_z1_77] at an5
          have k45 : z1_77 = 1 → ∀ k : Nat, (k : Int) < x2_45 + 1 → (0 ≤ rd m 26 (3 * k) ∧ rd m 26 (3 * k) ≤ rd m 19 8 - 1 ∧ 0 ≤ rd m 26 (3 * k + 1) ∧ rd m 26 (3 * k + 1) ≤ rd m 19 9 - 1) := by
            intro h1 k hk
            by_cases e : (k : Int) < x2_45
            · exact hI_45.2.2.1 (by omega) k e
            · have e1 : rd m 26 (3 * k) = rd m 26 (Int.toNat (wr (x2_45 * 3))) := congrArg (rd m 26) (by omega)
              have e2 : rd m 26 (3 * k + 1) = rd m 26 (Int.toNat (wr ((wr (x2_45 * 3)) + 1))) := congrArg (rd m 26) (by omega)
              rw [e1, e2]
              omega
          exact ⟨⟨rfl, by exact ⟨by omega, by omega, fun h k hk => k45 h k (by omega), fun h => hI_45.2.2.2 (by omega)⟩⟩, by (try dsimp only); omega⟩
    · skip
      try have w14 : wr (x2_4 * 2) = x2_4 * 2 := wr_id (by omega) (by omega)
      refine ⟨⟨by omega, by omega⟩, ?_⟩
      try have w15 : wr ((wr (x2_4 * 2)) + 1) = (wr (x2_4 * 2)) + 1 := wr_id (by omega) (by omega)
      refine ⟨⟨by omega, by omega⟩, ?_⟩
      have t16 := ty_25 T_m (Int.toNat (wr (x2_4 * 2)))
      have t17 := ty_25 T_m (Int.toNat (wr ((wr (x2_4 * 2)) + 1)))
      refine CK.mono (ct_52   T_m (rd_rg _ _ _) (rd_rg _ _ _)) (by decide) ?_
      rintro m32 v32 r_v32 ⟨e_m32, h_m32⟩
      replace e_m32 := e_m32.symm
      subst e_m32
      intro z1_36 e_z1_36
      have r_z1_36 : rg z1_36 := by rw [e_z1_36]; exact (io_rg _ _ _)
      try have w18 : wr (x2_4 + 1) = x2_4 + 1 := wr_id (by omega) (by omega)
      intro z2_37 e_z2_37
      have r_z2_37 : rg z2_37 := by rw [e_z2_37]; exact wr_rg _
      have an4 := an01 (x := x1_4) (y := v32) (by omega) (by omega)
      rw [← e_z1_36] at an4
      have k4 : z1_36 = 1 → ∀ k : Nat, (k : Int) < x2_4 + 1 → (0 ≤ rd m 25 (2 * k) ∧ rd m 25 (2 * k) ≤ rd m 19 8 - 1 ∧ 0 ≤ rd m 25 (2 * k + 1) ∧ rd m 25 (2 * k + 1) ≤ rd m 19 9 - 1) := by
        intro h1 k hk
        by_cases e : (k : Int) < x2_4
        · exact hI_4.2.2 (by omega) k e
        · have e1 : rd m 25 (2 * k) = rd m 25 (Int.toNat (wr (x2_4 * 2))) := congrArg (rd m 25) (by omega)
          have e2 : rd m 25 (2 * k + 1) = rd m 25 (Int.toNat (wr ((wr (x2_4 * 2)) + 1))) := congrArg (rd m 25) (by omega)
          rw [e1, e2]
          omega
      exact ⟨⟨rfl, by exact ⟨by omega, by omega, fun h k hk => k4 h k (by omega)⟩⟩, by (try dsimp only); omega⟩
-- TippedCrates$Plan.layFlag(II)V
set_option maxRecDepth 20000 in
theorem ct_28 {m : Mm} {x1 : Int} {x2 : Int}  (T_m : Ty m) (r_x1 : rg x1) (r_x2 : rg x2) (p0 : 0 ≤ x1 ∧ x1 < rd m 7 0) (p1 : 0 ≤ x2 ∧ x2 < rd m 7 1) : CV 2 28 [.ref 7, iv x1, iv x2] m (fun m2 => GX sLf m m2 ∧ (True)) := by
  refine br_28 r_x1 r_x2 ?_
  unfold P_28
  have g_m : GX sLf m m := ⟨T_m, fun _ _ _ => rfl, fun _ _ => rfl⟩
  have tw := ty_7_0 T_m
  have th := ty_7_1 T_m
  have fb := fl_b tw th p0 p1
  have wb := wh_b tw th
  refine CK.mono (ct_29   T_m r_x1 r_x2 (by omega) (by omega)) (by decide) ?_
  rintro m3 v3 r_v3 ⟨e_m3, h_m3⟩
  replace e_m3 := e_m3.symm
  subst e_m3
  refine ⟨⟨by omega, by omega⟩, ?_⟩
  intro m13 e_m13
  have g_m13 : GX sLf m m13 := by rw [e_m13]; exact GX.wt g_m (tw_16 T_m (by first | assumption | omega)) (Eq.refl true)
  refine ⟨⟨by omega, by omega⟩, ?_⟩
  intro m20 e_m20
  have g_m20 : GX sLf m m20 := by rw [e_m20]; exact GX.wt g_m13 (tw_17 g_m13.1 (by first | assumption | omega)) (Eq.refl true)
  refine ⟨fun x4_24 m_24 => GX sLf m m_24 ∧ (0 ≤ x4_24 ∧ x4_24 ≤ 4), fun x4_24 m_24 => Int.toNat (4 - x4_24), ?_, ?_⟩
  · exact ⟨g_m20, by first | omega | (refine ⟨?_, ?_⟩ <;> omega) | trivial⟩
  · intro x4_24 m_24 r_x4_24 hI_24
    obtain ⟨g_m_24, hI_24⟩ := hI_24
    have c0 : rd m_24 7 0 = rd m 7 0 := g_m_24.2.1 7 0 rfl
    have c1 : rd m_24 7 1 = rd m 7 1 := g_m_24.2.1 7 1 rfl
    refine ⟨fun hq => ?_, fun hq => ?_⟩
    · skip
      exact ⟨g_m_24, by first | trivial | omega | (refine ⟨?_, ?_⟩ <;> omega)⟩
    · skip
      refine ⟨⟨by omega, by omega⟩, ?_⟩
      have sxf1 := sx_2 (j := x4_24) ⟨by omega, by omega⟩
      try have w2 : wr (x1 + (sx 2 x4_24)) = x1 + (sx 2 x4_24) := wr_id (by omega) (by omega)
      intro z5_38 e_z5_38
      have r_z5_38 : rg z5_38 := by rw [e_z5_38]; exact (wr_rg _)
      refine ⟨⟨by omega, by omega⟩, ?_⟩
      have sxf3 := sx_3 (j := x4_24) ⟨by omega, by omega⟩
      try have w4 : wr (x2 + (sx 3 x4_24)) = x2 + (sx 3 x4_24) := wr_id (by omega) (by omega)
      intro z6_48 e_z6_48
      have r_z6_48 : rg z6_48 := by rw [e_z6_48]; exact (wr_rg _)
      have t5 := ty_7_0 g_m_24.1
      try have w6 : wr ((rd m_24 7 0) - 1) = (rd m_24 7 0) - 1 := wr_id (by omega) (by omega)
      refine CK.mono (ct_166   r_z5_38 (by unfold rg; decide) (wr_rg _)) (by decide) ?_
      rintro m59 v59 r_v59 ⟨e_m59, h_m59⟩
      replace e_m59 := e_m59.symm
      subst e_m59
      refine ⟨fun s0_85 m_85 => GX sLf m m_85 ∧ ((s0_85 = 0 ∨ s0_85 = 1) ∧ (s0_85 = 1 → 0 ≤ z5_38 ∧ z5_38 < rd m 7 0 ∧ 0 ≤ z6_48 ∧ z6_48 < rd m 7 1) ∧ rd m_85 7 0 = rd m 7 0), ?_, ?_⟩
      · skip
        refine ⟨fun m_84 => GX sLf m m_84 ∧ (rd m_84 7 0 = rd m 7 0), ?_, ?_⟩
        · skip
          refine ⟨fun hq => ?_, fun hq => ?_⟩
          · skip
            exact ⟨g_m_24, by first | trivial | omega | (refine ⟨?_, ?_⟩ <;> omega)⟩
          · skip
            have t7 := ty_7_1 g_m_24.1
            try have w8 : wr ((rd m_24 7 1) - 1) = (rd m_24 7 1) - 1 := wr_id (by omega) (by omega)
            refine CK.mono (ct_166   r_z6_48 (by unfold rg; decide) (wr_rg _)) (by decide) ?_
            rintro m74 v74 r_v74 ⟨e_m74, h_m74⟩
            replace e_m74 := e_m74.symm
            subst e_m74
            refine ⟨fun hq => ?_, fun hq => ?_⟩
            · skip
              exact ⟨g_m_24, by first | trivial | omega | (refine ⟨?_, ?_⟩ <;> omega)⟩
            · skip
              exact ⟨g_m_24, by first | trivial | omega | (refine ⟨?_, ?_⟩ <;> omega)⟩
        · intro m_84  hR_84
          obtain ⟨g_m_84, hR_84⟩ := hR_84
          exact ⟨g_m_84, by first | trivial | omega | (refine ⟨?_, ?_⟩ <;> omega)⟩
      · intro s0_85 m_85 r_s0_85 hR_85
        obtain ⟨g_m_85, hR_85⟩ := hR_85
        refine ⟨fun s2_114 m_114 => GX sLf m m_114 ∧ (-1 ≤ s2_114 ∧ s2_114 ≤ 24), ?_, ?_⟩
        · skip
          refine ⟨fun hq => ?_, fun hq => ?_⟩
          · skip
            exact ⟨g_m_85, by first | trivial | omega | (refine ⟨?_, ?_⟩ <;> omega)⟩
          · skip
            refine CK.mono (ct_29   g_m_85.1 r_z5_38 r_z6_48 (by omega) (by omega)) (by decide) ?_
            rintro m107 v107 r_v107 ⟨e_m107, h_m107⟩
            replace e_m107 := e_m107.symm
            subst e_m107
            have fb2 := fl_b tw th (x := z5_38) (y := z6_48) (by omega) (by omega)
            rw [hR_85.2.2] at h_m107
            exact ⟨g_m_85, by first | trivial | omega | (refine ⟨?_, ?_⟩ <;> omega)⟩
        · intro s2_114 m_114 r_s2_114 hR_114
          obtain ⟨g_m_114, hR_114⟩ := hR_114
          try have w9 : wr (v3 * 4) = v3 * 4 := wr_id (by omega) (by omega)
          try have w10 : wr ((wr (v3 * 4)) + x4_24) = (wr (v3 * 4)) + x4_24 := wr_id (by omega) (by omega)
          refine ⟨⟨by omega, by omega⟩, ?_⟩
          intro m114 e_m114
          have g_m114 : GX sLf m m114 := by rw [e_m114]; exact GX.wt g_m_114 (tw_18 g_m_114.1 ⟨by omega, by omega⟩) (Eq.refl true)
          try have w11 : wr (x4_24 + 1) = x4_24 + 1 := wr_id (by omega) (by omega)
          intro z4_115 e_z4_115
          have r_z4_115 : rg z4_115 := by rw [e_z4_115]; exact wr_rg _
          exact ⟨⟨g_m114, by first | omega | (refine ⟨?_, ?_⟩ <;> omega) | trivial⟩, by (try dsimp only); omega⟩
-- TippedCrates$Plan.layOut(II)V
set_option maxRecDepth 20000 in
theorem ct_27 {m : Mm} {x1 : Int} {x2 : Int}  (T_m : Ty m) (r_x1 : rg x1) (r_x2 : rg x2) (p0 : 2 ≤ x1 ∧ x1 ≤ 5) (p1 : 2 ≤ x2 ∧ x2 ≤ 5) : CV 3 27 [.ref 7, iv x1, iv x2] m (fun m2 => GX sPl m m2 ∧ (rd m2 7 0 = x1 ∧ rd m2 7 1 = x2)) := by
  refine br_27 r_x1 r_x2 ?_
  unfold P_27
  have g_m : GX sPl m m := ⟨T_m, fun _ _ _ => rfl, fun _ _ => rfl⟩
  intro m2 e_m2
  have g_m2 : GX sPl m m2 := by rw [e_m2]; exact GX.wt g_m (tw_7_0 T_m ⟨by omega, by omega⟩) (Eq.refl true)
  intro m7 e_m7
  have g_m7 : GX sPl m m7 := by rw [e_m7]; exact GX.wt g_m2 (tw_7_1 g_m2.1 ⟨by omega, by omega⟩) (Eq.refl true)
  intro m12 e_m12
  have g_m12 : GX sPl m m12 := by rw [e_m12]; exact GX.wt g_m7 (tw_7_3 g_m7.1 ⟨by omega, by omega⟩) (Eq.refl true)
  intro m17 e_m17
  have g_m17 : GX sPl m m17 := by rw [e_m17]; exact GX.wt g_m12 (tw_7_4 g_m12.1 (by first | assumption | omega)) (Eq.refl true)
  refine CV.mono (ct_299   ir_8 (by unfold rg; decide)) (by decide) ?_
  rintro m25 ⟨hx_m25, h_m25⟩
  have g_m25 : GX sPl m m25 := by rw [hx_m25]; exact GX_fl8 g_m17
  refine CV.mono (ct_299   ir_9 (by unfold rg; decide)) (by decide) ?_
  rintro m33 ⟨hx_m33, h_m33⟩
  have g_m33 : GX sPl m m33 := by rw [hx_m33]; exact GX_fl9 g_m25
  have d0 : rd m33 7 0 = x1 := by rw [hx_m33, rd_flm, if_neg (by omega), hx_m25, rd_flm, if_neg (by omega), e_m17, rd_wt, if_neg (by omega), e_m12, rd_wt, if_neg (by omega), e_m7, rd_wt, if_neg (by omega), e_m2, rd_wt, if_pos ⟨rfl, rfl⟩, wr_i r_x1]
  have d1 : rd m33 7 1 = x2 := by rw [hx_m33, rd_flm, if_neg (by omega), hx_m25, rd_flm, if_neg (by omega), e_m17, rd_wt, if_neg (by omega), e_m12, rd_wt, if_neg (by omega), e_m7, rd_wt, if_pos ⟨rfl, rfl⟩, wr_i r_x2]
  refine ⟨fun x3_38 m_38 => GX sPl m m_38 ∧ ((0 ≤ x3_38 ∧ x3_38 ≤ 5) ∧ rd m_38 7 0 = x1 ∧ rd m_38 7 1 = x2), fun x3_38 m_38 => Int.toNat (5 - x3_38), ?_, ?_⟩
  · exact ⟨g_m33, by first | omega | (refine ⟨?_, ?_⟩ <;> omega) | trivial⟩
  · intro x3_38 m_38 r_x3_38 hI_38
    obtain ⟨g_m_38, hI_38⟩ := hI_38
    have t1 := ty_7_1 g_m_38.1
    refine ⟨fun hq => ?_, fun hq => ?_⟩
    · skip
      exact ⟨g_m_38, by first | trivial | omega | (refine ⟨?_, ?_⟩ <;> omega)⟩
    · skip
      refine ⟨fun x4_49 m_49 => GX sPl m m_49 ∧ ((0 ≤ x4_49 ∧ x4_49 ≤ 5) ∧ rd m_49 7 0 = x1 ∧ rd m_49 7 1 = x2), fun x4_49 m_49 => Int.toNat (5 - x4_49), ?_, ?_⟩
      · exact ⟨g_m_38, by first | omega | (refine ⟨?_, ?_⟩ <;> omega) | trivial⟩
      · intro x4_49 m_49 r_x4_49 hI_49
        obtain ⟨g_m_49, hI_49⟩ := hI_49
        have t2 := ty_7_0 g_m_49.1
        refine ⟨fun hq => ?_, fun hq => ?_⟩
        · skip
          try have w3 : wr (x3_38 + 1) = x3_38 + 1 := wr_id (by omega) (by omega)
          intro z3_71 e_z3_71
          have r_z3_71 : rg z3_71 := by rw [e_z3_71]; exact wr_rg _
          exact ⟨⟨g_m_49, by first | omega | (refine ⟨?_, ?_⟩ <;> omega) | trivial⟩, by (try dsimp only); omega⟩
        · skip
          refine CV.mono (ct_28   g_m_49.1 r_x4_49 r_x3_38 (by omega) (by omega)) (by decide) ?_
          rintro m62 ⟨hx_m62, h_m62⟩
          have g_m62 : GX sPl m m62 := gx_in g_m_49 hx_m62 in_sLf_sPl
          have c0 : rd m62 7 0 = rd m_49 7 0 := hx_m62.2.1 7 0 rfl
          have c1 : rd m62 7 1 = rd m_49 7 1 := hx_m62.2.1 7 1 rfl
          try have w4 : wr (x4_49 + 1) = x4_49 + 1 := wr_id (by omega) (by omega)
          intro z4_65 e_z4_65
          have r_z4_65 : rg z4_65 := by rw [e_z4_65]; exact wr_rg _
          exact ⟨⟨g_m62, by first | omega | (refine ⟨?_, ?_⟩ <;> omega) | trivial⟩, by (try dsimp only); omega⟩
-- TippedCrates$Laws.copyOf(LTippedCrates$Laws;)V
set_option maxRecDepth 20000 in
theorem ct_17 {m : Mm} {a : Nat} {b : Nat}  (T_m : Ty m) (h_a : isLw a) (h_b : isLw b) (p0 : a = 11 ∧ b = 20) : CV 1 17 [.ref a, .ref b] m (fun m2 => GX (sL a) m m2 ∧ (lwOk m b → lwOk m2 a)) := by
  refine br_17 h_a h_b ?_
  unfold P_17
  have g_m : GX (sL a) m m := ⟨T_m, fun _ _ _ => rfl, fun _ _ => rfl⟩
  have ts := ty_lw4 T_m h_b
  have ha2 := p0.1
  have hb2 := p0.2
  refine ⟨⟨by omega, by omega, by omega, by omega, by omega⟩, ?_⟩
  intro m14 e_m14
  have g_m14 : GX (sL a) m m14 := by rw [e_m14]; exact GX.cp g_m (tcl_2 T_m h_a h_b) (fun _ => sL_w (by omega))
  intro m28 e_m28
  have g_m28 : GX (sL a) m m28 := by rw [e_m28]; exact GX.cp g_m14 (tcl_3 g_m14.1 h_a h_b) (fun _ => sL_w (by omega))
  have s28 : rd m28 b 4 = rd m b 4 := by rw [e_m28, rd_cpm, if_neg (by omega), e_m14, rd_cpm, if_neg (by omega)]
  intro m36 e_m36
  have g_m36 : GX (sL a) m m36 := by rw [e_m36]; exact GX.wt g_m28 (tw_lw4 g_m28.1 h_a ⟨by omega, by omega⟩) sL_4
  exact ⟨g_m36, by exact fun hl j hj hm => (by
      have e4 : rd m36 a 4 = rd m b 4 := by rw [e_m36, rd_wt, if_pos ⟨rfl, rfl⟩, wr_i (rd_rg _ _ _), s28]
      have e2 : rd m36 (a + 2) j = rd m (b + 2) j := by rw [e_m36, rd_wt, if_neg (by omega), e_m28, rd_cpm, if_neg (by omega), e_m14, rd_cpm, if_pos (by omega)]; rfl
      rw [e2] at hm ⊢
      exact hl j (by omega) hm)⟩
