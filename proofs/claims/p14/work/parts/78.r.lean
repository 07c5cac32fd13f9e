-- TippedCratesModel.never(II)I
set_option maxRecDepth 20000 in
theorem ct_252 {m0 m : Mm} {x1 : Int} {x2 : Int}  (g_m : G m0 m) (r_x1 : rg x1) (r_x2 : rg x2) (p0 : MW m0) : CK 6 252 [.ref 284, iv x1, iv x2] m (fun m2 v => G m0 m2 ∧ (True)) := by
  refine br_252 r_x1 r_x2 ?_
  unfold P_252
  refine CK.mono (ct_210   g_m.1 r_x1) (by decide) ?_
  rintro m2 v2 r_v2 ⟨e_m2, h_m2⟩
  replace e_m2 := e_m2.symm
  subst e_m2
  refine ⟨fun m_15 => G m0 m_15 ∧ (True), ?_, ?_⟩
  · skip
    refine ⟨fun hq => ?_, fun hq => ?_⟩
    · skip
      exact ⟨g_m, by first | trivial | omega | (refine ⟨?_, ?_⟩ <;> omega)⟩
    · skip
      refine CK.mono (ct_211   r_x2) (by decide) ?_
      rintro m9 v9 r_v9 ⟨e_m9, h_m9⟩
      replace e_m9 := e_m9.symm
      subst e_m9
      refine ⟨fun hq => ?_, fun hq => ?_⟩
      · skip
        refine CV.mono (ct_249   g_m r_x1 p0 (by omega)) (by decide) ?_
        rintro m19 ⟨g_m19, h_m19⟩
        refine CK.mono (ct_208   g_m19.1 (MW_G p0 g_m19)) (by decide) ?_
        rintro m24 v24 r_v24 ⟨e_m24, h_m24⟩
        replace e_m24 := e_m24.symm
        subst e_m24
        try have w1 : wr ((slI 1 v24) - 1) = (slI 1 v24) - 1 := wr_id (by omega) (by omega)
        intro z3_30 e_z3_30
        have r_z3_30 : rg z3_30 := by rw [e_z3_30]; exact (wr_rg _)
        refine ⟨fun x3_34 x4_34 m_34 => G m0 m_34 ∧ (0 ≤ x4_34 ∧ x4_34 ≤ 600), fun x3_34 x4_34 m_34 => Int.toNat (600 - x4_34), ?_, ?_⟩
        · exact ⟨g_m19, by first | omega | (refine ⟨?_, ?_⟩ <;> omega) | trivial⟩
        · intro x3_34 x4_34 m_34 r_x3_34 r_x4_34 hI_34
          obtain ⟨g_m_34, hI_34⟩ := hI_34
          have t2 := ty_284_67 g_m_34.1
          refine ⟨fun hq => ?_, fun hq => ?_⟩
          · skip
            exact ⟨g_m_34, by first | trivial | omega | (refine ⟨?_, ?_⟩ <;> omega)⟩
          · skip
            refine ⟨⟨by omega, by omega⟩, ?_⟩
            have t3 := ty_329 g_m_34.1 (Int.toNat x4_34)
            refine CK.mono (ct_248   g_m_34.1 r_x1 (rd_rg _ _ _) (by unfold rg; decide) (by omega) (by omega) (by omega)) (by decide) ?_
            rintro m53 v53 r_v53 ⟨e_m53, h_m53⟩
            replace e_m53 := e_m53.symm
            subst e_m53
            refine ⟨fun y3_77 => True, ?_, ?_⟩
            · skip
              refine ⟨fun hq => ?_, fun hq => ?_⟩
              · skip
                (first | trivial | omega | (refine ⟨?_, ?_⟩ <;> omega))
              · skip
                refine ⟨⟨by omega, by omega⟩, ?_⟩
                try have q4 : dvI (rd m_34 329 (Int.toNat x4_34)) 24 = (rd m_34 329 (Int.toNat x4_34)) / 24 := dv_eq (by omega) (by omega) (by omega) (by omega)
                intro z3_76 e_z3_76
                have r_z3_76 : rg z3_76 := by rw [e_z3_76]; exact (io_rg _ _ _)
                (first | trivial | omega | (refine ⟨?_, ?_⟩ <;> omega))
            · intro y3_77 r_y3_77 hR_77
              try have w5 : wr (x4_34 + 1) = x4_34 + 1 := wr_id (by omega) (by omega)
              intro z4_77 e_z4_77
              have r_z4_77 : rg z4_77 := by rw [e_z4_77]; exact wr_rg _
              exact ⟨⟨g_m_34, by first | omega | (refine ⟨?_, ?_⟩ <;> omega) | trivial⟩, by (try dsimp only); omega⟩
      · skip
        exact ⟨g_m, by first | trivial | omega | (refine ⟨?_, ?_⟩ <;> omega)⟩
  · intro m_15  hR_15
    obtain ⟨g_m_15, hR_15⟩ := hR_15
    exact ⟨g_m_15, by first | trivial | omega | (refine ⟨?_, ?_⟩ <;> omega)⟩
-- TippedCratesModel.nearest(III)I
set_option maxRecDepth 20000 in
theorem ct_253 {m0 m : Mm} {x1 : Int} {x2 : Int} {x3 : Int}  (g_m : G m0 m) (r_x1 : rg x1) (r_x2 : rg x2) (r_x3 : rg x3) (p0 : MW m0) : CK 6 253 [.ref 284, iv x1, iv x2, iv x3] m (fun m2 v => G m0 m2 ∧ (True)) := by
  refine br_253 r_x1 r_x2 r_x3 ?_
  unfold P_253
  refine CK.mono (ct_210   g_m.1 r_x1) (by decide) ?_
  rintro m2 v2 r_v2 ⟨e_m2, h_m2⟩
  replace e_m2 := e_m2.symm
  subst e_m2
  refine ⟨fun m_24 => G m0 m_24 ∧ (True), ?_, ?_⟩
  · skip
    refine ⟨fun hq => ?_, fun hq => ?_⟩
    · skip
      exact ⟨g_m, by first | trivial | omega | (refine ⟨?_, ?_⟩ <;> omega)⟩
    · skip
      refine CK.mono (ct_211   r_x2) (by decide) ?_
      rintro m9 v9 r_v9 ⟨e_m9, h_m9⟩
      replace e_m9 := e_m9.symm
      subst e_m9
      refine ⟨fun hq => ?_, fun hq => ?_⟩
      · skip
        exact ⟨g_m, by first | trivial | omega | (refine ⟨?_, ?_⟩ <;> omega)⟩
      · skip
        refine CK.mono (ct_206   r_x3 (by unfold rg; decide) (by unfold rg; decide)) (by decide) ?_
        rintro m18 v18 r_v18 ⟨e_m18, h_m18⟩
        replace e_m18 := e_m18.symm
        subst e_m18
        refine ⟨fun hq => ?_, fun hq => ?_⟩
        · skip
          refine CV.mono (ct_249   g_m r_x1 p0 (by omega)) (by decide) ?_
          rintro m28 ⟨g_m28, h_m28⟩
          refine ⟨fun x4_42 x5_42 x6_42 m_42 => G m0 m_42 ∧ (0 ≤ x6_42 ∧ x6_42 ≤ 600), fun x4_42 x5_42 x6_42 m_42 => Int.toNat (600 - x6_42), ?_, ?_⟩
          · exact ⟨g_m28, by first | omega | (refine ⟨?_, ?_⟩ <;> omega) | trivial⟩
          · intro x4_42 x5_42 x6_42 m_42 r_x4_42 r_x5_42 r_x6_42 hI_42
            obtain ⟨g_m_42, hI_42⟩ := hI_42
            refine CK.mono (ct_247   g_m_42.1 (MW_G p0 g_m_42)) (by decide) ?_
            rintro m45 v45 r_v45 ⟨e_m45, h_m45⟩
            replace e_m45 := e_m45.symm
            subst e_m45
            refine ⟨fun hq => ?_, fun hq => ?_⟩
            · skip
              refine ⟨fun s0_126 => True, ?_, ?_⟩
              · skip
                refine ⟨fun hq => ?_, fun hq => ?_⟩
                · skip
                  (first | trivial | omega | (refine ⟨?_, ?_⟩ <;> omega))
                · skip
                  (first | trivial | omega | (refine ⟨?_, ?_⟩ <;> omega))
              · intro s0_126 r_s0_126 hR_126
                exact ⟨g_m_42, by first | trivial | omega | (refine ⟨?_, ?_⟩ <;> omega)⟩
            · skip
              refine ⟨⟨by omega, by omega⟩, ?_⟩
              refine ⟨fun y4_109 y5_109 m_109 => G m0 m_109 ∧ (True), ?_, ?_⟩
              · skip
                refine ⟨fun hq => ?_, fun hq => ?_⟩
                · skip
                  exact ⟨g_m_42, by first | trivial | omega | (refine ⟨?_, ?_⟩ <;> omega)⟩
                · skip
                  refine CK.mono (ct_248   g_m_42.1 r_x1 r_x6_42 (by unfold rg; decide) (by omega) (by omega) (by omega)) (by decide) ?_
                  rintro m66 v66 r_v66 ⟨e_m66, h_m66⟩
                  replace e_m66 := e_m66.symm
                  subst e_m66
                  refine ⟨fun hq => ?_, fun hq => ?_⟩
                  · skip
                    exact ⟨g_m_42, by first | trivial | omega | (refine ⟨?_, ?_⟩ <;> omega)⟩
                  · skip
                    refine ⟨True, ?_, ?_⟩
                    · skip
                      refine ⟨fun hq => ?_, fun hq => ?_⟩
                      · skip
                        (first | trivial | omega | (refine ⟨?_, ?_⟩ <;> omega))
                      · skip
                        refine ⟨⟨by omega, by omega⟩, ?_⟩
                        refine ⟨fun hq => ?_, fun hq => ?_⟩
                        · skip
                          (first | trivial | omega | (refine ⟨?_, ?_⟩ <;> omega))
                        · skip
                          exact ⟨g_m_42, by first | trivial | omega | (refine ⟨?_, ?_⟩ <;> omega)⟩
                    · intro   hR_93
                      try have q2 : dvI x6_42 24 = x6_42 / 24 := dv_eq (by omega) (by omega) (by omega) (by omega)
                      intro z4_98 e_z4_98
                      have r_z4_98 : rg z4_98 := by rw [e_z4_98]; exact (io_rg _ _ _)
                      refine ⟨⟨by omega, by omega⟩, ?_⟩
                      intro z5_107 e_z5_107
                      have r_z5_107 : rg z5_107 := by rw [e_z5_107]; exact (rd_rg _ _ _)
                      exact ⟨g_m_42, by first | trivial | omega | (refine ⟨?_, ?_⟩ <;> omega)⟩
              · intro y4_109 y5_109 m_109 r_y4_109 r_y5_109 hR_109
                obtain ⟨g_m_109, hR_109⟩ := hR_109
                try have w3 : wr (x6_42 + 1) = x6_42 + 1 := wr_id (by omega) (by omega)
                intro z6_109 e_z6_109
                have r_z6_109 : rg z6_109 := by rw [e_z6_109]; exact wr_rg _
                exact ⟨⟨g_m_109, by first | omega | (refine ⟨?_, ?_⟩ <;> omega) | trivial⟩, by (try dsimp only); omega⟩
        · skip
          exact ⟨g_m, by first | trivial | omega | (refine ⟨?_, ?_⟩ <;> omega)⟩
  · intro m_24  hR_24
    obtain ⟨g_m_24, hR_24⟩ := hR_24
    exact ⟨g_m_24, by first | trivial | omega | (refine ⟨?_, ?_⟩ <;> omega)⟩
-- TippedCratesModel.spots(I)I
set_option maxRecDepth 20000 in
theorem ct_254 {m0 m : Mm} {x1 : Int}  (g_m : G m0 m) (r_x1 : rg x1) (p0 : MW m0) : CK 6 254 [.ref 284, iv x1] m (fun m2 v => G m0 m2 ∧ (True)) := by
  refine br_254 r_x1 ?_
  unfold P_254
  refine CK.mono (ct_210   g_m.1 r_x1) (by decide) ?_
  rintro m2 v2 r_v2 ⟨e_m2, h_m2⟩
  replace e_m2 := e_m2.symm
  subst e_m2
  refine ⟨fun hq => ?_, fun hq => ?_⟩
  · skip
    refine CV.mono (ct_249   g_m r_x1 p0 (by omega)) (by decide) ?_
    rintro m12 ⟨g_m12, h_m12⟩
    have t1 := ty_284_67 g_m12.1
    exact ⟨g_m12, by first | trivial | omega | (refine ⟨?_, ?_⟩ <;> omega)⟩
  · skip
    exact ⟨g_m, by first | trivial | omega | (refine ⟨?_, ?_⟩ <;> omega)⟩
-- TippedCratesModel.turnedRound(I)I
set_option maxRecDepth 20000 in
theorem ct_255 {m : Mm} {x1 : Int}  (T_m : Ty m) (r_x1 : rg x1) (p0 : 0 ≤ x1 ∧ x1 ≤ 2) : CK 1 255 [.ref 284, iv x1] m (fun m2 v => m2 = m ∧ (True)) := by
  refine br_255 r_x1 ?_
  unfold P_255
  try have w1 : wr (43 + x1) = 43 + x1 := wr_id (by omega) (by omega)
  refine ⟨⟨by omega, by omega⟩, ?_⟩
  have t2 := tr_323 T_m (Int.toNat (wr (43 + x1)))
  intro z2_9 e_z2_9
  have r_z2_9 : rg z2_9 := by rw [e_z2_9]; exact (rd_rg _ _ _)
  try have w3 : wr (24 * z2_9) = 24 * z2_9 := wr_id (by omega) (by omega)
  try have w4 : wr ((wr (24 * z2_9)) + 1) = (wr (24 * z2_9)) + 1 := wr_id (by omega) (by omega)
  intro z4_19 e_z4_19
  have r_z4_19 : rg z4_19 := by rw [e_z4_19]; exact (wr_rg _)
  refine ⟨fun x3_21 x4_21 => 0 ≤ x4_21 ∧ x4_21 ≤ 600 ∧ x4_21 ≤ 24 * z2_9 + 24, fun x3_21 x4_21 => Int.toNat (600 - x4_21), ?_, ?_⟩
  · (first | omega | (refine ⟨?_, ?_⟩ <;> omega) | trivial)
  · intro x3_21 x4_21 r_x3_21 r_x4_21 hI_21
    try have w5 : wr ((wr (24 * z2_9)) + 24) = (wr (24 * z2_9)) + 24 := wr_id (by omega) (by omega)
    refine ⟨fun hq => ?_, fun hq => ?_⟩
    · skip
      exact ⟨rfl, by first | trivial | omega | (refine ⟨?_, ?_⟩ <;> omega)⟩
    · skip
      refine ⟨⟨by omega, by omega⟩, ?_⟩
      refine ⟨fun y3_66 => True, ?_, ?_⟩
      · skip
        refine ⟨fun hq => ?_, fun hq => ?_⟩
        · skip
          (first | trivial | omega | (refine ⟨?_, ?_⟩ <;> omega))
        · skip
          refine ⟨True, ?_, ?_⟩
          · skip
            refine ⟨fun hq => ?_, fun hq => ?_⟩
            · skip
              (first | trivial | omega | (refine ⟨?_, ?_⟩ <;> omega))
            · skip
              refine ⟨⟨by omega, by omega⟩, ?_⟩
              refine ⟨fun hq => ?_, fun hq => ?_⟩
              · skip
                (first | trivial | omega | (refine ⟨?_, ?_⟩ <;> omega))
              · skip
                (first | trivial | omega | (refine ⟨?_, ?_⟩ <;> omega))
          · intro   hR_58
            refine ⟨⟨by omega, by omega⟩, ?_⟩
            intro z3_65 e_z3_65
            have r_z3_65 : rg z3_65 := by rw [e_z3_65]; exact (rd_rg _ _ _)
            (first | trivial | omega | (refine ⟨?_, ?_⟩ <;> omega))
      · intro y3_66 r_y3_66 hR_66
        try have w7 : wr (x4_21 + 1) = x4_21 + 1 := wr_id (by omega) (by omega)
        intro z4_66 e_z4_66
        have r_z4_66 : rg z4_66 := by rw [e_z4_66]; exact wr_rg _
        exact ⟨by first | omega | (refine ⟨?_, ?_⟩ <;> omega) | trivial, by (try dsimp only); omega⟩
-- TippedCratesModel.backAgain()I
set_option maxRecDepth 20000 in
theorem ct_256 {m : Mm}   (T_m : Ty m)   : CK 1 256 [.ref 284] m (fun m2 v => m2 = m ∧ (True)) := by
  refine br_256  ?_
  unfold P_256
  refine ⟨fun x1_5 x2_5 => 0 ≤ x2_5 ∧ x2_5 ≤ 2400, fun x1_5 x2_5 => Int.toNat (2400 - x2_5), ?_, ?_⟩
  · (first | omega | (refine ⟨?_, ?_⟩ <;> omega) | trivial)
  · intro x1_5 x2_5 r_x1_5 r_x2_5 hI_5
    have t1 := ty_284_67 T_m
    try have w2 : wr (4 * (rd m 284 67)) = 4 * (rd m 284 67) := wr_id (by omega) (by omega)
    refine ⟨fun hq => ?_, fun hq => ?_⟩
    · skip
      exact ⟨rfl, by first | trivial | omega | (refine ⟨?_, ?_⟩ <;> omega)⟩
    · skip
      try have q3 : dvI x2_5 4 = x2_5 / 4 := dv_eq (by omega) (by omega) (by omega) (by omega)
      refine ⟨⟨by omega, by omega⟩, ?_⟩
      have t4 := ty_329 T_m (Int.toNat (dvI x2_5 4))
      intro z3_23 e_z3_23
      have r_z3_23 : rg z3_23 := by rw [e_z3_23]; exact (rd_rg _ _ _)
      try have w5 : wr (4 * z3_23) = 4 * z3_23 := wr_id (by omega) (by omega)
      try have q6 : rmI x2_5 4 = x2_5 % 4 := rm_eq (by omega) (by omega) (by omega) (by omega)
      try have w7 : wr ((wr (4 * z3_23)) + (rmI x2_5 4)) = (wr (4 * z3_23)) + (rmI x2_5 4) := wr_id (by omega) (by omega)
      refine ⟨⟨by omega, by omega⟩, ?_⟩
      have t8 := ty_325 T_m (Int.toNat (wr ((wr (4 * z3_23)) + (rmI x2_5 4))))
      have t9 := ty_329 T_m 0
      refine ⟨fun y1_70 => True, ?_, ?_⟩
      · skip
        refine ⟨fun hq => ?_, fun hq => ?_⟩
        · skip
          (first | trivial | omega | (refine ⟨?_, ?_⟩ <;> omega))
        · skip
          refine ⟨True, ?_, ?_⟩
          · skip
            refine ⟨fun hq => ?_, fun hq => ?_⟩
            · skip
              (first | trivial | omega | (refine ⟨?_, ?_⟩ <;> omega))
            · skip
              refine ⟨⟨by omega, by omega⟩, ?_⟩
              try have w11 : wr ((rd m 326 (Int.toNat z3_23)) + 1) = (rd m 326 (Int.toNat z3_23)) + 1 := wr_id (by omega) (by omega)
              refine ⟨fun hq => ?_, fun hq => ?_⟩
              · skip
                (first | trivial | omega | (refine ⟨?_, ?_⟩ <;> omega))
              · skip
                (first | trivial | omega | (refine ⟨?_, ?_⟩ <;> omega))
          · intro   hR_61
            refine ⟨⟨by omega, by omega⟩, ?_⟩
            try have w13 : wr ((rd m 326 (Int.toNat z3_23)) + 1) = (rd m 326 (Int.toNat z3_23)) + 1 := wr_id (by omega) (by omega)
            intro z1_69 e_z1_69
            have r_z1_69 : rg z1_69 := by rw [e_z1_69]; exact (wr_rg _)
            (first | trivial | omega | (refine ⟨?_, ?_⟩ <;> omega))
      · intro y1_70 r_y1_70 hR_70
        try have w14 : wr (x2_5 + 1) = x2_5 + 1 := wr_id (by omega) (by omega)
        intro z2_70 e_z2_70
        have r_z2_70 : rg z2_70 := by rw [e_z2_70]; exact wr_rg _
        exact ⟨by first | omega | (refine ⟨?_, ?_⟩ <;> omega) | trivial, by (try dsimp only); omega⟩
-- TippedCratesModel.round(II)I
set_option maxRecDepth 20000 in
theorem ct_257 {m0 m : Mm} {x1 : Int} {x2 : Int}  (g_m : G m0 m) (r_x1 : rg x1) (r_x2 : rg x2) (p0 : MW m0) : CK 6 257 [.ref 284, iv x1, iv x2] m (fun m2 v => G m0 m2 ∧ (True)) := by
  refine br_257 r_x1 r_x2 ?_
  unfold P_257
  refine CK.mono (ct_210   g_m.1 r_x1) (by decide) ?_
  rintro m2 v2 r_v2 ⟨e_m2, h_m2⟩
  replace e_m2 := e_m2.symm
  subst e_m2
  refine ⟨fun m_17 => G m0 m_17 ∧ (True), ?_, ?_⟩
  · skip
    refine ⟨fun hq => ?_, fun hq => ?_⟩
    · skip
      exact ⟨g_m, by first | trivial | omega | (refine ⟨?_, ?_⟩ <;> omega)⟩
    · skip
      refine CK.mono (ct_206   r_x2 (by unfold rg; decide) (by unfold rg; decide)) (by decide) ?_
      rintro m11 v11 r_v11 ⟨e_m11, h_m11⟩
      replace e_m11 := e_m11.symm
      subst e_m11
      refine ⟨fun hq => ?_, fun hq => ?_⟩
      · skip
        refine CV.mono (ct_249   g_m r_x1 p0 (by omega)) (by decide) ?_
        rintro m21 ⟨g_m21, h_m21⟩
        refine ⟨fun s0_40 m_40 => G m0 m_40 ∧ (True), ?_, ?_⟩
        · skip
          refine ⟨fun hq => ?_, fun hq => ?_⟩
          · skip
            refine CK.mono (ct_255   g_m21.1 r_x1 (by omega)) (by decide) ?_
            rintro m37 v37 r_v37 ⟨e_m37, h_m37⟩
            replace e_m37 := e_m37.symm
            subst e_m37
            exact ⟨g_m21, by first | trivial | omega | (refine ⟨?_, ?_⟩ <;> omega)⟩
          · skip
            refine CK.mono (ct_256   g_m21.1) (by decide) ?_
            rintro m29 v29 r_v29 ⟨e_m29, h_m29⟩
            replace e_m29 := e_m29.symm
            subst e_m29
            exact ⟨g_m21, by first | trivial | omega | (refine ⟨?_, ?_⟩ <;> omega)⟩
        · intro s0_40 m_40 r_s0_40 hR_40
          obtain ⟨g_m_40, hR_40⟩ := hR_40
          exact ⟨g_m_40, by first | trivial | omega | (refine ⟨?_, ?_⟩ <;> omega)⟩
      · skip
        exact ⟨g_m, by first | trivial | omega | (refine ⟨?_, ?_⟩ <;> omega)⟩
  · intro m_17  hR_17
    obtain ⟨g_m_17, hR_17⟩ := hR_17
    exact ⟨g_m_17, by first | trivial | omega | (refine ⟨?_, ?_⟩ <;> omega)⟩
-- TippedCratesModel.tops(I)I
set_option maxRecDepth 20000 in
theorem ct_265 {m0 m : Mm} {x1 : Int}  (g_m : G m0 m) (r_x1 : rg x1) (p0 : MW m0) : CK 6 265 [.ref 284, iv x1] m (fun m2 v => G m0 m2 ∧ (True)) := by
  refine br_265 r_x1 ?_
  unfold P_265
  refine CK.mono (ct_210   g_m.1 r_x1) (by decide) ?_
  rintro m2 v2 r_v2 ⟨e_m2, h_m2⟩
  replace e_m2 := e_m2.symm
  subst e_m2
  refine ⟨fun hq => ?_, fun hq => ?_⟩
  · skip
    refine CV.mono (ct_249   g_m r_x1 p0 (by omega)) (by decide) ?_
    rintro m12 ⟨g_m12, h_m12⟩
    refine ⟨fun x2_19 x3_19 m_19 => G m0 m_19 ∧ (0 ≤ x3_19 ∧ x3_19 ≤ 600), fun x2_19 x3_19 m_19 => Int.toNat (600 - x3_19), ?_, ?_⟩
    · exact ⟨g_m12, by first | omega | (refine ⟨?_, ?_⟩ <;> omega) | trivial⟩
    · intro x2_19 x3_19 m_19 r_x2_19 r_x3_19 hI_19
      obtain ⟨g_m_19, hI_19⟩ := hI_19
      have t1 := ty_284_67 g_m_19.1
      refine ⟨fun hq => ?_, fun hq => ?_⟩
      · skip
        exact ⟨g_m_19, by first | trivial | omega | (refine ⟨?_, ?_⟩ <;> omega)⟩
      · skip
        refine ⟨⟨by omega, by omega⟩, ?_⟩
        have t2 := ty_329 g_m_19.1 (Int.toNat x3_19)
        refine CK.mono (ct_248   g_m_19.1 r_x1 (rd_rg _ _ _) (by unfold rg; decide) (by omega) (by omega) (by omega)) (by decide) ?_
        rintro m38 v38 r_v38 ⟨e_m38, h_m38⟩
        replace e_m38 := e_m38.symm
        subst e_m38
        intro z2_43 e_z2_43
        have r_z2_43 : rg z2_43 := by rw [e_z2_43]; exact (io_rg _ _ _)
        try have w3 : wr (x3_19 + 1) = x3_19 + 1 := wr_id (by omega) (by omega)
        intro z3_44 e_z3_44
        have r_z3_44 : rg z3_44 := by rw [e_z3_44]; exact wr_rg _
        exact ⟨⟨g_m_19, by first | omega | (refine ⟨?_, ?_⟩ <;> omega) | trivial⟩, by (try dsimp only); omega⟩
  · skip
    exact ⟨g_m, by first | trivial | omega | (refine ⟨?_, ?_⟩ <;> omega)⟩
-- TippedCratesModel.beside(II)I
set_option maxRecDepth 20000 in
theorem ct_267 {m0 m : Mm} {x1 : Int} {x2 : Int}  (g_m : G m0 m) (r_x1 : rg x1) (r_x2 : rg x2) (p0 : MW m0) : CK 6 267 [.ref 284, iv x1, iv x2] m (fun m2 v => G m0 m2 ∧ (True)) := by
  refine br_267 r_x1 r_x2 ?_
  unfold P_267
  refine CK.mono (ct_210   g_m.1 r_x1) (by decide) ?_
  rintro m2 v2 r_v2 ⟨e_m2, h_m2⟩
  replace e_m2 := e_m2.symm
  subst e_m2
  refine ⟨fun m_21 => G m0 m_21 ∧ (True), ?_, ?_⟩
  · skip
    refine ⟨fun hq => ?_, fun hq => ?_⟩
    · skip
      exact ⟨g_m, by first | trivial | omega | (refine ⟨?_, ?_⟩ <;> omega)⟩
    · skip
      refine CK.mono (ct_210   g_m.1 r_x2) (by decide) ?_
      rintro m10 v10 r_v10 ⟨e_m10, h_m10⟩
      replace e_m10 := e_m10.symm
      subst e_m10
      refine ⟨fun hq => ?_, fun hq => ?_⟩
      · skip
        exact ⟨g_m, by first | trivial | omega | (refine ⟨?_, ?_⟩ <;> omega)⟩
      · skip
        refine ⟨fun hq => ?_, fun hq => ?_⟩
        · skip
          refine CV.mono (ct_249   g_m r_x1 p0 (by omega)) (by decide) ?_
          rintro m25 ⟨g_m25, h_m25⟩
          refine ⟨fun x3_30 m_30 => G m0 m_30 ∧ (0 ≤ x3_30 ∧ x3_30 ≤ 600), fun x3_30 m_30 => Int.toNat (600 - x3_30), ?_, ?_⟩
          · exact ⟨g_m25, by first | omega | (refine ⟨?_, ?_⟩ <;> omega) | trivial⟩
          · intro x3_30 m_30 r_x3_30 hI_30
            obtain ⟨g_m_30, hI_30⟩ := hI_30
            have t1 := ty_284_67 g_m_30.1
            refine ⟨fun hq => ?_, fun hq => ?_⟩
            · skip
              exact ⟨g_m_30, by first | trivial | omega | (refine ⟨?_, ?_⟩ <;> omega)⟩
            · skip
              refine ⟨⟨by omega, by omega⟩, ?_⟩
              try have w2 : wr (43 + x2) = 43 + x2 := wr_id (by omega) (by omega)
              refine ⟨⟨by omega, by omega⟩, ?_⟩
              have t3 := ty_329 g_m_30.1 (Int.toNat x3_30)
              try have q4 : dvI (rd m_30 329 (Int.toNat x3_30)) 24 = (rd m_30 329 (Int.toNat x3_30)) / 24 := dv_eq (by omega) (by omega) (by omega) (by omega)
              have t5 := tr_323 g_m_30.1 (Int.toNat (wr (43 + x2)))
              refine CK.mono (ct_266   g_m_30.1 (io_rg _ _ _) (rd_rg _ _ _) (MW_G p0 g_m_30) (by omega)) (by decide) ?_
              rintro m57 v57 r_v57 ⟨e_m57, h_m57⟩
              replace e_m57 := e_m57.symm
              subst e_m57
              refine ⟨fun hq => ?_, fun hq => ?_⟩
              · skip
                try have w6 : wr (x3_30 + 1) = x3_30 + 1 := wr_id (by omega) (by omega)
                intro z3_75 e_z3_75
                have r_z3_75 : rg z3_75 := by rw [e_z3_75]; exact wr_rg _
                exact ⟨⟨g_m_30, by first | omega | (refine ⟨?_, ?_⟩ <;> omega) | trivial⟩, by (try dsimp only); omega⟩
              · skip
                refine ⟨⟨by omega, by omega⟩, ?_⟩
                refine ⟨⟨by omega, by omega⟩, ?_⟩
                exact ⟨g_m_30, by first | trivial | omega | (refine ⟨?_, ?_⟩ <;> omega)⟩
        · skip
          exact ⟨g_m, by first | trivial | omega | (refine ⟨?_, ?_⟩ <;> omega)⟩
  · intro m_21  hR_21
    obtain ⟨g_m_21, hR_21⟩ := hR_21
    exact ⟨g_m_21, by first | trivial | omega | (refine ⟨?_, ?_⟩ <;> omega)⟩
