/-! searches of the model -/
theorem an3 (a : Int) : 0 ≤ anI a 3 ∧ anI a 3 ≤ 3 := by
  have e : anI a 3 = ((Int32.ofInt a).toBitVec &&& 3#32).toInt := rfl
  have h1 : ((Int32.ofInt a).toBitVec &&& 3#32).toNat ≤ 3 := by
    rw [BitVec.toNat_and]
    exact Nat.and_le_right
  rw [e, BitVec.toInt_eq_toNat_of_lt (by omega)]
  omega
-- TippedCratesModel.spell(III)I
set_option maxRecDepth 20000 in
theorem ct_262 {m0 m : Mm} {x1 : Int} {x2 : Int} {x3 : Int}  (g_m : G m0 m) (r_x1 : rg x1) (r_x2 : rg x2) (r_x3 : rg x3) (p0 : MW m0) : CK 5 262 [.ref 284, iv x1, iv x2, iv x3] m (fun m2 v => G m0 m2 ∧ (True)) := by
  refine br_262 r_x1 r_x2 r_x3 ?_
  unfold P_262
  refine CK.mono (ct_210   g_m.1 r_x1) (by decide) ?_
  rintro m2 v2 r_v2 ⟨e_m2, h_m2⟩
  replace e_m2 := e_m2.symm
  subst e_m2
  refine ⟨fun m_22 => G m0 m_22 ∧ (True), ?_, ?_⟩
  · skip
    refine ⟨fun hq => ?_, fun hq => ?_⟩
    · skip
      exact ⟨g_m, by first | trivial | omega | (refine ⟨?_, ?_⟩ <;> omega)⟩
    · skip
      refine CK.mono (ct_206   r_x3 (by unfold rg; decide) (by unfold rg; decide)) (by decide) ?_
      rintro m12 v12 r_v12 ⟨e_m12, h_m12⟩
      replace e_m12 := e_m12.symm
      subst e_m12
      refine ⟨fun hq => ?_, fun hq => ?_⟩
      · skip
        exact ⟨g_m, by first | trivial | omega | (refine ⟨?_, ?_⟩ <;> omega)⟩
      · skip
        refine ⟨fun hq => ?_, fun hq => ?_⟩
        · skip
          refine CV.mono (ct_246   g_m r_x1 p0 (by omega)) (by decide) ?_
          rintro m26 ⟨g_m26, h_m26⟩
          refine ⟨fun x4_32 m_32 => G m0 m_32 ∧ (0 ≤ x4_32 ∧ x4_32 ≤ 600), fun x4_32 m_32 => Int.toNat (600 - x4_32), ?_, ?_⟩
          · exact ⟨g_m26, by first | omega | (refine ⟨?_, ?_⟩ <;> omega) | trivial⟩
          · intro x4_32 m_32 r_x4_32 hI_32
            obtain ⟨g_m_32, hI_32⟩ := hI_32
            refine ⟨fun hq => ?_, fun hq => ?_⟩
            · skip
              refine ⟨fun x4_60 x5_60 m_60 => G m0 m_60 ∧ (0 ≤ x5_60 ∧ x5_60 ≤ 6), fun x4_60 x5_60 m_60 => Int.toNat (6 - x5_60), ?_, ?_⟩
              · exact ⟨g_m_32, by first | omega | (refine ⟨?_, ?_⟩ <;> omega) | trivial⟩
              · intro x4_60 x5_60 m_60 r_x4_60 r_x5_60 hI_60
                obtain ⟨g_m_60, hI_60⟩ := hI_60
                refine ⟨fun hq => ?_, fun hq => ?_⟩
                · skip
                  refine ⟨fun s0_202 => True, ?_, ?_⟩
                  · skip
                    refine ⟨fun hq => ?_, fun hq => ?_⟩
                    · skip
                      try have w1 : wr (43 + x1) = 43 + x1 := wr_id (by omega) (by omega)
                      refine ⟨⟨by omega, by omega⟩, ?_⟩
                      have t2 := tr_323 g_m_60.1 (Int.toNat (wr (43 + x1)))
                      try have w3 : wr (24 * (rd m_60 323 (Int.toNat (wr (43 + x1))))) = 24 * (rd m_60 323 (Int.toNat (wr (43 + x1)))) := wr_id (by omega) (by omega)
                      refine ⟨⟨by omega, by omega⟩, ?_⟩
                      (first | trivial | omega | (refine ⟨?_, ?_⟩ <;> omega))
                    · skip
                      (first | trivial | omega | (refine ⟨?_, ?_⟩ <;> omega))
                  · intro s0_202 r_s0_202 hR_202
                    exact ⟨g_m_60, by first | trivial | omega | (refine ⟨?_, ?_⟩ <;> omega)⟩
                · skip
                  refine ⟨fun x6_69 m_69 => G m0 m_69 ∧ (0 ≤ x6_69 ∧ x6_69 ≤ 600), fun x6_69 m_69 => Int.toNat (600 - x6_69), ?_, ?_⟩
                  · exact ⟨g_m_60, by first | omega | (refine ⟨?_, ?_⟩ <;> omega) | trivial⟩
                  · intro x6_69 m_69 r_x6_69 hI_69
                    obtain ⟨g_m_69, hI_69⟩ := hI_69
                    refine CK.mono (ct_247   g_m_69.1 (MW_G p0 g_m_69)) (by decide) ?_
                    rintro m72 v72 r_v72 ⟨e_m72, h_m72⟩
                    replace e_m72 := e_m72.symm
                    subst e_m72
                    refine ⟨fun hq => ?_, fun hq => ?_⟩
                    · skip
                      refine CV.mono (ct_258   g_m_69 p0) (by decide) ?_
                      rintro m160 ⟨g_m160, h_m160⟩
                      try have q5 : dvI x4_60 10 = x4_60 / 10 := dv_eq (by omega) (by omega) (by omega) (by omega)
                      intro z4_168 e_z4_168
                      have r_z4_168 : rg z4_168 := by rw [e_z4_168]; exact (io_rg _ _ _)
                      try have w6 : wr (x5_60 + 1) = x5_60 + 1 := wr_id (by omega) (by omega)
                      intro z5_170 e_z5_170
                      have r_z5_170 : rg z5_170 := by rw [e_z5_170]; exact wr_rg _
                      exact ⟨⟨g_m160, by first | omega | (refine ⟨?_, ?_⟩ <;> omega) | trivial⟩, by (try dsimp only); omega⟩
                    · skip
                      refine ⟨⟨by omega, by omega⟩, ?_⟩
                      intro m85 e_m85
                      have g_m85 : G m0 m85 := by rw [e_m85]; exact GX.wt g_m_69 (tw_333 g_m_69.1 (by first | assumption | omega)) (Eq.refl true)
                      refine ⟨fun x7_89 m_89 => G m0 m_89 ∧ (0 ≤ x7_89 ∧ x7_89 ≤ 4), fun x7_89 m_89 => Int.toNat (4 - x7_89), ?_, ?_⟩
                      · exact ⟨g_m85, by first | omega | (refine ⟨?_, ?_⟩ <;> omega) | trivial⟩
                      · intro x7_89 m_89 r_x7_89 hI_89
                        obtain ⟨g_m_89, hI_89⟩ := hI_89
                        refine ⟨fun hq => ?_, fun hq => ?_⟩
                        · skip
                          try have w7 : wr (x6_69 + 1) = x6_69 + 1 := wr_id (by omega) (by omega)
                          intro z6_153 e_z6_153
                          have r_z6_153 : rg z6_153 := by rw [e_z6_153]; exact wr_rg _
                          exact ⟨⟨g_m_89, by first | omega | (refine ⟨?_, ?_⟩ <;> omega) | trivial⟩, by (try dsimp only); omega⟩
                        · skip
                          try have w8 : wr (4 * x6_69) = 4 * x6_69 := wr_id (by omega) (by omega)
                          try have w9 : wr ((wr (4 * x6_69)) + x7_89) = (wr (4 * x6_69)) + x7_89 := wr_id (by omega) (by omega)
                          refine ⟨⟨by omega, by omega⟩, ?_⟩
                          have t10 := ty_325 g_m_89.1 (Int.toNat (wr ((wr (4 * x6_69)) + x7_89)))
                          intro z8_107 e_z8_107
                          have r_z8_107 : rg z8_107 := by rw [e_z8_107]; exact (rd_rg _ _ _)
                          refine ⟨fun m_147 => G m0 m_147 ∧ (True), ?_, ?_⟩
                          · skip
                            refine ⟨fun hq => ?_, fun hq => ?_⟩
                            · skip
                              exact ⟨g_m_89, by first | trivial | omega | (refine ⟨?_, ?_⟩ <;> omega)⟩
                            · skip
                              refine CK.mono (ct_248   g_m_89.1 r_x1 r_z8_107 (by unfold rg; decide) (by omega) (by omega) (by omega)) (by decide) ?_
                              rintro m119 v119 r_v119 ⟨e_m119, h_m119⟩
                              replace e_m119 := e_m119.symm
                              subst e_m119
                              try have q11 : rmI x4_60 10 = x4_60 % 10 := rm_eq (by omega) (by omega) (by omega) (by omega)
                              refine ⟨fun hq => ?_, fun hq => ?_⟩
                              · skip
                                exact ⟨g_m_89, by first | trivial | omega | (refine ⟨?_, ?_⟩ <;> omega)⟩
                              · skip
                                refine ⟨⟨by omega, by omega⟩, ?_⟩
                                refine ⟨⟨by omega, by omega⟩, ?_⟩
                                refine ⟨⟨by omega, by omega⟩, ?_⟩
                                try have w14 : wr ((rd m_89 333 (Int.toNat x6_69)) + (rd m_89 332 (Int.toNat z8_107))) = (rd m_89 333 (Int.toNat x6_69)) + (rd m_89 332 (Int.toNat z8_107)) := wr_id (by omega) (by omega)
                                intro m146 e_m146
                                have g_m146 : G m0 m146 := by rw [e_m146]; exact GX.wt g_m_89 (tw_333 g_m_89.1 (wr_rg _)) (Eq.refl true)
                                exact ⟨g_m146, by first | trivial | omega | (refine ⟨?_, ?_⟩ <;> omega)⟩
                          · intro m_147  hR_147
                            obtain ⟨g_m_147, hR_147⟩ := hR_147
                            try have w15 : wr (x7_89 + 1) = x7_89 + 1 := wr_id (by omega) (by omega)
                            intro z7_147 e_z7_147
                            have r_z7_147 : rg z7_147 := by rw [e_z7_147]; exact wr_rg _
                            exact ⟨⟨g_m_147, by first | omega | (refine ⟨?_, ?_⟩ <;> omega) | trivial⟩, by (try dsimp only); omega⟩
            · skip
              refine ⟨⟨by omega, by omega⟩, ?_⟩
              intro m47 e_m47
              have g_m47 : G m0 m47 := by rw [e_m47]; exact GX.wt g_m_32 (tw_332 g_m_32.1 (by first | assumption | omega)) (Eq.refl true)
              try have w16 : wr (x4_32 + 1) = x4_32 + 1 := wr_id (by omega) (by omega)
              intro z4_48 e_z4_48
              have r_z4_48 : rg z4_48 := by rw [e_z4_48]; exact wr_rg _
              exact ⟨⟨g_m47, by first | omega | (refine ⟨?_, ?_⟩ <;> omega) | trivial⟩, by (try dsimp only); omega⟩
        · skip
          exact ⟨g_m, by first | trivial | omega | (refine ⟨?_, ?_⟩ <;> omega)⟩
  · intro m_22  hR_22
    obtain ⟨g_m_22, hR_22⟩ := hR_22
    exact ⟨g_m_22, by first | trivial | omega | (refine ⟨?_, ?_⟩ <;> omega)⟩
-- TippedCratesModel.game(III)I
set_option maxRecDepth 20000 in
theorem ct_264 {m0 m : Mm} {x1 : Int} {x2 : Int} {x3 : Int}  (g_m : G m0 m) (r_x1 : rg x1) (r_x2 : rg x2) (r_x3 : rg x3) (p0 : MW m0) : CK 5 264 [.ref 284, iv x1, iv x2, iv x3] m (fun m2 v => G m0 m2 ∧ (True)) := by
  refine br_264 r_x1 r_x2 r_x3 ?_
  unfold P_264
  refine CK.mono (ct_210   g_m.1 r_x1) (by decide) ?_
  rintro m2 v2 r_v2 ⟨e_m2, h_m2⟩
  replace e_m2 := e_m2.symm
  subst e_m2
  refine ⟨fun m_27 => G m0 m_27 ∧ (True), ?_, ?_⟩
  · skip
    refine ⟨fun hq => ?_, fun hq => ?_⟩
    · skip
      exact ⟨g_m, by first | trivial | omega | (refine ⟨?_, ?_⟩ <;> omega)⟩
    · skip
      refine CK.mono (ct_206   r_x2 (by unfold rg; decide) (by unfold rg; decide)) (by decide) ?_
      rintro m12 v12 r_v12 ⟨e_m12, h_m12⟩
      replace e_m12 := e_m12.symm
      subst e_m12
      refine ⟨fun hq => ?_, fun hq => ?_⟩
      · skip
        exact ⟨g_m, by first | trivial | omega | (refine ⟨?_, ?_⟩ <;> omega)⟩
      · skip
        refine CK.mono (ct_206   r_x3 (by unfold rg; decide) (by unfold rg; decide)) (by decide) ?_
        rintro m21 v21 r_v21 ⟨e_m21, h_m21⟩
        replace e_m21 := e_m21.symm
        subst e_m21
        refine ⟨fun hq => ?_, fun hq => ?_⟩
        · skip
          refine CV.mono (ct_246   g_m r_x1 p0 (by omega)) (by decide) ?_
          rintro m31 ⟨g_m31, h_m31⟩
          try have w1 : wr (43 + x1) = 43 + x1 := wr_id (by omega) (by omega)
          refine ⟨⟨by omega, by omega⟩, ?_⟩
          have t2 := tr_323 g_m31.1 (Int.toNat (wr (43 + x1)))
          try have w3 : wr (24 * (rd m31 323 (Int.toNat (wr (43 + x1))))) = 24 * (rd m31 323 (Int.toNat (wr (43 + x1)))) := wr_id (by omega) (by omega)
          intro z4_46 e_z4_46
          have r_z4_46 : rg z4_46 := by rw [e_z4_46]; exact (wr_rg _)
          refine ⟨fun x5_51 m_51 => G m0 m_51 ∧ (0 ≤ x5_51 ∧ x5_51 ≤ 600), fun x5_51 m_51 => Int.toNat (600 - x5_51), ?_, ?_⟩
          · exact ⟨g_m31, by first | omega | (refine ⟨?_, ?_⟩ <;> omega) | trivial⟩
          · intro x5_51 m_51 r_x5_51 hI_51
            obtain ⟨g_m_51, hI_51⟩ := hI_51
            refine CK.mono (ct_247   g_m_51.1 (MW_G p0 g_m_51)) (by decide) ?_
            rintro m54 v54 r_v54 ⟨e_m54, h_m54⟩
            replace e_m54 := e_m54.symm
            subst e_m54
            refine ⟨fun hq => ?_, fun hq => ?_⟩
            · skip
              try have w4 : wr (x2 - 1) = x2 - 1 := wr_id (by omega) (by omega)
              intro z5_84 e_z5_84
              have r_z5_84 : rg z5_84 := by rw [e_z5_84]; exact (wr_rg _)
              refine ⟨fun x5_86 m_86 => G m0 m_86 ∧ (-1 ≤ x5_86 ∧ x5_86 ≤ 5), fun x5_86 m_86 => Int.toNat (x5_86 + 1), ?_, ?_⟩
              · exact ⟨g_m_51, by first | omega | (refine ⟨?_, ?_⟩ <;> omega) | trivial⟩
              · intro x5_86 m_86 r_x5_86 hI_86
                obtain ⟨g_m_86, hI_86⟩ := hI_86
                refine ⟨fun hq => ?_, fun hq => ?_⟩
                · skip
                  refine ⟨⟨by omega, by omega⟩, ?_⟩
                  exact ⟨g_m_86, by first | trivial | omega | (refine ⟨?_, ?_⟩ <;> omega)⟩
                · skip
                  try have q6 : rmI x5_86 2 = x5_86 % 2 := rm_eq (by omega) (by omega) (by omega) (by omega)
                  refine ⟨fun s0_103 => (s0_103 = 0 ∨ s0_103 = 1), ?_, ?_⟩
                  · skip
                    refine ⟨fun hq => ?_, fun hq => ?_⟩
                    · skip
                      (first | trivial | omega | (refine ⟨?_, ?_⟩ <;> omega))
                    · skip
                      (first | trivial | omega | (refine ⟨?_, ?_⟩ <;> omega))
                  · intro s0_103 r_s0_103 hR_103
                    refine ⟨True, ?_, ?_⟩
                    · skip
                      refine ⟨fun hq => ?_, fun hq => ?_⟩
                      · skip
                        (first | trivial | omega | (refine ⟨?_, ?_⟩ <;> omega))
                      · skip
                        refine ⟨fun hq => ?_, fun hq => ?_⟩
                        · skip
                          (first | trivial | omega | (refine ⟨?_, ?_⟩ <;> omega))
                        · skip
                          refine CK.mono (ct_263   g_m_86.1 r_z4_46 (by unfold rg; decide) (by omega)) (by decide) ?_
                          rintro m119 v119 r_v119 ⟨e_m119, h_m119⟩
                          replace e_m119 := e_m119.symm
                          subst e_m119
                          exact ⟨g_m_86, by first | trivial | omega | (refine ⟨?_, ?_⟩ <;> omega)⟩
                    · intro   hR_123
                      refine ⟨fun x7_126 m_126 => G m0 m_126 ∧ (0 ≤ x7_126 ∧ x7_126 ≤ 600), fun x7_126 m_126 => Int.toNat (600 - x7_126), ?_, ?_⟩
                      · exact ⟨g_m_86, by first | omega | (refine ⟨?_, ?_⟩ <;> omega) | trivial⟩
                      · intro x7_126 m_126 r_x7_126 hI_126
                        obtain ⟨g_m_126, hI_126⟩ := hI_126
                        refine CK.mono (ct_247   g_m_126.1 (MW_G p0 g_m_126)) (by decide) ?_
                        rintro m129 v129 r_v129 ⟨e_m129, h_m129⟩
                        replace e_m129 := e_m129.symm
                        subst e_m129
                        refine ⟨fun hq => ?_, fun hq => ?_⟩
                        · skip
                          refine CV.mono (ct_258   g_m_126 p0) (by decide) ?_
                          rintro m192 ⟨g_m192, h_m192⟩
                          try have w7 : wr (x5_86 + (-1)) = x5_86 + (-1) := wr_id (by omega) (by omega)
                          intro z5_195 e_z5_195
                          have r_z5_195 : rg z5_195 := by rw [e_z5_195]; exact wr_rg _
                          exact ⟨⟨g_m192, by first | omega | (refine ⟨?_, ?_⟩ <;> omega) | trivial⟩, by (try dsimp only); omega⟩
                        · skip
                          refine CK.mono (ct_263   g_m_126.1 r_x7_126 r_s0_103 (by omega)) (by decide) ?_
                          rintro m140 v140 r_v140 ⟨e_m140, h_m140⟩
                          replace e_m140 := e_m140.symm
                          subst e_m140
                          have e140 : 0 ≤ v140 → rd m_126 325 (Int.toNat (wr ((wr (4 * x7_126)) + v140))) = rd m_126 325 (Int.toNat (4 * x7_126 + v140)) := fun h => congrArg (rd m_126 325) (by rw [wr_id (x := 4 * x7_126) (by omega) (by omega), wr_id (by omega) (by omega)])
                          refine ⟨fun s2_184 m_184 => G m0 m_184 ∧ (True), ?_, ?_⟩
                          · skip
                            refine ⟨fun hq => ?_, fun hq => ?_⟩
                            · skip
                              try have w8 : wr (4 * x7_126) = 4 * x7_126 := wr_id (by omega) (by omega)
                              try have w9 : wr ((wr (4 * x7_126)) + v140) = (wr (4 * x7_126)) + v140 := wr_id (by omega) (by omega)
                              refine ⟨⟨by omega, by omega⟩, ?_⟩
                              have t10 := ty_325 g_m_126.1 (Int.toNat (wr ((wr (4 * x7_126)) + v140)))
                              refine ⟨⟨by omega, by omega⟩, ?_⟩
                              exact ⟨g_m_126, by first | trivial | omega | (refine ⟨?_, ?_⟩ <;> omega)⟩
                            · skip
                              refine CK.mono (ct_248   g_m_126.1 r_x1 r_x7_126 (by unfold rg; decide) (by omega) (by omega) (by omega)) (by decide) ?_
                              rintro m161 v161 r_v161 ⟨e_m161, h_m161⟩
                              replace e_m161 := e_m161.symm
                              subst e_m161
                              exact ⟨g_m_126, by first | trivial | omega | (refine ⟨?_, ?_⟩ <;> omega)⟩
                          · intro s2_184 m_184 r_s2_184 hR_184
                            obtain ⟨g_m_184, hR_184⟩ := hR_184
                            refine ⟨⟨by omega, by omega⟩, ?_⟩
                            intro m184 e_m184
                            have g_m184 : G m0 m184 := by rw [e_m184]; exact GX.wt g_m_184 (tw_333 g_m_184.1 (by first | assumption | omega)) (Eq.refl true)
                            try have w12 : wr (x7_126 + 1) = x7_126 + 1 := wr_id (by omega) (by omega)
                            intro z7_185 e_z7_185
                            have r_z7_185 : rg z7_185 := by rw [e_z7_185]; exact wr_rg _
                            exact ⟨⟨g_m184, by first | omega | (refine ⟨?_, ?_⟩ <;> omega) | trivial⟩, by (try dsimp only); omega⟩
            · skip
              refine CK.mono (ct_248   g_m_51.1 r_x1 r_x5_51 (by unfold rg; decide) (by omega) (by omega) (by omega)) (by decide) ?_
              rintro m71 v71 r_v71 ⟨e_m71, h_m71⟩
              replace e_m71 := e_m71.symm
              subst e_m71
              refine ⟨⟨by omega, by omega⟩, ?_⟩
              intro m74 e_m74
              have g_m74 : G m0 m74 := by rw [e_m74]; exact GX.wt g_m_51 (tw_332 g_m_51.1 (by first | assumption | omega)) (Eq.refl true)
              try have w13 : wr (x5_51 + 1) = x5_51 + 1 := wr_id (by omega) (by omega)
              intro z5_75 e_z5_75
              have r_z5_75 : rg z5_75 := by rw [e_z5_75]; exact wr_rg _
              exact ⟨⟨g_m74, by first | omega | (refine ⟨?_, ?_⟩ <;> omega) | trivial⟩, by (try dsimp only); omega⟩
        · skip
          exact ⟨g_m, by first | trivial | omega | (refine ⟨?_, ?_⟩ <;> omega)⟩
  · intro m_27  hR_27
    obtain ⟨g_m_27, hR_27⟩ := hR_27
    exact ⟨g_m_27, by first | trivial | omega | (refine ⟨?_, ?_⟩ <;> omega)⟩
-- TippedCratesModel.doesFit(IIII)Z
set_option maxRecDepth 20000 in
theorem ct_280 {m0 m : Mm} {x1 : Int} {x2 : Int} {x3 : Int} {x4 : Int}  (g_m : G m0 m) (r_x1 : rg x1) (r_x2 : rg x2) (r_x3 : rg x3) (r_x4 : rg x4) (p0 : 0 ≤ x1 ∧ x1 ≤ 2) (p1 : 0 ≤ x3 ∧ x3 ≤ 20) (p2 : 1 ≤ x4 ∧ x4 ≤ 5) : CK 3 280 [.ref 284, iv x1, iv x2, iv x3, iv x4] m (fun m2 v => G m0 m2 ∧ (v = 0 ∨ v = 1)) := by
  refine br_280 r_x1 r_x2 r_x3 r_x4 ?_
  unfold P_280
  try have w1 : wr (43 + x1) = 43 + x1 := wr_id (by omega) (by omega)
  refine ⟨⟨by omega, by omega⟩, ?_⟩
  have t2 := tr_323 g_m.1 (Int.toNat (wr (43 + x1)))
  try have w3 : wr (24 * (rd m 323 (Int.toNat (wr (43 + x1))))) = 24 * (rd m 323 (Int.toNat (wr (43 + x1)))) := wr_id (by omega) (by omega)
  intro z5_12 e_z5_12
  have r_z5_12 : rg z5_12 := by rw [e_z5_12]; exact (wr_rg _)
  refine ⟨fun x5_17 x6_17 m_17 => G m0 m_17 ∧ ((0 ≤ x5_17 ∧ x5_17 ≤ 599) ∧ 1 ≤ x6_17 ∧ x6_17 ≤ 6), fun x5_17 x6_17 m_17 => Int.toNat (6 - x6_17), ?_, ?_⟩
  · exact ⟨g_m, by first | omega | (refine ⟨?_, ?_⟩ <;> omega) | trivial⟩
  · intro x5_17 x6_17 m_17 r_x5_17 r_x6_17 hI_17
    obtain ⟨g_m_17, hI_17⟩ := hI_17
    refine ⟨fun hq => ?_, fun hq => ?_⟩
    · skip
      refine ⟨fun x6_78 => 0 ≤ x6_78 ∧ x6_78 ≤ 20, fun x6_78 => Int.toNat (20 - x6_78), ?_, ?_⟩
      · (first | omega | (refine ⟨?_, ?_⟩ <;> omega) | trivial)
      · intro x6_78 r_x6_78 hI_78
        refine ⟨fun hq => ?_, fun hq => ?_⟩
        · skip
          exact ⟨g_m_17, by first | trivial | omega | (refine ⟨?_, ?_⟩ <;> omega)⟩
        · skip
          refine ⟨⟨by omega, by omega⟩, ?_⟩
          have t4 := ty_334 g_m_17.1 (Int.toNat x6_78)
          refine ⟨True, ?_, ?_⟩
          · skip
            refine ⟨fun hq => ?_, fun hq => ?_⟩
            · skip
              (first | trivial | omega | (refine ⟨?_, ?_⟩ <;> omega))
            · skip
              refine ⟨⟨by omega, by omega⟩, ?_⟩
              refine ⟨⟨by omega, by omega⟩, ?_⟩
              refine ⟨⟨by omega, by omega⟩, ?_⟩
              have t5 := ty_337 g_m_17.1 (Int.toNat (rd m_17 334 (Int.toNat x6_78)))
              refine ⟨fun s0_123 => (s0_123 = 0 ∨ s0_123 = 1), ?_, ?_⟩
              · skip
                refine ⟨fun hq => ?_, fun hq => ?_⟩
                · skip
                  (first | trivial | omega | (refine ⟨?_, ?_⟩ <;> omega))
                · skip
                  (first | trivial | omega | (refine ⟨?_, ?_⟩ <;> omega))
              · intro s0_123 r_s0_123 hR_123
                refine ⟨⟨by omega, by omega⟩, ?_⟩
                refine ⟨fun hq => ?_, fun hq => ?_⟩
                · skip
                  try have w8 : wr (x6_78 + 1) = x6_78 + 1 := wr_id (by omega) (by omega)
                  intro z6_135 e_z6_135
                  have r_z6_135 : rg z6_135 := by rw [e_z6_135]; exact wr_rg _
                  exact ⟨by first | omega | (refine ⟨?_, ?_⟩ <;> omega) | trivial, by (try dsimp only); omega⟩
                · skip
                  (first | trivial | omega | (refine ⟨?_, ?_⟩ <;> omega))
          · intro   hR_133
            exact ⟨g_m_17, by first | trivial | omega | (refine ⟨?_, ?_⟩ <;> omega)⟩
    · skip
      try have w9 : wr (4 * x5_17) = 4 * x5_17 := wr_id (by omega) (by omega)
      try have w10 : wr (x4 - x6_17) = x4 - x6_17 := wr_id (by omega) (by omega)
      try have w11 : wr (2 * (wr (x4 - x6_17))) = 2 * (wr (x4 - x6_17)) := wr_id (by omega) (by omega)
      have an12 := an3 (srI x2 (wr (2 * (wr (x4 - x6_17)))))
      try have w13 : wr ((wr (4 * x5_17)) + (anI (srI x2 (wr (2 * (wr (x4 - x6_17))))) 3)) = (wr (4 * x5_17)) + (anI (srI x2 (wr (2 * (wr (x4 - x6_17))))) 3) := wr_id (by omega) (by omega)
      refine ⟨⟨by omega, by omega⟩, ?_⟩
      have t14 := ty_325 g_m_17.1 (Int.toNat (wr ((wr (4 * x5_17)) + (anI (srI x2 (wr (2 * (wr (x4 - x6_17))))) 3))))
      intro z5_45 e_z5_45
      have r_z5_45 : rg z5_45 := by rw [e_z5_45]; exact (rd_rg _ _ _)
      refine ⟨fun hq => ?_, fun hq => ?_⟩
      · skip
        refine CK.mono (ct_248   g_m_17.1 r_x1 r_z5_45 (by unfold rg; decide) (by omega) (by omega) (by omega)) (by decide) ?_
        rintro m65 v65 r_v65 ⟨e_m65, h_m65⟩
        replace e_m65 := e_m65.symm
        subst e_m65
        refine ⟨⟨by omega, by omega⟩, ?_⟩
        intro m68 e_m68
        have g_m68 : G m0 m68 := by rw [e_m68]; exact GX.wt g_m_17 (tw_337 g_m_17.1 ⟨by omega, by omega⟩) (Eq.refl true)
        try have w15 : wr (x6_17 + 1) = x6_17 + 1 := wr_id (by omega) (by omega)
        intro z6_69 e_z6_69
        have r_z6_69 : rg z6_69 := by rw [e_z6_69]; exact wr_rg _
        exact ⟨⟨g_m68, by first | omega | (refine ⟨?_, ?_⟩ <;> omega) | trivial⟩, by (try dsimp only); omega⟩
      · skip
        exact ⟨g_m_17, by first | trivial | omega | (refine ⟨?_, ?_⟩ <;> omega)⟩
-- TippedCratesModel.rows(IIII)I
set_option maxRecDepth 20000 in
theorem ct_282 {m0 m : Mm} {x1 : Int} {x2 : Int} {x3 : Int} {x4 : Int}  (g_m : G m0 m) (r_x1 : rg x1) (r_x2 : rg x2) (r_x3 : rg x3) (r_x4 : rg x4) (p0 : MW m0) : CK 5 282 [.ref 284, iv x1, iv x2, iv x3, iv x4] m (fun m2 v => G m0 m2 ∧ (True)) := by
  refine br_282 r_x1 r_x2 r_x3 r_x4 ?_
  unfold P_282
  have t72 := ty_284_72 g_m.1
  refine CK.mono (ct_281   g_m.1 r_x1 r_x2 r_x3) (by decide) ?_
  rintro m4 v4 r_v4 ⟨e_m4, h_m4⟩
  replace e_m4 := e_m4.symm
  subst e_m4
  refine ⟨fun m_20 => G m0 m_20 ∧ (True), ?_, ?_⟩
  · skip
    refine ⟨fun hq => ?_, fun hq => ?_⟩
    · skip
      exact ⟨g_m, by first | trivial | omega | (refine ⟨?_, ?_⟩ <;> omega)⟩
    · skip
      refine CK.mono (ct_206   r_x4 (by unfold rg; decide) (by unfold rg; decide)) (by decide) ?_
      rintro m14 v14 r_v14 ⟨e_m14, h_m14⟩
      replace e_m14 := e_m14.symm
      subst e_m14
      refine ⟨fun hq => ?_, fun hq => ?_⟩
      · skip
        refine CV.mono (ct_246   g_m r_x2 p0 (by omega)) (by decide) ?_
        rintro m24 ⟨g_m24, h_m24⟩
        refine CK.mono (ct_279   r_x3 (by omega)) (by decide) ?_
        rintro m35 v35 r_v35 ⟨e_m35, h_m35⟩
        replace e_m35 := e_m35.symm
        subst e_m35
        try have w1 : wr (v35 - 1) = v35 - 1 := wr_id (by omega) (by omega)
        intro z7_40 e_z7_40
        have r_z7_40 : rg z7_40 := by rw [e_z7_40]; exact (wr_rg _)
        refine ⟨fun x5_42 x6_42 x7_42 m_42 => G m0 m_42 ∧ (-1 ≤ x7_42 ∧ x7_42 ≤ 1023), fun x5_42 x6_42 x7_42 m_42 => Int.toNat (x7_42 + 1), ?_, ?_⟩
        · exact ⟨g_m24, by first | omega | (refine ⟨?_, ?_⟩ <;> omega) | trivial⟩
        · intro x5_42 x6_42 x7_42 m_42 r_x5_42 r_x6_42 r_x7_42 hI_42
          obtain ⟨g_m_42, hI_42⟩ := hI_42
          refine ⟨fun hq => ?_, fun hq => ?_⟩
          · skip
            refine ⟨fun s0_87 => True, ?_, ?_⟩
            · skip
              refine ⟨fun hq => ?_, fun hq => ?_⟩
              · skip
                (first | trivial | omega | (refine ⟨?_, ?_⟩ <;> omega))
              · skip
                (first | trivial | omega | (refine ⟨?_, ?_⟩ <;> omega))
            · intro s0_87 r_s0_87 hR_87
              exact ⟨g_m_42, by first | trivial | omega | (refine ⟨?_, ?_⟩ <;> omega)⟩
          · skip
            refine CK.mono (ct_280   g_m_42 r_x2 r_x7_42 r_x1 r_x3 (by omega) (by omega) (by omega)) (by decide) ?_
            rintro m53 v53 r_v53 ⟨g_m53, h_m53⟩
            refine ⟨fun y5_69 y6_69 => True, ?_, ?_⟩
            · skip
              refine ⟨fun hq => ?_, fun hq => ?_⟩
              · skip
                try have w2 : wr (x5_42 + 1) = x5_42 + 1 := wr_id (by omega) (by omega)
                intro z5_62 e_z5_62
                have r_z5_62 : rg z5_62 := by rw [e_z5_62]; exact wr_rg _
                (first | trivial | omega | (refine ⟨?_, ?_⟩ <;> omega))
              · skip
                (first | trivial | omega | (refine ⟨?_, ?_⟩ <;> omega))
            · intro y5_69 y6_69 r_y5_69 r_y6_69 hR_69
              try have w3 : wr (x7_42 + (-1)) = x7_42 + (-1) := wr_id (by omega) (by omega)
              intro z7_69 e_z7_69
              have r_z7_69 : rg z7_69 := by rw [e_z7_69]; exact wr_rg _
              exact ⟨⟨g_m53, by first | omega | (refine ⟨?_, ?_⟩ <;> omega) | trivial⟩, by (try dsimp only); omega⟩
      · skip
        exact ⟨g_m, by first | trivial | omega | (refine ⟨?_, ?_⟩ <;> omega)⟩
  · intro m_20  hR_20
    obtain ⟨g_m_20, hR_20⟩ := hR_20
    exact ⟨g_m_20, by first | trivial | omega | (refine ⟨?_, ?_⟩ <;> omega)⟩
-- TippedCratesModel.listen(III)I
set_option maxRecDepth 20000 in
theorem ct_283 {m0 m : Mm} {x1 : Int} {x2 : Int} {x3 : Int}  (g_m : G m0 m) (r_x1 : rg x1) (r_x2 : rg x2) (r_x3 : rg x3) (p0 : MW m0) : CK 5 283 [.ref 284, iv x1, iv x2, iv x3] m (fun m2 v => G m0 m2 ∧ (True)) := by
  refine br_283 r_x1 r_x2 r_x3 ?_
  unfold P_283
  have t72 := ty_284_72 g_m.1
  refine CK.mono (ct_281   g_m.1 r_x1 r_x2 r_x3) (by decide) ?_
  rintro m4 v4 r_v4 ⟨e_m4, h_m4⟩
  replace e_m4 := e_m4.symm
  subst e_m4
  refine ⟨fun hq => ?_, fun hq => ?_⟩
  · skip
    refine CV.mono (ct_246   g_m r_x2 p0 (by omega)) (by decide) ?_
    rintro m14 ⟨g_m14, h_m14⟩
    refine ⟨fun x4_20 m_20 => G m0 m_20 ∧ (0 ≤ x4_20 ∧ x4_20 ≤ 60), fun x4_20 m_20 => Int.toNat (60 - x4_20), ?_, ?_⟩
    · exact ⟨g_m14, by first | omega | (refine ⟨?_, ?_⟩ <;> omega) | trivial⟩
    · intro x4_20 m_20 r_x4_20 hI_20
      obtain ⟨g_m_20, hI_20⟩ := hI_20
      refine ⟨fun hq => ?_, fun hq => ?_⟩
      · skip
        refine ⟨fun x4_47 x5_47 m_47 => G m0 m_47 ∧ (0 ≤ x5_47 ∧ x5_47 ≤ 1024), fun x4_47 x5_47 m_47 => Int.toNat (1024 - x5_47), ?_, ?_⟩
        · exact ⟨g_m_20, by first | omega | (refine ⟨?_, ?_⟩ <;> omega) | trivial⟩
        · intro x4_47 x5_47 m_47 r_x4_47 r_x5_47 hI_47
          obtain ⟨g_m_47, hI_47⟩ := hI_47
          refine CK.mono (ct_279   r_x3 (by omega)) (by decide) ?_
          rintro m50 v50 r_v50 ⟨e_m50, h_m50⟩
          replace e_m50 := e_m50.symm
          subst e_m50
          refine ⟨fun hq => ?_, fun hq => ?_⟩
          · skip
            refine ⟨fun x5_127 x6_127 x7_127 => 1 ≤ x7_127 ∧ x7_127 ≤ 6, fun x5_127 x6_127 x7_127 => Int.toNat (6 - x7_127), ?_, ?_⟩
            · (first | omega | (refine ⟨?_, ?_⟩ <;> omega) | trivial)
            · intro x5_127 x6_127 x7_127 r_x5_127 r_x6_127 r_x7_127 hI_127
              refine ⟨True, ?_, ?_⟩
              · skip
                refine ⟨fun hq => ?_, fun hq => ?_⟩
                · skip
                  (first | trivial | omega | (refine ⟨?_, ?_⟩ <;> omega))
                · skip
                  refine ⟨fun hq => ?_, fun hq => ?_⟩
                  · skip
                    (first | trivial | omega | (refine ⟨?_, ?_⟩ <;> omega))
                  · skip
                    refine ⟨fun x8_144 x9_144 => 0 ≤ x9_144 ∧ x9_144 ≤ 10, fun x8_144 x9_144 => Int.toNat (10 - x9_144), ?_, ?_⟩
                    · (first | omega | (refine ⟨?_, ?_⟩ <;> omega) | trivial)
                    · intro x8_144 x9_144 r_x8_144 r_x9_144 hI_144
                      refine ⟨fun hq => ?_, fun hq => ?_⟩
                      · skip
                        refine ⟨fun y5_213 y6_213 => True, ?_, ?_⟩
                        · skip
                          refine ⟨True, ?_, ?_⟩
                          · skip
                            refine ⟨fun hq => ?_, fun hq => ?_⟩
                            · skip
                              (first | trivial | omega | (refine ⟨?_, ?_⟩ <;> omega))
                            · skip
                              refine ⟨fun hq => ?_, fun hq => ?_⟩
                              · skip
                                (first | trivial | omega | (refine ⟨?_, ?_⟩ <;> omega))
                              · skip
                                (first | trivial | omega | (refine ⟨?_, ?_⟩ <;> omega))
                          · intro   hR_205
                            (first | trivial | omega | (refine ⟨?_, ?_⟩ <;> omega))
                        · intro y5_213 y6_213 r_y5_213 r_y6_213 hR_213
                          try have w1 : wr (x7_127 + 1) = x7_127 + 1 := wr_id (by omega) (by omega)
                          intro z7_213 e_z7_213
                          have r_z7_213 : rg z7_213 := by rw [e_z7_213]; exact wr_rg _
                          exact ⟨by first | omega | (refine ⟨?_, ?_⟩ <;> omega) | trivial, by (try dsimp only); omega⟩
                      · skip
                        try have w2 : wr (10 * x7_127) = 10 * x7_127 := wr_id (by omega) (by omega)
                        try have w3 : wr ((wr (10 * x7_127)) + x9_144) = (wr (10 * x7_127)) + x9_144 := wr_id (by omega) (by omega)
                        refine ⟨⟨by omega, by omega⟩, ?_⟩
                        refine ⟨fun y8_184 => True, ?_, ?_⟩
                        · skip
                          refine ⟨fun hq => ?_, fun hq => ?_⟩
                          · skip
                            (first | trivial | omega | (refine ⟨?_, ?_⟩ <;> omega))
                          · skip
                            refine ⟨⟨by omega, by omega⟩, ?_⟩
                            intro z8_182 e_z8_182
                            have r_z8_182 : rg z8_182 := by rw [e_z8_182]; exact (rd_rg _ _ _)
                            (first | trivial | omega | (refine ⟨?_, ?_⟩ <;> omega))
                        · intro y8_184 r_y8_184 hR_184
                          try have w5 : wr (x9_144 + 1) = x9_144 + 1 := wr_id (by omega) (by omega)
                          intro z9_184 e_z9_184
                          have r_z9_184 : rg z9_184 := by rw [e_z9_184]; exact wr_rg _
                          exact ⟨by first | omega | (refine ⟨?_, ?_⟩ <;> omega) | trivial, by (try dsimp only); omega⟩
              · intro   hR_219
                exact ⟨g_m_47, by first | trivial | omega | (refine ⟨?_, ?_⟩ <;> omega)⟩
          · skip
            refine CK.mono (ct_280   g_m_47 r_x2 r_x5_47 r_x1 r_x3 (by omega) (by omega) (by omega)) (by decide) ?_
            rintro m62 v62 r_v62 ⟨g_m62, h_m62⟩
            refine ⟨fun y4_111 m_111 => G m0 m_111 ∧ (True), ?_, ?_⟩
            · skip
              refine ⟨fun hq => ?_, fun hq => ?_⟩
              · skip
                refine ⟨fun x6_77 m_77 => G m0 m_77 ∧ (1 ≤ x6_77 ∧ x6_77 ≤ 6), fun x6_77 m_77 => Int.toNat (6 - x6_77), ?_, ?_⟩
                · exact ⟨g_m62, by first | omega | (refine ⟨?_, ?_⟩ <;> omega) | trivial⟩
                · intro x6_77 m_77 r_x6_77 hI_77
                  obtain ⟨g_m_77, hI_77⟩ := hI_77
                  refine ⟨fun hq => ?_, fun hq => ?_⟩
                  · skip
                    exact ⟨g_m_77, by first | trivial | omega | (refine ⟨?_, ?_⟩ <;> omega)⟩
                  · skip
                    refine ⟨⟨by omega, by omega⟩, ?_⟩
                    try have w6 : wr (10 * x6_77) = 10 * x6_77 := wr_id (by omega) (by omega)
                    have t7 := ty_337 g_m_77.1 (Int.toNat x6_77)
                    try have w8 : wr ((wr (10 * x6_77)) + (rd m_77 337 (Int.toNat x6_77))) = (wr (10 * x6_77)) + (rd m_77 337 (Int.toNat x6_77)) := wr_id (by omega) (by omega)
                    refine ⟨⟨by omega, by omega⟩, ?_⟩
                    refine ⟨⟨by omega, by omega⟩, ?_⟩
                    try have w10 : wr ((rd m_77 338 (Int.toNat (wr ((wr (10 * x6_77)) + (rd m_77 337 (Int.toNat x6_77)))))) + 1) = (rd m_77 338 (Int.toNat (wr ((wr (10 * x6_77)) + (rd m_77 337 (Int.toNat x6_77)))))) + 1 := wr_id (by omega) (by omega)
                    intro m104 e_m104
                    have g_m104 : G m0 m104 := by rw [e_m104]; exact GX.wt g_m_77 (tw_338 g_m_77.1 (wr_rg _)) (Eq.refl true)
                    try have w11 : wr (x6_77 + 1) = x6_77 + 1 := wr_id (by omega) (by omega)
                    intro z6_105 e_z6_105
                    have r_z6_105 : rg z6_105 := by rw [e_z6_105]; exact wr_rg _
                    exact ⟨⟨g_m104, by first | omega | (refine ⟨?_, ?_⟩ <;> omega) | trivial⟩, by (try dsimp only); omega⟩
              · skip
                exact ⟨g_m62, by first | trivial | omega | (refine ⟨?_, ?_⟩ <;> omega)⟩
            · intro y4_111 m_111 r_y4_111 hR_111
              obtain ⟨g_m_111, hR_111⟩ := hR_111
              try have w12 : wr (x5_47 + 1) = x5_47 + 1 := wr_id (by omega) (by omega)
              intro z5_111 e_z5_111
              have r_z5_111 : rg z5_111 := by rw [e_z5_111]; exact wr_rg _
              exact ⟨⟨g_m_111, by first | omega | (refine ⟨?_, ?_⟩ <;> omega) | trivial⟩, by (try dsimp only); omega⟩
      · skip
        refine ⟨⟨by omega, by omega⟩, ?_⟩
        intro m34 e_m34
        have g_m34 : G m0 m34 := by rw [e_m34]; exact GX.wt g_m_20 (tw_338 g_m_20.1 (by first | assumption | omega)) (Eq.refl true)
        try have w13 : wr (x4_20 + 1) = x4_20 + 1 := wr_id (by omega) (by omega)
        intro z4_35 e_z4_35
        have r_z4_35 : rg z4_35 := by rw [e_z4_35]; exact wr_rg _
        exact ⟨⟨g_m34, by first | omega | (refine ⟨?_, ?_⟩ <;> omega) | trivial⟩, by (try dsimp only); omega⟩
  · skip
    exact ⟨g_m, by first | trivial | omega | (refine ⟨?_, ?_⟩ <;> omega)⟩
-- TippedCratesModel.count(I)I
set_option maxRecDepth 20000 in
theorem ct_287 {m0 m : Mm} {x1 : Int}  (g_m : G m0 m) (r_x1 : rg x1) (p0 : MW m0) : CK 6 287 [.ref 284, iv x1] m (fun m2 v => G m0 m2 ∧ (True)) := by
  refine br_287 r_x1 ?_
  unfold P_287
  refine CV.mono (ct_216   g_m.1) (by decide) ?_
  rintro m1 ⟨hx_m1, h_m1⟩
  have g_m1 : G m0 m1 := gx_in g_m hx_m1 in_sC_scr
  refine ⟨fun hq => ?_, fun hq => ?_, fun hq => ?_, fun hq => ?_, fun hq => ?_, fun hq => ?_, fun hq => ?_, fun hq => ?_, fun hq => ?_, fun hq => ?_, fun hq => ?_, fun hq => ?_, fun hq => ?_, fun hq => ?_, fun hq => ?_, fun hq => ?_, fun hq => ?_, fun hq => ?_⟩
  · skip
    have t1 := ty_284_18 g_m1.1
    refine ⟨⟨by omega, by omega⟩, ?_⟩
    have t2 := ty_293 g_m1.1 (Int.toNat (rd m1 284 18))
    exact ⟨g_m1, by first | trivial | omega | (refine ⟨?_, ?_⟩ <;> omega)⟩
  · skip
    have t3 := ty_284_18 g_m1.1
    refine ⟨⟨by omega, by omega⟩, ?_⟩
    have t4 := ty_294 g_m1.1 (Int.toNat (rd m1 284 18))
    exact ⟨g_m1, by first | trivial | omega | (refine ⟨?_, ?_⟩ <;> omega)⟩
  · skip
    have t5 := ty_284_18 g_m1.1
    refine ⟨⟨by omega, by omega⟩, ?_⟩
    have t6 := ty_302 g_m1.1 (Int.toNat (rd m1 284 18))
    exact ⟨g_m1, by first | trivial | omega | (refine ⟨?_, ?_⟩ <;> omega)⟩
  · skip
    have t7 := tr_323 g_m1.1 49
    exact ⟨g_m1, by first | trivial | omega | (refine ⟨?_, ?_⟩ <;> omega)⟩
  · skip
    have t8 := tr_323 g_m1.1 50
    exact ⟨g_m1, by first | trivial | omega | (refine ⟨?_, ?_⟩ <;> omega)⟩
  · skip
    exact ⟨g_m1, by first | trivial | omega | (refine ⟨?_, ?_⟩ <;> omega)⟩
  · skip
    refine ⟨fun x2_141 x3_141 m_141 => G m0 m_141 ∧ (0 ≤ x3_141 ∧ x3_141 ≤ 25), fun x2_141 x3_141 m_141 => Int.toNat (25 - x3_141), ?_, ?_⟩
    · exact ⟨g_m1, by first | omega | (refine ⟨?_, ?_⟩ <;> omega) | trivial⟩
    · intro x2_141 x3_141 m_141 r_x2_141 r_x3_141 hI_141
      obtain ⟨g_m_141, hI_141⟩ := hI_141
      refine CK.mono (ct_208   g_m_141.1 (MW_G p0 g_m_141)) (by decide) ?_
      rintro m143 v143 r_v143 ⟨e_m143, h_m143⟩
      replace e_m143 := e_m143.symm
      subst e_m143
      refine ⟨fun hq => ?_, fun hq => ?_⟩
      · skip
        exact ⟨g_m_141, by first | trivial | omega | (refine ⟨?_, ?_⟩ <;> omega)⟩
      · skip
        refine ⟨⟨by omega, by omega⟩, ?_⟩
        have t10 := tr_323 g_m_141.1 (Int.toNat x3_141)
        refine ⟨fun y2_164 => True, ?_, ?_⟩
        · skip
          refine ⟨fun hq => ?_, fun hq => ?_⟩
          · skip
            (first | trivial | omega | (refine ⟨?_, ?_⟩ <;> omega))
          · skip
            intro z2_163 e_z2_163
            have r_z2_163 : rg z2_163 := by rw [e_z2_163]; exact (io_rg _ _ _)
            (first | trivial | omega | (refine ⟨?_, ?_⟩ <;> omega))
        · intro y2_164 r_y2_164 hR_164
          try have w11 : wr (x3_141 + 1) = x3_141 + 1 := wr_id (by omega) (by omega)
          intro z3_164 e_z3_164
          have r_z3_164 : rg z3_164 := by rw [e_z3_164]; exact wr_rg _
          exact ⟨⟨g_m_141, by first | omega | (refine ⟨?_, ?_⟩ <;> omega) | trivial⟩, by (try dsimp only); omega⟩
  · skip
    refine ⟨fun x2_174 x3_174 m_174 => G m0 m_174 ∧ (0 ≤ x3_174 ∧ x3_174 ≤ 25), fun x2_174 x3_174 m_174 => Int.toNat (25 - x3_174), ?_, ?_⟩
    · exact ⟨g_m1, by first | omega | (refine ⟨?_, ?_⟩ <;> omega) | trivial⟩
    · intro x2_174 x3_174 m_174 r_x2_174 r_x3_174 hI_174
      obtain ⟨g_m_174, hI_174⟩ := hI_174
      refine CK.mono (ct_208   g_m_174.1 (MW_G p0 g_m_174)) (by decide) ?_
      rintro m176 v176 r_v176 ⟨e_m176, h_m176⟩
      replace e_m176 := e_m176.symm
      subst e_m176
      refine ⟨fun hq => ?_, fun hq => ?_⟩
      · skip
        exact ⟨g_m_174, by first | trivial | omega | (refine ⟨?_, ?_⟩ <;> omega)⟩
      · skip
        refine ⟨⟨by omega, by omega⟩, ?_⟩
        have t12 := tr_323 g_m_174.1 (Int.toNat x3_174)
        try have w13 : wr (x2_174 + (rd m_174 323 (Int.toNat x3_174))) = x2_174 + (rd m_174 323 (Int.toNat x3_174)) := wr_id (by omega) (by omega)
        intro z2_190 e_z2_190
        have r_z2_190 : rg z2_190 := by rw [e_z2_190]; exact (wr_rg _)
        try have w14 : wr (x3_174 + 1) = x3_174 + 1 := wr_id (by omega) (by omega)
        intro z3_191 e_z3_191
        have r_z3_191 : rg z3_191 := by rw [e_z3_191]; exact wr_rg _
        exact ⟨⟨g_m_174, by first | omega | (refine ⟨?_, ?_⟩ <;> omega) | trivial⟩, by (try dsimp only); omega⟩
  · skip
    have t15 := ty_284_2 g_m1.1
    exact ⟨g_m1, by first | trivial | omega | (refine ⟨?_, ?_⟩ <;> omega)⟩
  · skip
    have t16 := ty_284_60 g_m1.1
    exact ⟨g_m1, by first | trivial | omega | (refine ⟨?_, ?_⟩ <;> omega)⟩
  · skip
    have t17 := ty_284_72 g_m1.1
    exact ⟨g_m1, by first | trivial | omega | (refine ⟨?_, ?_⟩ <;> omega)⟩
  · skip
    refine ⟨fun s0_228 => (s0_228 = 0 ∨ s0_228 = 1), ?_, ?_⟩
    · skip
      refine ⟨fun hq => ?_, fun hq => ?_⟩
      · skip
        (first | trivial | omega | (refine ⟨?_, ?_⟩ <;> omega))
      · skip
        (first | trivial | omega | (refine ⟨?_, ?_⟩ <;> omega))
    · intro s0_228 r_s0_228 hR_228
      refine ⟨fun s1_242 => (s1_242 = 0 ∨ s1_242 = 1), ?_, ?_⟩
      · skip
        refine ⟨fun hq => ?_, fun hq => ?_⟩
        · skip
          (first | trivial | omega | (refine ⟨?_, ?_⟩ <;> omega))
        · skip
          (first | trivial | omega | (refine ⟨?_, ?_⟩ <;> omega))
      · intro s1_242 r_s1_242 hR_242
        refine ⟨fun s1_257 => (s1_257 = 0 ∨ s1_257 = 1), ?_, ?_⟩
        · skip
          refine ⟨fun hq => ?_, fun hq => ?_⟩
          · skip
            (first | trivial | omega | (refine ⟨?_, ?_⟩ <;> omega))
          · skip
            (first | trivial | omega | (refine ⟨?_, ?_⟩ <;> omega))
        · intro s1_257 r_s1_257 hR_257
          try have w21 : wr (s0_228 + s1_242) = s0_228 + s1_242 := wr_id (by omega) (by omega)
          try have w22 : wr ((wr (s0_228 + s1_242)) + s1_257) = (wr (s0_228 + s1_242)) + s1_257 := wr_id (by omega) (by omega)
          exact ⟨g_m1, by first | trivial | omega | (refine ⟨?_, ?_⟩ <;> omega)⟩
  · skip
    have t23 := tr_323 g_m1.1 46
    have t24 := tr_323 g_m1.1 47
    try have w25 : wr ((rd m1 323 46) + (rd m1 323 47)) = (rd m1 323 46) + (rd m1 323 47) := wr_id (by omega) (by omega)
    have t26 := tr_323 g_m1.1 48
    try have w27 : wr ((wr ((rd m1 323 46) + (rd m1 323 47))) + (rd m1 323 48)) = (wr ((rd m1 323 46) + (rd m1 323 47))) + (rd m1 323 48) := wr_id (by omega) (by omega)
    exact ⟨g_m1, by first | trivial | omega | (refine ⟨?_, ?_⟩ <;> omega)⟩
  · skip
    refine ⟨fun x2_285 x3_285 => 0 ≤ x3_285 ∧ x3_285 ≤ 3, fun x2_285 x3_285 => Int.toNat (3 - x3_285), ?_, ?_⟩
    · (first | omega | (refine ⟨?_, ?_⟩ <;> omega) | trivial)
    · intro x2_285 x3_285 r_x2_285 r_x3_285 hI_285
      have t28 := ty_284_18 g_m1.1
      refine ⟨⟨by omega, by omega⟩, ?_⟩
      have t29 := ty_302 g_m1.1 (Int.toNat (rd m1 284 18))
      refine ⟨fun hq => ?_, fun hq => ?_⟩
      · skip
        exact ⟨g_m1, by first | trivial | omega | (refine ⟨?_, ?_⟩ <;> omega)⟩
      · skip
        try have w30 : wr (43 + x3_285) = 43 + x3_285 := wr_id (by omega) (by omega)
        refine ⟨⟨by omega, by omega⟩, ?_⟩
        have t31 := tr_323 g_m1.1 (Int.toNat (wr (43 + x3_285)))
        intro z2_311 e_z2_311
        have r_z2_311 : rg z2_311 := by rw [e_z2_311]; exact (io_rg _ _ _)
        try have w32 : wr (x3_285 + 1) = x3_285 + 1 := wr_id (by omega) (by omega)
        intro z3_312 e_z3_312
        have r_z3_312 : rg z3_312 := by rw [e_z3_312]; exact wr_rg _
        exact ⟨by first | omega | (refine ⟨?_, ?_⟩ <;> omega) | trivial, by (try dsimp only); omega⟩
  · skip
    refine ⟨fun x2_322 x3_322 m_322 => G m0 m_322 ∧ (0 ≤ x3_322 ∧ x3_322 ≤ 25), fun x2_322 x3_322 m_322 => Int.toNat (25 - x3_322), ?_, ?_⟩
    · exact ⟨g_m1, by first | omega | (refine ⟨?_, ?_⟩ <;> omega) | trivial⟩
    · intro x2_322 x3_322 m_322 r_x2_322 r_x3_322 hI_322
      obtain ⟨g_m_322, hI_322⟩ := hI_322
      refine CK.mono (ct_208   g_m_322.1 (MW_G p0 g_m_322)) (by decide) ?_
      rintro m324 v324 r_v324 ⟨e_m324, h_m324⟩
      replace e_m324 := e_m324.symm
      subst e_m324
      refine ⟨fun hq => ?_, fun hq => ?_⟩
      · skip
        exact ⟨g_m_322, by first | trivial | omega | (refine ⟨?_, ?_⟩ <;> omega)⟩
      · skip
        refine ⟨⟨by omega, by omega⟩, ?_⟩
        have t33 := tr_323 g_m_322.1 (Int.toNat x3_322)
        refine ⟨fun y2_347 => True, ?_, ?_⟩
        · skip
          refine ⟨fun hq => ?_, fun hq => ?_⟩
          · skip
            (first | trivial | omega | (refine ⟨?_, ?_⟩ <;> omega))
          · skip
            refine ⟨⟨by omega, by omega⟩, ?_⟩
            intro z2_346 e_z2_346
            have r_z2_346 : rg z2_346 := by rw [e_z2_346]; exact (rd_rg _ _ _)
            (first | trivial | omega | (refine ⟨?_, ?_⟩ <;> omega))
        · intro y2_347 r_y2_347 hR_347
          try have w34 : wr (x3_322 + 1) = x3_322 + 1 := wr_id (by omega) (by omega)
          intro z3_347 e_z3_347
          have r_z3_347 : rg z3_347 := by rw [e_z3_347]; exact wr_rg _
          exact ⟨⟨g_m_322, by first | omega | (refine ⟨?_, ?_⟩ <;> omega) | trivial⟩, by (try dsimp only); omega⟩
  · skip
    refine ⟨fun x2_357 x3_357 m_357 => G m0 m_357 ∧ (0 ≤ x3_357 ∧ x3_357 ≤ 3), fun x2_357 x3_357 m_357 => Int.toNat (3 - x3_357), ?_, ?_⟩
    · exact ⟨g_m1, by first | omega | (refine ⟨?_, ?_⟩ <;> omega) | trivial⟩
    · intro x2_357 x3_357 m_357 r_x2_357 r_x3_357 hI_357
      obtain ⟨g_m_357, hI_357⟩ := hI_357
      have t35 := ty_284_18 g_m_357.1
      refine ⟨⟨by omega, by omega⟩, ?_⟩
      have t36 := ty_302 g_m_357.1 (Int.toNat (rd m_357 284 18))
      refine ⟨fun hq => ?_, fun hq => ?_⟩
      · skip
        exact ⟨g_m_357, by first | trivial | omega | (refine ⟨?_, ?_⟩ <;> omega)⟩
      · skip
        refine CK.mono (ct_286   g_m_357.1 r_x3_357 (MW_G p0 g_m_357) (by omega)) (by decide) ?_
        rintro m372 v372 r_v372 ⟨e_m372, h_m372⟩
        replace e_m372 := e_m372.symm
        subst e_m372
        refine ⟨fun y2_384 => True, ?_, ?_⟩
        · skip
          refine ⟨fun hq => ?_, fun hq => ?_⟩
          · skip
            (first | trivial | omega | (refine ⟨?_, ?_⟩ <;> omega))
          · skip
            intro z2_383 e_z2_383
            have r_z2_383 : rg z2_383 := by rw [e_z2_383]; exact (io_rg _ _ _)
            (first | trivial | omega | (refine ⟨?_, ?_⟩ <;> omega))
        · intro y2_384 r_y2_384 hR_384
          try have w37 : wr (x3_357 + 1) = x3_357 + 1 := wr_id (by omega) (by omega)
          intro z3_384 e_z3_384
          have r_z3_384 : rg z3_384 := by rw [e_z3_384]; exact wr_rg _
          exact ⟨⟨g_m_357, by first | omega | (refine ⟨?_, ?_⟩ <;> omega) | trivial⟩, by (try dsimp only); omega⟩
  · skip
    have t38 := tr_323 g_m1.1 25
    have t39 := tr_323 g_m1.1 31
    try have w40 : wr ((rd m1 323 25) + (rd m1 323 31)) = (rd m1 323 25) + (rd m1 323 31) := wr_id (by omega) (by omega)
    have t41 := tr_323 g_m1.1 37
    try have w42 : wr ((wr ((rd m1 323 25) + (rd m1 323 31))) + (rd m1 323 37)) = (wr ((rd m1 323 25) + (rd m1 323 31))) + (rd m1 323 37) := wr_id (by omega) (by omega)
    exact ⟨g_m1, by first | trivial | omega | (refine ⟨?_, ?_⟩ <;> omega)⟩
  · skip
    exact ⟨g_m1, by first | trivial | omega | (refine ⟨?_, ?_⟩ <;> omega)⟩
