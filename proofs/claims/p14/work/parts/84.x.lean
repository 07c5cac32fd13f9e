-- TippedCratesModel.cut()V
set_option maxRecDepth 20000 in
theorem ct_178 {m0 m : Mm}   (g_m : DX m0 m)   : CV 3 178 [.ref 284] m (fun m2 => DX m0 m2 ∧ (True)) := by
  refine br_178  ?_
  unfold P_178
  have ts := ty_284_4 g_m.1
  intro m2 e_m2
  have g_m2 : DX m0 m2 := by rw [e_m2]; exact DX.wt g_m (tw_284_10 g_m.1 ⟨by omega, by omega⟩) (Eq.refl true)
  have n2 : rd m2 284 10 = 0 := by rw [e_m2, rd_wt, if_pos ⟨rfl, rfl⟩]; rfl
  have s2 : rd m2 284 4 = rd m 284 4 := by rw [e_m2, rd_wt, if_neg (by omega)]
  refine ⟨fun x1_7 m_7 => DX m0 m_7 ∧ ((0 ≤ x1_7 ∧ x1_7 ≤ rd m_7 284 4 ∧ rd m_7 284 4 ≤ 2000) ∧ rd m_7 284 10 ≤ 401), fun x1_7 m_7 => Int.toNat (2000 - x1_7) + Int.toNat (402 - rd m_7 284 10), ?_, ?_⟩
  · exact ⟨g_m2, by first | omega | (refine ⟨?_, ?_⟩ <;> omega) | trivial⟩
  · intro x1_7 m_7 r_x1_7 hI_7
    obtain ⟨g_m_7, hI_7⟩ := hI_7
    have t10 := ty_284_10 g_m_7.1
    have t1 := ty_284_10 g_m_7.1
    refine ⟨fun hq => ?_, fun hq => ?_⟩
    · skip
      exact ⟨g_m_7, by first | trivial | omega | (refine ⟨?_, ?_⟩ <;> omega)⟩
    · skip
      refine CK.mono (ct_172   g_m_7.1 r_x1_7 (by omega)) (by decide) ?_
      rintro m19 v19 r_v19 ⟨e_m19, h_m19⟩
      replace e_m19 := e_m19.symm
      subst e_m19
      have t2 := ty_284_4 g_m_7.1
      refine ⟨fun hq => ?_, fun hq => ?_⟩
      · skip
        refine ⟨fun y1_291 m_291 => DX m0 m_291 ∧ ((x1_7 ≤ y1_291 ∧ y1_291 ≤ rd m_7 284 4) ∧ rd m_291 284 4 = rd m_7 284 4 ∧ rd m_291 284 10 ≤ 401 + 1 ∧ ((x1_7 < y1_291 ∧ rd m_291 284 10 = rd m_7 284 10) ∨ (rd m_291 284 10 = rd m_7 284 10 + 1))), ?_, ?_⟩
        · skip
          refine ⟨True, ?_, ?_⟩
          · skip
            refine ⟨fun hq => ?_, fun hq => ?_⟩
            · skip
              (first | trivial | omega | (refine ⟨?_, ?_⟩ <;> omega))
            · skip
              refine ⟨fun hq => ?_, fun hq => ?_⟩
              · skip
                (first | trivial | omega | (refine ⟨?_, ?_⟩ <;> omega))
              · skip
                refine ⟨fun hq => ?_, fun hq => ?_⟩
                · skip
                  (first | trivial | omega | (refine ⟨?_, ?_⟩ <;> omega))
                · skip
                  refine ⟨fun hq => ?_, fun hq => ?_⟩
                  · skip
                    refine CK.mono (ct_174   r_v19) (by decide) ?_
                    rintro m74 v74 r_v74 ⟨e_m74, h_m74⟩
                    replace e_m74 := e_m74.symm
                    subst e_m74
                    refine ⟨fun hq => ?_, fun hq => ?_⟩
                    · skip
                      refine CK.mono (ct_173   r_v19) (by decide) ?_
                      rintro m197 v197 r_v197 ⟨e_m197, h_m197⟩
                      replace e_m197 := e_m197.symm
                      subst e_m197
                      refine ⟨fun hq => ?_, fun hq => ?_⟩
                      · skip
                        try have w3 : wr (x1_7 + 1) = x1_7 + 1 := wr_id (by omega) (by omega)
                        refine CK.mono (ct_172   g_m_7.1 (wr_rg _) (by omega)) (by decide) ?_
                        rintro m283 v283 r_v283 ⟨e_m283, h_m283⟩
                        replace e_m283 := e_m283.symm
                        subst e_m283
                        refine CK.mono (ct_179   g_m_7 r_x1_7 r_v19 r_v283 (by omega)) (by decide) ?_
                        rintro m286 v286 r_v286 ⟨g_m286, h_m286⟩
                        have zm286 : rd m286 284 4 = rd m_7 284 4 := (g_m286.2.1 284 4 rfl).trans (g_m_7.2.1 284 4 rfl).symm
                        try have w4 : wr (x1_7 + v286) = x1_7 + v286 := wr_id (by omega) (by omega)
                        intro z1_290 e_z1_290
                        have r_z1_290 : rg z1_290 := by rw [e_z1_290]; exact (wr_rg _)
                        exact ⟨g_m286, by first | trivial | omega | (refine ⟨?_, ?_⟩ <;> omega)⟩
                      · skip
                        refine ⟨fun x3_208 x4_208 m_208 => DX m0 m_208 ∧ ((0 ≤ x3_208 ∧ x1_7 + x3_208 ≤ rd m_7 284 4) ∧ (0 ≤ x4_208 ∧ (x3_208 ≤ 0 → x4_208 ≤ 0) ∧ (x3_208 ≤ 1 → x4_208 ≤ 9) ∧ (x3_208 ≤ 2 → x4_208 ≤ 99) ∧ (x3_208 ≤ 3 → x4_208 ≤ 999) ∧ x4_208 ≤ 9999) ∧ rd m_208 284 10 = rd m_7 284 10 ∧ rd m_208 284 4 = rd m_7 284 4), fun x3_208 x4_208 m_208 => Int.toNat (2000 - x3_208), ?_, ?_⟩
                        · exact ⟨g_m_7, by first | omega | (refine ⟨?_, ?_⟩ <;> omega) | trivial⟩
                        · intro x3_208 x4_208 m_208 r_x3_208 r_x4_208 hI_208
                          obtain ⟨g_m_208, hI_208⟩ := hI_208
                          try have w5 : wr (x1_7 + x3_208) = x1_7 + x3_208 := wr_id (by omega) (by omega)
                          refine CK.mono (ct_172   g_m_208.1 (wr_rg _) (by omega)) (by decide) ?_
                          rintro m212 v212 r_v212 ⟨e_m212, h_m212⟩
                          replace e_m212 := e_m212.symm
                          subst e_m212
                          refine CK.mono (ct_173   r_v212) (by decide) ?_
                          rintro m215 v215 r_v215 ⟨e_m215, h_m215⟩
                          replace e_m215 := e_m215.symm
                          subst e_m215
                          refine ⟨fun hq => ?_, fun hq => ?_⟩
                          · skip
                            refine ⟨fun s1_261 => (s1_261 = 2 ∨ s1_261 = 3), ?_, ?_⟩
                            · skip
                              refine ⟨fun hq => ?_, fun hq => ?_⟩
                              · skip
                                (first | trivial | omega | (refine ⟨?_, ?_⟩ <;> omega))
                              · skip
                                (first | trivial | omega | (refine ⟨?_, ?_⟩ <;> omega))
                            · intro s1_261 r_s1_261 hR_261
                              refine CV.mono (ct_177   g_m_208 r_s1_261 r_x1_7 r_x4_208 (by unfold rgl; decide) (by omega) (by omega) (by omega)) (by decide) ?_
                              rintro m265 ⟨g_m265, h_m265⟩
                              have zm265 : rd m265 284 4 = rd m_7 284 4 := (g_m265.2.1 284 4 rfl).trans (g_m_7.2.1 284 4 rfl).symm
                              intro z1_271 e_z1_271
                              have r_z1_271 : rg z1_271 := by rw [e_z1_271]; exact (wr_rg _)
                              exact ⟨g_m265, by first | trivial | omega | (refine ⟨?_, ?_⟩ <;> omega)⟩
                          · skip
                            refine ⟨fun y4_244 m_244 => DX m0 m_244 ∧ ((0 ≤ y4_244 ∧ ((x3_208 + 1) ≤ 0 → y4_244 ≤ 0) ∧ ((x3_208 + 1) ≤ 1 → y4_244 ≤ 9) ∧ ((x3_208 + 1) ≤ 2 → y4_244 ≤ 99) ∧ ((x3_208 + 1) ≤ 3 → y4_244 ≤ 999) ∧ y4_244 ≤ 9999) ∧ rd m_244 284 10 = rd m_7 284 10 ∧ rd m_244 284 4 = rd m_7 284 4), ?_, ?_⟩
                            · skip
                              refine ⟨fun hq => ?_, fun hq => ?_⟩
                              · skip
                                exact ⟨g_m_208, by first | trivial | omega | (refine ⟨?_, ?_⟩ <;> omega)⟩
                              · skip
                                refine CK.mono (ct_172   g_m_208.1 (wr_rg _) (by omega)) (by decide) ?_
                                rintro m235 v235 r_v235 ⟨e_m235, h_m235⟩
                                replace e_m235 := e_m235.symm
                                subst e_m235
                                try have w6 : wr (10 * x4_208) = 10 * x4_208 := wr_id (by omega) (by omega)
                                try have w7 : wr ((wr (10 * x4_208)) + v235) = (wr (10 * x4_208)) + v235 := wr_id (by omega) (by omega)
                                try have w8 : wr ((wr ((wr (10 * x4_208)) + v235)) - 48) = (wr ((wr (10 * x4_208)) + v235)) - 48 := wr_id (by omega) (by omega)
                                intro z4_242 e_z4_242
                                have r_z4_242 : rg z4_242 := by rw [e_z4_242]; exact (wr_rg _)
                                exact ⟨g_m_208, by first | trivial | omega | (refine ⟨?_, ?_⟩ <;> omega)⟩
                            · intro y4_244 m_244 r_y4_244 hR_244
                              obtain ⟨g_m_244, hR_244⟩ := hR_244
                              try have w9 : wr (x3_208 + 1) = x3_208 + 1 := wr_id (by omega) (by omega)
                              intro z3_244 e_z3_244
                              have r_z3_244 : rg z3_244 := by rw [e_z3_244]; exact wr_rg _
                              exact ⟨⟨g_m_244, by first | omega | (refine ⟨?_, ?_⟩ <;> omega) | trivial⟩, by (try dsimp only); omega⟩
                    · skip
                      refine ⟨fun x3_85 x4_85 m_85 => DX m0 m_85 ∧ ((0 ≤ x3_85 ∧ x1_7 + x3_85 ≤ rd m_7 284 4) ∧ rd m_85 284 10 = rd m_7 284 10 ∧ rd m_85 284 4 = rd m_7 284 4), fun x3_85 x4_85 m_85 => Int.toNat (2000 - x3_85), ?_, ?_⟩
                      · exact ⟨g_m_7, by first | omega | (refine ⟨?_, ?_⟩ <;> omega) | trivial⟩
                      · intro x3_85 x4_85 m_85 r_x3_85 r_x4_85 hI_85
                        obtain ⟨g_m_85, hI_85⟩ := hI_85
                        try have w10 : wr (x1_7 + x3_85) = x1_7 + x3_85 := wr_id (by omega) (by omega)
                        refine CK.mono (ct_172   g_m_85.1 (wr_rg _) (by omega)) (by decide) ?_
                        rintro m89 v89 r_v89 ⟨e_m89, h_m89⟩
                        replace e_m89 := e_m89.symm
                        subst e_m89
                        refine CK.mono (ct_174   r_v89) (by decide) ?_
                        rintro m92 v92 r_v92 ⟨e_m92, h_m92⟩
                        replace e_m92 := e_m92.symm
                        subst e_m92
                        refine ⟨fun hq => ?_, fun hq => ?_⟩
                        · skip
                          refine ⟨fun s0_135 => (s0_135 = 1 ∨ s0_135 = 3), ?_, ?_⟩
                          · skip
                            refine ⟨fun hq => ?_, fun hq => ?_⟩
                            · skip
                              (first | trivial | omega | (refine ⟨?_, ?_⟩ <;> omega))
                            · skip
                              (first | trivial | omega | (refine ⟨?_, ?_⟩ <;> omega))
                          · intro s0_135 r_s0_135 hR_135
                            refine ⟨fun y6_179 => 0 ≤ y6_179 ∧ y6_179 ≤ 40, ?_, ?_⟩
                            · skip
                              refine ⟨fun hq => ?_, fun hq => ?_⟩
                              · skip
                                (first | trivial | omega | (refine ⟨?_, ?_⟩ <;> omega))
                              · skip
                                refine ⟨fun x6_146 x7_146 => (0 ≤ x7_146 ∧ x7_146 ≤ 21) ∧ 0 ≤ x6_146 ∧ x6_146 ≤ 40, fun x6_146 x7_146 => Int.toNat (21 - x7_146), ?_, ?_⟩
                                · (first | omega | (refine ⟨?_, ?_⟩ <;> omega) | trivial)
                                · intro x6_146 x7_146 r_x6_146 r_x7_146 hI_146
                                  refine ⟨fun hq => ?_, fun hq => ?_⟩
                                  · skip
                                    (first | trivial | omega | (refine ⟨?_, ?_⟩ <;> omega))
                                  · skip
                                    refine ⟨⟨by omega, by omega⟩, ?_⟩
                                    refine ⟨fun y6_173 => 0 ≤ y6_173 ∧ y6_173 ≤ 40, ?_, ?_⟩
                                    · skip
                                      refine ⟨fun hq => ?_, fun hq => ?_⟩
                                      · skip
                                        (first | trivial | omega | (refine ⟨?_, ?_⟩ <;> omega))
                                      · skip
                                        try have w11 : wr (20 + x7_146) = 20 + x7_146 := wr_id (by omega) (by omega)
                                        intro z6_171 e_z6_171
                                        have r_z6_171 : rg z6_171 := by rw [e_z6_171]; exact (wr_rg _)
                                        (first | trivial | omega | (refine ⟨?_, ?_⟩ <;> omega))
                                    · intro y6_173 r_y6_173 hR_173
                                      try have w12 : wr (x7_146 + 1) = x7_146 + 1 := wr_id (by omega) (by omega)
                                      intro z7_173 e_z7_173
                                      have r_z7_173 : rg z7_173 := by rw [e_z7_173]; exact wr_rg _
                                      exact ⟨by first | omega | (refine ⟨?_, ?_⟩ <;> omega) | trivial, by (try dsimp only); omega⟩
                            · intro y6_179 r_y6_179 hR_179
                              refine CV.mono (ct_177   g_m_85 r_y6_179 r_x1_7 (by unfold rg; decide) r_x4_85 (by omega) (by omega) (by omega)) (by decide) ?_
                              rintro m186 ⟨g_m186, h_m186⟩
                              have zm186 : rd m186 284 4 = rd m_7 284 4 := (g_m186.2.1 284 4 rfl).trans (g_m_7.2.1 284 4 rfl).symm
                              intro z1_192 e_z1_192
                              have r_z1_192 : rg z1_192 := by rw [e_z1_192]; exact (wr_rg _)
                              exact ⟨g_m186, by first | trivial | omega | (refine ⟨?_, ?_⟩ <;> omega)⟩
                        · skip
                          refine ⟨fun y4_118 m_118 => DX m0 m_118 ∧ (rd m_118 284 10 = rd m_7 284 10 ∧ rd m_118 284 4 = rd m_7 284 4), ?_, ?_⟩
                          · skip
                            refine ⟨fun hq => ?_, fun hq => ?_⟩
                            · skip
                              exact ⟨g_m_85, by first | trivial | omega | (refine ⟨?_, ?_⟩ <;> omega)⟩
                            · skip
                              refine CK.mono (ct_172   g_m_85.1 (wr_rg _) (by omega)) (by decide) ?_
                              rintro m110 v110 r_v110 ⟨e_m110, h_m110⟩
                              replace e_m110 := e_m110.symm
                              subst e_m110
                              refine CL.mono (ct_175   r_x4_85 r_v110) (by decide) ?_
                              rintro m113 v113 r_v113 ⟨e_m113, h_m113⟩
                              replace e_m113 := e_m113.symm
                              subst e_m113
                              exact ⟨g_m_85, by first | trivial | omega | (refine ⟨?_, ?_⟩ <;> omega)⟩
                          · intro y4_118 m_118 r_y4_118 hR_118
                            obtain ⟨g_m_118, hR_118⟩ := hR_118
                            try have w13 : wr (x3_85 + 1) = x3_85 + 1 := wr_id (by omega) (by omega)
                            intro z3_118 e_z3_118
                            have r_z3_118 : rg z3_118 := by rw [e_z3_118]; exact wr_rg _
                            exact ⟨⟨g_m_118, by first | omega | (refine ⟨?_, ?_⟩ <;> omega) | trivial⟩, by (try dsimp only); omega⟩
                  · skip
                    (first | trivial | omega | (refine ⟨?_, ?_⟩ <;> omega))
          · intro   hR_67
            try have w14 : wr (x1_7 + 1) = x1_7 + 1 := wr_id (by omega) (by omega)
            intro z1_67 e_z1_67
            have r_z1_67 : rg z1_67 := by rw [e_z1_67]; exact wr_rg _
            exact ⟨g_m_7, by first | trivial | omega | (refine ⟨?_, ?_⟩ <;> omega)⟩
        · intro y1_291 m_291 r_y1_291 hR_291
          obtain ⟨g_m_291, hR_291⟩ := hR_291
          exact ⟨⟨g_m_291, by first | omega | (refine ⟨?_, ?_⟩ <;> omega) | trivial⟩, by (try dsimp only); omega⟩
      · skip
        refine CV.mono (ct_177   g_m_7 (by unfold rg; decide) (rd_rg _ _ _) (by unfold rg; decide) (by unfold rgl; decide) (by omega) (by omega) (by omega)) (by decide) ?_
        rintro m39 ⟨g_m39, h_m39⟩
        exact ⟨g_m39, by first | trivial | omega | (refine ⟨?_, ?_⟩ <;> omega)⟩
