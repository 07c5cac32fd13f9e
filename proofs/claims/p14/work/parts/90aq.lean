-- TippedCratesModel.tellCrate()V
set_option maxRecDepth 20000 in
set_option maxHeartbeats 4000000 in
theorem mx_194 {m0 m : Mm}  {N : Int} {s : Ps} (g_m : PX m0 m)  (p0 : rd m 284 13 = 0) (p1 : rd m 302 (Int.toNat (rd m0 284 19)) ≤ 2) (p2 : rd m 284 20 = rd m 302 (Int.toNat (rd m0 284 19))) (p3 : 0 ≤ rd m 284 15) (p4 : tkN m0 N) (p5 : RM (tX m0) N (rd m0 284 19) (s) m) : CV 4 194 [.ref 284] m (fun m2 => PX m0 m2 ∧ ((tcP m m2 (rd m0 284 19)) ∧ (RM (tX m0) N (rd m0 284 19) (pT (tX m0) 59 (pCr (tX m0) s)) m2))) := by
  refine br_194  ?_
  unfold P_194
  have hs := PX.s g_m
  have tt := ty_284_11 g_m.1
  have t302 := ty_302 g_m.1 (Int.toNat (rd m0 284 19))
  have es : rd m 302 (Int.toNat (rd m 284 19)) = rd m 302 (Int.toNat (rd m0 284 19)) := by rw [hs.1]
  have s1z : s 0 1 = 0 := p5.1.1.symm.trans p0
  have s1t := (p5.1.2.2 s1z).1
  have en : rd m 302 (Int.toNat (rd m0 284 19)) = s 0 10 := (p5.2.2 s1z).1.2.2.2.2.2.1
  have t1 := ty_284_19 g_m.1
  refine ⟨⟨by omega, by omega⟩, ?_⟩
  try have w2 : wr (3 * (rd m 284 19)) = 3 * (rd m 284 19) := wr_id (by omega) (by omega)
  have t3 := ty_302 g_m.1 (Int.toNat (rd m 284 19))
  try have w4 : wr ((wr (3 * (rd m 284 19))) + (rd m 302 (Int.toNat (rd m 284 19)))) = (wr (3 * (rd m 284 19))) + (rd m 302 (Int.toNat (rd m 284 19))) := wr_id (by omega) (by omega)
  intro z1_16 e_z1_16
  have r_z1_16 : rg z1_16 := by rw [e_z1_16]; exact (wr_rg _)
  have z1b : 6 * z1_16 = 18 * rd m0 284 19 + 6 * rd m 302 (Int.toNat (rd m0 284 19)) ∧ z1_16 = 3 * rd m0 284 19 + rd m 302 (Int.toNat (rd m0 284 19)) := by omega
  have t5 := ty_284_11 g_m.1
  intro z2_21 e_z2_21
  have r_z2_21 : rg z2_21 := by rw [e_z2_21]; exact (rd_rg _ _ _)
  refine CV.mono (mx_184   g_m.1 (by unfold rg; decide) (by omega)) (by decide) ?_
  rintro m24 ⟨hx_m24, h_m24⟩
  have g_m24 : PX m0 m24 := PX.ft g_m hx_m24
  obtain ⟨h_m24, u_m24⟩ := h_m24
  have tc24 : tcI m m24 0 z1_16 := tc_0 hx_m24 (by omega) (by omega) (by omega) (fun h => by have := h_m24.1 h; omega)
  have r24 := rm_mu p5 p4 g_m hx_m24 (K := 21) (fun _ _ h => (km_v h).2.2.2.2.2.1) (by decide) u_m24
  have z24 : z2_21 = s 0 0 := by omega
  refine ⟨fun x3_29 m_29 => PX m0 m_29 ∧ (((0 ≤ x3_29 ∧ x3_29 ≤ 3) ∧ tcI m m_29 0 z1_16) ∧ (x3_29 ≤ s 0 10 ∧ RM (tX m0) N (rd m0 284 19) (nmI (tX m0) s (Int.toNat x3_29)) m_29)), fun x3_29 m_29 => Int.toNat (3 - x3_29), ?_, ?_⟩
  · exact ⟨g_m24, by exact ⟨by exact ⟨by omega, tc24⟩, by exact ⟨by have := ty_302 g_m.1 (Int.toNat (rd m0 284 19)); omega, r24⟩⟩⟩
  · intro x3_29 m_29 r_x3_29 hI_29
    obtain ⟨g_m_29, hI_29⟩ := hI_29
    obtain ⟨hI_29, cI_29⟩ := hI_29
    have f29 := hI_29.2.2.1
    have w29 := hI_29.2.2.2.1
    have t29 := ty_284_20 g_m_29.1
    have t6 := ty_284_20 g_m_29.1
    refine ⟨rd m_29 284 20 ≤ x3_29 ∨ ¬ rd m_29 284 13 = 0, ?_, ?_⟩
    · skip
      refine ⟨fun hq => ?_, fun hq => ?_⟩
      · skip
        (omega)
      · skip
        refine ⟨fun hq => ?_, fun hq => ?_⟩
        · skip
          (omega)
        · skip
          refine ⟨⟨by omega, by omega⟩, ?_⟩
          refine ⟨⟨by omega, by omega⟩, ?_⟩
          refine ⟨fun m_66 => PX m0 m_66 ∧ ((tcI m m_66 0 z1_16) ∧ (RM (tX m0) N (rd m0 284 19) (nmI (tX m0) s (Int.toNat x3_29 + 1)) m_66)), ?_, ?_⟩
          · skip
            refine ⟨fun hq => ?_, fun hq => ?_⟩
            · skip
              exact ⟨g_m_29, by exact ⟨by first | exact hI_29.2 | exact tc63, by first | exact nn_y cI_29.2 p5.2.1 p4 g_m_29 (by omega) s1z z24 (by omega) (by have q := hI_29.2.1 284 20 (by omega) (by omega) (by omega); omega) (lcm_z.mp hq) hx_m63 h_m63.1 w_m63 | exact nn_n cI_29.2 p5.2.1 p4 g_m_29 (by omega) s1z z24 (by omega) (by have q := hI_29.2.1 284 20 (by omega) (by omega) (by omega); omega) (fun w => hq (lcm_z.mpr w))⟩⟩
            · skip
              refine CV.mono (mx_182   g_m_29.1 (by unfold rg; decide) r_z2_21 (by omega) (by omega) (by omega)) (by decide) ?_
              rintro m63 ⟨hx_m63, h_m63⟩
              have g_m63 : PX m0 m63 := PX.ft g_m_29 hx_m63
              obtain ⟨h_m63, w_m63⟩ := h_m63
              have tc63 : tcI m m63 0 z1_16 := tc_ft hI_29.2 hx_m63 (by omega) (by omega) (by omega) (fun h => by omega)
              exact ⟨g_m63, by exact ⟨by first | exact hI_29.2 | exact tc63, by first | exact nn_y cI_29.2 p5.2.1 p4 g_m_29 (by omega) s1z z24 (by omega) (by have q := hI_29.2.1 284 20 (by omega) (by omega) (by omega); omega) (lcm_z.mp hq) hx_m63 h_m63.1 w_m63 | exact nn_n cI_29.2 p5.2.1 p4 g_m_29 (by omega) s1z z24 (by omega) (by have q := hI_29.2.1 284 20 (by omega) (by omega) (by omega); omega) (fun w => hq (lcm_z.mpr w))⟩⟩
          · intro m_66  hR_66
            obtain ⟨g_m_66, hR_66⟩ := hR_66
            obtain ⟨hR_66, cR_66⟩ := hR_66
            try have w8 : wr (x3_29 + 1) = x3_29 + 1 := wr_id (by omega) (by omega)
            intro z3_66 e_z3_66
            have r_z3_66 : rg z3_66 := by rw [e_z3_66]; exact wr_rg _
            exact ⟨⟨g_m_66, by exact ⟨by exact ⟨by omega, hR_66⟩, by exact ⟨by have q := hI_29.2.1 284 20 (by omega) (by omega) (by omega); omega, by rw [show Int.toNat z3_66 = Int.toNat x3_29 + 1 by omega]; exact cR_66⟩⟩⟩, by (try dsimp only); omega⟩
    · intro   hR_72
      refine CK.mono (mx_193   g_m_29.1 (by unfold rg; decide) (by unfold rg; decide) (by omega) (by omega)) (by decide) ?_
      rintro m80 v80 r_v80 ⟨hx_m80, h_m80⟩
      have g_m80 : PX m0 m80 := PX.ft g_m_29 hx_m80
      obtain ⟨h_m80, b_m80⟩ := h_m80
      have tc80 : tcI m m80 0 z1_16 := tc_ft hI_29.2 hx_m80 (by omega) (by omega) (by omega) (fun h => by omega)
      have r29 : RM (tX m0) N (rd m0 284 19) (pN (tX m0) s) m_29 := nn_e cI_29.2 s1z (by have q := hI_29.2.1 284 20 (by omega) (by omega) (by omega); omega)
      have c80 := rm_I r29 p4 g_m_29 hx_m80 b_m80
      refine ⟨⟨by omega, by omega⟩, ?_⟩
      intro m83 e_m83
      have g_m83 : PX m0 m83 := by rw [e_m83]; exact PX.wt g_m80 (tw_303 g_m80.1 ⟨by omega, by omega⟩) (inP_3 (by omega) (by omega))
      have tc83 : tcI m m83 0 z1_16 := tc_wt tc80 (Or.inl rfl) e_m83
      have f83 := tc83.2.1
      have w83 := tc83.2.2.1
      have i83 : Int.toNat z1_16 = 3 * Int.toNat (rd m0 284 19) + Int.toNat (s 0 10) := by omega
      have k80 : sd s (pI (tX m0) 0 4 (pN (tX m0) s)) := sd_t sd_N sd_I
      have r83 := rm_wd c80.1 (by omega) e_m83 (fun _ d => dM_wb d e_m83 (Or.inr (Or.inr (Or.inl ⟨Or.inl rfl, by rw [k80 0 10 (by omega)]; omega⟩))))
      refine CK.mono (mx_193   g_m83.1 (by unfold rg; decide) (by unfold rg; decide) (by omega) (by omega)) (by decide) ?_
      rintro m92 v92 r_v92 ⟨hx_m92, h_m92⟩
      have g_m92 : PX m0 m92 := PX.ft g_m83 hx_m92
      obtain ⟨h_m92, b_m92⟩ := h_m92
      have tc92 : tcI m m92 0 z1_16 := tc_ft tc83 hx_m92 (by omega) (by omega) (by omega) (fun h => by omega)
      have c92 := rm_I r83 p4 g_m83 hx_m92 b_m92
      refine ⟨⟨by omega, by omega⟩, ?_⟩
      intro m95 e_m95
      have g_m95 : PX m0 m95 := by rw [e_m95]; exact PX.wt g_m92 (tw_304 g_m92.1 ⟨by omega, by omega⟩) (inP_3 (by omega) (by omega))
      have tc95 : tcI m m95 0 z1_16 := tc_wt tc92 (Or.inr rfl) e_m95
      have k92 : sd s (pC4 (tX m0) s) := sd_t k80 sd_I
      have r95 : RM (tX m0) N (rd m0 284 19) (pC4 (tX m0) s) m95 := rm_wd c92.1 (by omega) e_m95 (fun _ d => dM_wb d e_m95 (Or.inr (Or.inr (Or.inl ⟨Or.inr rfl, by rw [k92 0 10 (by omega)]; omega⟩))))
      have x95 : rd m95 303 (3 * Int.toNat (rd m0 284 19) + Int.toNat (s 0 10)) = v80 := by rw [e_m95, rd_wt, if_neg (by omega), hx_m92.2.1 303 _ rfl, e_m83, i83, rd_wt, if_pos ⟨rfl, rfl⟩, wr_i r_v80]
      have y95 : rd m95 304 (3 * Int.toNat (rd m0 284 19) + Int.toNat (s 0 10)) = v92 := by rw [e_m95, i83, rd_wt, if_pos ⟨rfl, rfl⟩, wr_i r_v92]
      have f95 : RM (tX m0) N (rd m0 284 19) (pC4 (tX m0) s) m95 ∧ cmW (tX m0) s (Int.toNat (rd m0 284 19)) (Int.toNat (s 0 10)) m95 0 := ⟨r95, fun y => (fun (y2 : pC4 (tX m0) s 0 1 = 0) => ⟨x95.trans (c80.2 (pI_z y2)), y95.trans (c92.2 y2), fun j hj => absurd hj (Nat.not_lt_zero j)⟩) y⟩
      refine ⟨fun x3_98 m_98 => PX m0 m_98 ∧ (((0 ≤ x3_98 ∧ x3_98 ≤ 6) ∧ tcI m m_98 x3_98 z1_16) ∧ (RM (tX m0) N (rd m0 284 19) (pIs (tX m0) (pC4 (tX m0) s) (Int.toNat x3_98)) m_98 ∧ cmW (tX m0) s (Int.toNat (rd m0 284 19)) (Int.toNat (s 0 10)) m_98 (Int.toNat x3_98))), fun x3_98 m_98 => Int.toNat (6 - x3_98), ?_, ?_⟩
      · exact ⟨g_m95, by exact ⟨by exact ⟨by omega, tc95⟩, by exact f95⟩⟩
      · intro x3_98 m_98 r_x3_98 hI_98
        obtain ⟨g_m_98, hI_98⟩ := hI_98
        obtain ⟨hI_98, cI_98⟩ := hI_98
        have f98 := hI_98.2.2.1
        have w98 := hI_98.2.2.2.1
        refine ⟨fun hq => ?_, fun hq => ?_⟩
        · skip
          refine CV.mono (mx_184   g_m_98.1 (by unfold rg; decide) (by omega)) (by decide) ?_
          rintro m130 ⟨hx_m130, h_m130⟩
          have g_m130 : PX m0 m130 := PX.ft g_m_98 hx_m130
          obtain ⟨h_m130, u_m130⟩ := h_m130
          have tc130 : tcI m m130 x3_98 z1_16 := tc_ft hI_98.2 hx_m130 (by omega) (by omega) (by omega) (fun h => by have := h_m130.1 h; omega)
          have n130 : rd m130 284 20 = rd m 284 20 := tc130.1 284 20 (by omega) (by omega) (by omega)
          have s130 : rd m130 284 19 = rd m0 284 19 := (PX.s g_m130).1
          have c130 := cI_98
          have r130 := rm_mu c130.1 p4 g_m_98 hx_m130 (K := 59) (fun _ _ h => (km_v h).1) (by decide) u_m130
          refine ⟨fun hq => ?_, fun hq => ?_⟩
          · skip
            refine ⟨⟨by omega, by omega⟩, ?_⟩
            have t10 := ty_284_20 g_m130.1
            refine ⟨⟨by omega, by omega⟩, ?_⟩
            intro m155 e_m155
            have g_m155 : PX m0 m155 := by rw [e_m155]; exact PX.wl g_m130
            have n155 : rd m155 284 20 = rd m 284 20 := by rw [e_m155, rd_wl]; exact n130
            have t11 := ty_284_20 g_m155.1
            try have w12 : wr ((rd m155 284 20) + 1) = (rd m155 284 20) + 1 := wr_id (by omega) (by omega)
            intro m163 e_m163
            have g_m163 : PX m0 m163 := by rw [e_m163]; exact PX.wt g_m155 (tw_284_20 g_m155.1 ⟨by omega, by omega⟩) (inP_284 (by omega))
            have s163 : rd m163 284 19 = rd m0 284 19 := (PX.s g_m163).1
            have k163 : rd m163 302 (Int.toNat (rd m163 284 19)) = rd m 302 (Int.toNat (rd m0 284 19)) := by rw [s163, e_m163, rd_wt, if_neg (by omega), e_m155, rd_wl]; exact tc130.1 302 _ (by omega) (by omega) (by omega)
            have t13 := ty_284_19 g_m163.1
            refine ⟨⟨by omega, by omega⟩, ?_⟩
            refine ⟨⟨by omega, by omega⟩, ?_⟩
            have t14 := ty_302 g_m163.1 (Int.toNat (rd m163 284 19))
            try have w15 : wr ((rd m163 302 (Int.toNat (rd m163 284 19))) + 1) = (rd m163 302 (Int.toNat (rd m163 284 19))) + 1 := wr_id (by omega) (by omega)
            intro m178 e_m178
            have g_m178 : PX m0 m178 := by rw [e_m178]; exact PX.wt g_m163 (tw_302 g_m163.1 ⟨by omega, by omega⟩) (inP_s (by omega) (by omega))
            rw [show Int.toNat x3_98 = 6 by omega] at r130 c130
            have r178 : RM (tX m0) N (rd m0 284 19) (pT (tX m0) 59 (pCr (tX m0) s)) m178 := cr_e r130 c130.2 p4 g_m130 hx_m130 (by omega) s1z z24 (by omega) (by omega) e_m155 e_m163 e_m178 n130 s163 (by omega) p5.2.1
            exact ⟨g_m178, by exact ⟨by first | exact tc_f tc130 (by omega) (by omega) | exact tc_e tc130 (by omega) (by omega) z1b p1 p2 (by omega) e_m155 e_m163 e_m178 s163 k163, by first | exact r178 | (rw [show Int.toNat x3_98 = 6 by omega] at r130; exact cr_f r130 (by omega))⟩⟩
          · skip
            exact ⟨g_m130, by exact ⟨by first | exact tc_f tc130 (by omega) (by omega) | exact tc_e tc130 (by omega) (by omega) z1b p1 p2 (by omega) e_m155 e_m163 e_m178 s163 k163, by first | exact r178 | (rw [show Int.toNat x3_98 = 6 by omega] at r130; exact cr_f r130 (by omega))⟩⟩
        · skip
          refine CK.mono (mx_193   g_m_98.1 (by unfold rg; decide) (by unfold rg; decide) (by omega) (by omega)) (by decide) ?_
          rintro m118 v118 r_v118 ⟨hx_m118, h_m118⟩
          have g_m118 : PX m0 m118 := PX.ft g_m_98 hx_m118
          obtain ⟨h_m118, b_m118⟩ := h_m118
          have tc118 : tcI m m118 x3_98 z1_16 := tc_ft hI_98.2 hx_m118 (by omega) (by omega) (by omega) (fun h => by omega)
          have c118 := rm_I cI_98.1 p4 g_m_98 hx_m118 b_m118
          try have w16 : wr (6 * z1_16) = 6 * z1_16 := wr_id (by omega) (by omega)
          try have w17 : wr ((wr (6 * z1_16)) + x3_98) = (wr (6 * z1_16)) + x3_98 := wr_id (by omega) (by omega)
          refine ⟨⟨by omega, by omega⟩, ?_⟩
          intro m121 e_m121
          have g_m121 : PX m0 m121 := by rw [e_m121]; exact PX.wt g_m118 (tw_305 g_m118.1 ⟨by omega, by omega⟩) (inP_18 (by omega) (by omega))
          have tc121 : tcI m m121 (x3_98 + 1) z1_16 := tc_5 tc118 (by omega) e_m121 (by omega) (by omega) (fun h1 h2 => by omega)
          have i121 : Int.toNat (wr ((wr (6 * z1_16)) + x3_98)) = 18 * Int.toNat (rd m0 284 19) + 6 * Int.toNat (s 0 10) + Int.toNat x3_98 := by omega
          have k118 : sd s (pIs (tX m0) (pC4 (tX m0) s) (Int.toNat x3_98 + 1)) := sd_t (sd_t (sd_t sd_N sd_I) sd_I) (sd_Is _)
          have r121 : RM (tX m0) N (rd m0 284 19) (pIs (tX m0) (pC4 (tX m0) s) (Int.toNat x3_98 + 1)) m121 := rm_wd c118.1 (by omega) e_m121 (fun _ d => dM_wb d e_m121 (Or.inr (Or.inr (Or.inr ⟨rfl, by rw [k118 0 10 (by omega)]; omega⟩))))
          have f121 : cmW (tX m0) s (Int.toNat (rd m0 284 19)) (Int.toNat (s 0 10)) m121 (Int.toNat x3_98 + 1) := fun y => cw_s (cI_98.2 (pI_z y)) hx_m118 e_m121 i121 r_v118 (c118.2 y)
          try have w18 : wr (x3_98 + 1) = x3_98 + 1 := wr_id (by omega) (by omega)
          intro z3_122 e_z3_122
          have r_z3_122 : rg z3_122 := by rw [e_z3_122]; exact wr_rg _
          exact ⟨⟨g_m121, by exact ⟨by exact ⟨by omega, by rw [e_z3_122, wr_id (by omega) (by omega)]; exact tc121⟩, by (rw [show Int.toNat z3_122 = Int.toNat x3_98 + 1 by omega]; exact ⟨r121, f121⟩)⟩⟩, by (try dsimp only); omega⟩
