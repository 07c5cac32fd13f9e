-- TippedCratesModel.tellOne()V
set_option maxRecDepth 20000 in
set_option maxHeartbeats 4000000 in
theorem mx_192c {m0 m : Mm}  {N : Int} {s : Ps} (g_m : PX m0 m)  (p0 : rdI m (rd m0 284 19)) (p1 : rd m 284 13 = 0) (p2 : tkN m0 N) (p3 : RM (tX m0) N (rd m0 284 19) (s) m) (p4 : rd m 287 (Int.toNat (rd m 284 11)) = 22) : CV 7 192 [.ref 284] m (fun m2 => PX m0 m2 ∧ ((rdP m m2 (rd m0 284 19)) ∧ (RM (tX m0) N (rd m0 284 19) (pStep (tX m0) s) m2))) := by
  refine br_192  ?_
  unfold P_192
  have hs := PX.s g_m
  have tt := ty_284_11 g_m.1
  have hw := p0.2.1
  have s1 : Int.toNat (rd m 284 19) = Int.toNat (rd m0 284 19) := by rw [hs.1]
  have PI := p0.2.2 p1
  have s302 : rd m 302 (Int.toNat (rd m 284 19)) = rd m 302 (Int.toNat (rd m0 284 19)) := by rw [s1]
  have t287 := ty_287 g_m.1 (Int.toNat (rd m 284 11))
  have s1z : s 0 1 = 0 := p3.1.1.symm.trans p1
  have s1t := (p3.1.2.2 s1z).1
  have D := p3.2.2 s1z
  have kx : kmR (tX m0 0 (s 0 0)) (rd m 287 (Int.toNat (rd m 284 11))) := by have q := (rm_k p3 p2 g_m p1).1; rw [s1t] at q; rw [s1t]; exact q
  have kv := (km_v kx).2.2.2.2.2.2.2.2.2
  have e295 : rd m 295 (Int.toNat (rd m 284 19)) = s 0 8 := by rw [s1]; exact D.1.2.2.2.1
  have e298 : rd m 298 (Int.toNat (rd m 284 19)) = s 0 9 := by rw [s1]; exact D.1.2.2.2.2.1
  have e302 : rd m 302 (Int.toNat (rd m 284 19)) = s 0 10 := by rw [s1]; exact D.1.2.2.2.2.2.1
  have kc : tX m0 0 (s 0 0) = 2 := by omega
  clear kv
  have t1 := ty_284_11 g_m.1
  refine ⟨⟨by omega, by omega⟩, ?_⟩
  have t2 := ty_287 g_m.1 (Int.toNat (rd m 284 11))
  refine ⟨fun m_411 => PX m0 m_411 ∧ ((rdP m m_411 (rd m0 284 19)) ∧ (RM (tX m0) N (rd m0 284 19) (pStep (tX m0) s) m_411)), ?_, ?_⟩
  · skip
    refine ⟨fun hq => ?_, fun hq => ?_, fun hq => ?_, fun hq => ?_, fun hq => ?_, fun hq => ?_, fun hq => ?_, fun hq => ?_, fun hq => ?_, fun hq => ?_⟩
    · exfalso; omega
    · exfalso; omega
    · skip
      have t3 := ty_284_19 g_m.1
      refine ⟨⟨by omega, by omega⟩, ?_⟩
      have t4 := ty_298 g_m.1 (Int.toNat (rd m 284 19))
      refine CV.mono (mx_191   g_m.1 (rd_rg _ _ _) (by unfold rg; decide) (by omega)) (by decide) ?_
      rintro m207 ⟨hx_m207, h_m207⟩
      have g_m207 : PX m0 m207 := PX.ft g_m hx_m207
      obtain ⟨h_m207, o_m207⟩ := h_m207
      have s207 : rd m207 284 19 = rd m0 284 19 := (PX.s g_m207).1
      have z207 : rd m207 298 (Int.toNat (rd m207 284 19)) = rd m 298 (Int.toNat (rd m 284 19)) := by rw [hx_m207.2.1 298 _ rfl, s207, hs.1]
      have r207 := ro_s p3 p2 g_m hx_m207 (K := 2) (fun _ _ h => km_n 2 (by decide) h (by decide)) (by decide) hq p1 o_m207
      obtain ⟨i_m207, n_m207, w_m207⟩ := h_m207
      have S_m207 : zst m m207 1 := ⟨fun q => ⟨p1, Int.le_of_eq (i_m207 q).2.2.2.symm⟩, fun q => w_m207.1.symm.trans q⟩
      refine ⟨fun hq => ?_, fun hq => ?_⟩
      · skip
        have t6 := ty_284_19 g_m207.1
        refine ⟨⟨by omega, by omega⟩, ?_⟩
        try have w7 : wr (10 * (rd m207 284 19)) = 10 * (rd m207 284 19) := wr_id (by omega) (by omega)
        have t8 := ty_298 g_m207.1 (Int.toNat (rd m207 284 19))
        try have w9 : wr ((wr (10 * (rd m207 284 19))) + (rd m207 298 (Int.toNat (rd m207 284 19)))) = (wr (10 * (rd m207 284 19))) + (rd m207 298 (Int.toNat (rd m207 284 19))) := wr_id (by omega) (by omega)
        intro z1_235 e_z1_235
        have r_z1_235 : rg z1_235 := by rw [e_z1_235]; exact (wr_rg _)
        refine CK.mono (mx_193   g_m207.1 (by unfold rg; decide) (by unfold rg; decide) (by omega) (by omega)) (by decide) ?_
        rintro m244 v244 r_v244 ⟨hx_m244, h_m244⟩
        have g_m244 : PX m0 m244 := PX.ft g_m207 hx_m244
        obtain ⟨h_m244, b_m244⟩ := h_m244
        have q207 := ro_ok r207 (by omega)
        have c244 := rm_I q207.2 p2 g_m207 hx_m244 b_m244
        have y207 : ¬ rd m 298 (Int.toNat (rd m 284 19)) = 10 := (i_m207 (by omega)).2.1
        clear i_m207 r207
        obtain ⟨v_m244, i_m244, n_m244, w_m244, d_m244, l_m244⟩ := h_m244
        replace l_m244 := l_m244 (by omega)
        have S_m244 : zst m207 m244 1 := ⟨fun q => ⟨(i_m244 q).1, Int.le_of_eq (i_m244 q).2.symm⟩, w_m244⟩
        clear i_m244 w_m244 d_m244
        refine ⟨⟨by omega, by omega⟩, ?_⟩
        intro m247 e_m247
        have g_m247 : PX m0 m247 := by rw [e_m247]; exact PX.wt g_m244 (tw_299 g_m244.1 ⟨by omega, by omega⟩) (inP_10 (by omega) (by omega))
        have m247_11 : rd m247 284 11 = rd m244 284 11 := by rw [e_m247, rd_wt, if_neg (by omega)]
        have m247_13 : rd m247 284 13 = rd m244 284 13 := by rw [e_m247, rd_wt, if_neg (by omega)]
        have m247_15 : rd m247 284 15 = rd m244 284 15 := by rw [e_m247, rd_wt, if_neg (by omega)]
        have m247_19 : rd m247 284 19 = rd m244 284 19 := by rw [e_m247, rd_wt, if_neg (by omega)]
        have iz : Int.toNat z1_235 = 10 * Int.toNat (rd m0 284 19) + Int.toNat (s 0 9) := by omega
        have k244 : sd s (pI (tX m0) 0 4 (pT (tX m0) 2 s)) := sd_t sd_T sd_I
        have r247 := rm_wd c244.1 (by omega) e_m247 (fun _ d => dM_wb d e_m247 (Or.inr (Or.inl ⟨Or.inl rfl, by rw [k244 0 9 (by omega)]; omega⟩)))
        have S_m247 : zst m244 m247 0 := zst_w m247_11 m247_13 m247_15
        refine CK.mono (mx_193   g_m247.1 (by unfold rg; decide) (by unfold rg; decide) (by omega) (by omega)) (by decide) ?_
        rintro m256 v256 r_v256 ⟨hx_m256, h_m256⟩
        have g_m256 : PX m0 m256 := PX.ft g_m247 hx_m256
        obtain ⟨h_m256, b_m256⟩ := h_m256
        have c256 := rm_I r247 p2 g_m247 hx_m256 b_m256
        obtain ⟨v_m256, i_m256, n_m256, w_m256, d_m256, l_m256⟩ := h_m256
        replace l_m256 := l_m256 (by omega)
        have S_m256 : zst m247 m256 1 := ⟨fun q => ⟨(i_m256 q).1, Int.le_of_eq (i_m256 q).2.symm⟩, w_m256⟩
        clear i_m256 w_m256 d_m256
        refine ⟨⟨by omega, by omega⟩, ?_⟩
        intro m259 e_m259
        have g_m259 : PX m0 m259 := by rw [e_m259]; exact PX.wt g_m256 (tw_300 g_m256.1 ⟨by omega, by omega⟩) (inP_10 (by omega) (by omega))
        have m259_11 : rd m259 284 11 = rd m256 284 11 := by rw [e_m259, rd_wt, if_neg (by omega)]
        have m259_13 : rd m259 284 13 = rd m256 284 13 := by rw [e_m259, rd_wt, if_neg (by omega)]
        have m259_15 : rd m259 284 15 = rd m256 284 15 := by rw [e_m259, rd_wt, if_neg (by omega)]
        have m259_19 : rd m259 284 19 = rd m256 284 19 := by rw [e_m259, rd_wt, if_neg (by omega)]
        have k256 := sd_t k244 (sd_I (X := tX m0) (lo := 0) (hi := 4))
        have r259 := rm_wd c256.1 (by omega) e_m259 (fun _ d => dM_wb d e_m259 (Or.inr (Or.inl ⟨Or.inr (Or.inl rfl), by rw [k256 0 9 (by omega)]; omega⟩)))
        have S_m259 : zst m256 m259 0 := zst_w m259_11 m259_13 m259_15
        refine CK.mono (mx_193   g_m259.1 (by unfold rg; decide) (by unfold rg; decide) (by omega) (by omega)) (by decide) ?_
        rintro m269 v269 r_v269 ⟨hx_m269, h_m269⟩
        have g_m269 : PX m0 m269 := PX.ft g_m259 hx_m269
        obtain ⟨h_m269, b_m269⟩ := h_m269
        have c269 := rm_I r259 p2 g_m259 hx_m269 b_m269
        obtain ⟨v_m269, i_m269, n_m269, w_m269, d_m269, l_m269⟩ := h_m269
        replace l_m269 := l_m269 (by omega)
        have S_m269 : zst m259 m269 1 := ⟨fun q => ⟨(i_m269 q).1, Int.le_of_eq (i_m269 q).2.symm⟩, w_m269⟩
        have D_m269 : bdQ m269 v269 0 9 := d_m269
        clear i_m269 w_m269 d_m269
        refine ⟨⟨by omega, by omega⟩, ?_⟩
        intro m272 e_m272
        have g_m272 : PX m0 m272 := by rw [e_m272]; exact PX.wt g_m269 (tw_301 g_m269.1 ⟨by omega, by omega⟩) (inP_10 (by omega) (by omega))
        have m272_11 : rd m272 284 11 = rd m269 284 11 := by rw [e_m272, rd_wt, if_neg (by omega)]
        have m272_13 : rd m272 284 13 = rd m269 284 13 := by rw [e_m272, rd_wt, if_neg (by omega)]
        have m272_15 : rd m272 284 15 = rd m269 284 15 := by rw [e_m272, rd_wt, if_neg (by omega)]
        have m272_19 : rd m272 284 19 = rd m269 284 19 := by rw [e_m272, rd_wt, if_neg (by omega)]
        have k269 := sd_t k256 (sd_I (X := tX m0) (lo := 0) (hi := 9))
        have r272 := rm_wd c269.1 (by omega) e_m272 (fun _ d => dM_wb d e_m272 (Or.inr (Or.inl ⟨Or.inr (Or.inr rfl), by rw [k269 0 9 (by omega)]; omega⟩)))
        have x272 : rd m272 299 (10 * Int.toNat (rd m0 284 19) + Int.toNat (s 0 9)) = v244 := by rw [e_m272, rd_wt, if_neg (by omega), hx_m269.2.1 299 _ rfl, e_m259, rd_wt, if_neg (by omega), hx_m256.2.1 299 _ rfl, e_m247, iz, rd_wt, if_pos ⟨rfl, rfl⟩, wr_i r_v244]
        have y272 : rd m272 300 (10 * Int.toNat (rd m0 284 19) + Int.toNat (s 0 9)) = v256 := by rw [e_m272, rd_wt, if_neg (by omega), hx_m269.2.1 300 _ rfl, e_m259, iz, rd_wt, if_pos ⟨rfl, rfl⟩, wr_i r_v256]
        have w272 : rd m272 301 (10 * Int.toNat (rd m0 284 19) + Int.toNat (s 0 9)) = v269 := by rw [e_m272, iz, rd_wt, if_pos ⟨rfl, rfl⟩, wr_i r_v269]
        have S_m272 : zst m269 m272 0 := zst_w m272_11 m272_13 m272_15
        refine CV.mono (mx_184   g_m272.1 (by unfold rg; decide) (by omega)) (by decide) ?_
        rintro m275 ⟨hx_m275, h_m275⟩
        have g_m275 : PX m0 m275 := PX.ft g_m272 hx_m275
        obtain ⟨h_m275, u_m275⟩ := h_m275
        have s275 : rd m275 284 19 = rd m0 284 19 := (PX.s g_m275).1
        have z275 : rd m275 298 (Int.toNat (rd m275 284 19)) = rd m 298 (Int.toNat (rd m 284 19)) := by rw [s275, hs.1, hx_m275.2.1 298 _ rfl, e_m272, rd_wt, if_neg (by omega), hx_m269.2.1 298 _ rfl, e_m259, rd_wt, if_neg (by omega), hx_m256.2.1 298 _ rfl, e_m247, rd_wt, if_neg (by omega), hx_m244.2.1 298 _ rfl, hx_m207.2.1 298 _ rfl]
        have fr275 : ∀ i j : Nat, ¬ (i = 284 ∧ (j = 11 ∨ j = 13 ∨ j = 14 ∨ j = 15 ∨ j = 16)) → ¬ (i = 299 ∨ i = 300) → ¬ (i = 301 ∧ j = Int.toNat z1_235) → rd m275 i j = rd m i j := fun i j a b c => by rw [hx_m275.2.1 i j (sFt_no (by omega)), e_m272, rd_wt, if_neg (by omega), hx_m269.2.1 i j (sFt_no (by omega)), e_m259, rd_wt, if_neg (by omega), hx_m256.2.1 i j (sFt_no (by omega)), e_m247, rd_wt, if_neg (by omega), hx_m244.2.1 i j (sFt_no (by omega)), hx_m207.2.1 i j (sFt_no (by omega))]
        have k275 : rd m275 301 (Int.toNat z1_235) = v269 := by rw [hx_m275.2.1 301 _ rfl, e_m272, rd_wt, if_pos ⟨rfl, rfl⟩, wr_id (by omega) (by omega)]
        have r275 := rm_mu r272 p2 g_m272 hx_m275 (K := 59) (fun _ _ h => (km_v h).1) (by decide) u_m275
        obtain ⟨i_m275, n_m275, w_m275, k_m275⟩ := h_m275
        have S_m275 : zst m272 m275 1 := ⟨fun q => ⟨(i_m275 q).1, Int.le_of_eq (i_m275 q).2.2.2.symm⟩, fun q => w_m275.1.symm.trans q⟩
        clear i_m275
        have C_m275 : zst m m275 5 := (zst_t (f := 5) (zst_t (f := 4) (zst_t (f := 4) (zst_t (f := 3) (zst_t (f := 3) (zst_t (f := 2) (zst_t (f := 2) S_m207 S_m244) S_m247) S_m256) S_m259) S_m269) S_m272) S_m275)
        have E_m269 : zst m269 m275 1 := (zst_t (f := 1) S_m272 S_m275)
        refine ⟨fun hq => ?_, fun hq => ?_⟩
        · skip
          exact ⟨g_m275, by exact ⟨by first | exact rp96 | exact rp191 | exact rp297 | exact rp352 | exact rp323 | exact rp408 | exact rd_bad (by omega) (by omega) (by omega), by first | exact sz_0 (by omega) r96 | exact sz_8 (by omega) r352 | exact sz_1 (by omega) r191 | exact sz_1 (by omega) (sh_f r169 (by omega) q114.1) | exact sz_2 (by omega) r297 | exact sz_2 (by omega) (pa_f r275 (by omega) q207.1) | exact sz_3 (by omega) (cr_y r312 r_m323) | exact sz_3 (by omega) (cr_n r312 (by omega)) | exact sz_d (by omega) r_m408⟩⟩
        · skip
          have t11 := ty_284_19 g_m275.1
          refine ⟨⟨by omega, by omega⟩, ?_⟩
          refine ⟨⟨by omega, by omega⟩, ?_⟩
          have t12 := ty_298 g_m275.1 (Int.toNat (rd m275 284 19))
          try have w13 : wr ((rd m275 298 (Int.toNat (rd m275 284 19))) + 1) = (rd m275 298 (Int.toNat (rd m275 284 19))) + 1 := wr_id (by omega) (by omega)
          intro m297 e_m297
          have g_m297 : PX m0 m297 := by rw [e_m297]; exact PX.wt g_m275 (tw_298 g_m275.1 ⟨by omega, by omega⟩) (inP_s (by omega) (by omega))
          have m297_11 : rd m297 284 11 = rd m275 284 11 := by rw [e_m297, rd_wt, if_neg (by omega)]
          have m297_13 : rd m297 284 13 = rd m275 284 13 := by rw [e_m297, rd_wt, if_neg (by omega)]
          have m297_15 : rd m297 284 15 = rd m275 284 15 := by rw [e_m297, rd_wt, if_neg (by omega)]
          have m297_19 : rd m297 284 19 = rd m275 284 19 := by rw [e_m297, rd_wt, if_neg (by omega)]
          have fr297 : ∀ i j : Nat, ¬ (i = 284 ∧ (j = 11 ∨ j = 13 ∨ j = 14 ∨ j = 15 ∨ j = 16)) → ¬ (298 ≤ i ∧ i ≤ 300) → ¬ (i = 301 ∧ j = Int.toNat z1_235) → rd m297 i j = rd m i j := fun i j a b c => by rw [e_m297, rd_wt, if_neg (by omega), fr275 i j (by omega) (by omega) (by omega)]
          have z298 : rd m 298 (Int.toNat (rd m 284 19)) = rd m 298 (Int.toNat (rd m0 284 19)) := by rw [s1]
          have e8 : rd m297 298 (Int.toNat (rd m0 284 19)) = rd m 298 (Int.toNat (rd m0 284 19)) + 1 := by rw [e_m297, s275, rd_wt, if_pos ⟨rfl, rfl⟩, wr_i (wr_rg _), fr275 298 _ (by omega) (by omega) (by omega), wr_id (by omega) (by omega)]
          have k297 : rd m297 301 (Int.toNat z1_235) = v269 := by rw [e_m297, rd_wt, if_neg (by omega), k275]
          have S_m297 : zst m275 m297 0 := zst_w m297_11 m297_13 m297_15
          have C_m297 : zst m m297 5 := zst_t C_m275 S_m297
          have F_m269 : zst m269 m297 1 := zst_t E_m269 S_m297
          have rp297 : rdP m m297 (rd m0 284 19) := rd_keep p0 p1 (fun i j a b => fr297 i j (nf_20 a) (by omega) (by omega)) (fun q => by have z := (C_m297.1 q).2; omega) (by omega) (by omega) (fun _ => by rw [fr297 284 20 (by omega) (by omega) (by omega), fr297 302 _ (by omega) (by omega) (by omega)]; exact PI.2.2.2.2.2.1) (fun h1 h2 => va_p (z := z1_235) (PI.2.2.2.2.2.2.2 (C_m297.2 h2)) (fun i j a b => fr297 i j (nf_p (j := j) a).1 (nf_p (j := j) a).2 b) e8 (by omega) (by rw [k297]; exact (D_m269 (F_m269.1 h1).1 (F_m269.2 h2)).2))
          have r297 : RM (tX m0) N (rd m0 284 19) (pT (tX m0) 59 (pPaint (tX m0) s)) m297 := pa_e r275 (k269 0 9 (by omega)) (by omega) q207.1 (fun y => by rw [hx_m275.2.1 299 _ rfl]; exact x272.trans (c244.2 (pI_z (pI_z y)))) (fun y => by rw [hx_m275.2.1 300 _ rfl]; exact y272.trans (c256.2 (pI_z y))) (fun y => by rw [hx_m275.2.1 301 _ rfl]; exact w272.trans (c269.2 y)) (by rw [e_m297, s275]) (by rw [← s275]; omega)
          exact ⟨g_m297, by exact ⟨by first | exact rp96 | exact rp191 | exact rp297 | exact rp352 | exact rp323 | exact rp408 | exact rd_bad (by omega) (by omega) (by omega), by first | exact sz_0 (by omega) r96 | exact sz_8 (by omega) r352 | exact sz_1 (by omega) r191 | exact sz_1 (by omega) (sh_f r169 (by omega) q114.1) | exact sz_2 (by omega) r297 | exact sz_2 (by omega) (pa_f r275 (by omega) q207.1) | exact sz_3 (by omega) (cr_y r312 r_m323) | exact sz_3 (by omega) (cr_n r312 (by omega)) | exact sz_d (by omega) r_m408⟩⟩
      · skip
        exact ⟨g_m207, by exact ⟨by first | exact hR_411 | exact rd_bad (by omega) (by omega) (by omega), by first | exact cR_411 | exact sz_1 (by omega) (sh_n r114 (by omega)) | exact sz_2 (by omega) (pa_n r207 (by omega)) | exact sz_x kx cR_394 (by omega) p1 (by omega)⟩⟩
    · exfalso; omega
    · exfalso; omega
    · exfalso; omega
    · exfalso; omega
    · exfalso; omega
    · exfalso; omega
    · exfalso; omega
  · intro m_411  hR_411
    obtain ⟨g_m_411, hR_411⟩ := hR_411
    obtain ⟨hR_411, cR_411⟩ := hR_411
    exact ⟨g_m_411, by exact ⟨by first | exact hR_411 | exact rd_bad (by omega) (by omega) (by omega), by first | exact cR_411 | exact sz_1 (by omega) (sh_n r114 (by omega)) | exact sz_2 (by omega) (pa_n r207 (by omega)) | exact sz_x kx cR_394 (by omega) p1 (by omega)⟩⟩
