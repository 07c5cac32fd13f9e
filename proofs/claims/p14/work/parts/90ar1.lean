-- TippedCratesModel.tellOne()V
set_option maxRecDepth 20000 in
set_option maxHeartbeats 4000000 in
theorem mx_192b {m0 m : Mm}  {N : Int} {s : Ps} (g_m : PX m0 m)  (p0 : rdI m (rd m0 284 19)) (p1 : rd m 284 13 = 0) (p2 : tkN m0 N) (p3 : RM (tX m0) N (rd m0 284 19) (s) m) (p4 : rd m 287 (Int.toNat (rd m 284 11)) = 21) : CV 7 192 [.ref 284] m (fun m2 => PX m0 m2 ∧ ((rdP m m2 (rd m0 284 19)) ∧ (RM (tX m0) N (rd m0 284 19) (pStep (tX m0) s) m2))) := by
  refine br_192  ?_
  unfold P_192
  have hs := PX.s g_m
  have tt := ty_284_11 g_m.1
  have hw := p0.2.1
  have s1 : Int.toNat (rd m 284 19) = Int.toNat (rd m0 284 19) := by rw [hs.1]
  have PI := p0.2.2 p1
  have s302 : rd m 302 (Int.toNat (rd m 284 19)) = rd m 302 (Int.toNat (rd m0 284 19)) := by rw [s1]
  have t287 := ty_287 g_m.1 (Int.toNat (rd m 284 11))
  have s1z : s 0 1 = 0 := p3.1.1.symm.trans p1
  have s1t := (p3.1.2.2 s1z).1
  have D := p3.2.2 s1z
  have kx : kmR (tX m0 0 (s 0 0)) (rd m 287 (Int.toNat (rd m 284 11))) := by have q := (rm_k p3 p2 g_m p1).1; rw [s1t] at q; rw [s1t]; exact q
  have kv := (km_v kx).2.2.2.2.2.2.2.2.2
  have e295 : rd m 295 (Int.toNat (rd m 284 19)) = s 0 8 := by rw [s1]; exact D.1.2.2.2.1
  have e298 : rd m 298 (Int.toNat (rd m 284 19)) = s 0 9 := by rw [s1]; exact D.1.2.2.2.2.1
  have e302 : rd m 302 (Int.toNat (rd m 284 19)) = s 0 10 := by rw [s1]; exact D.1.2.2.2.2.2.1
  have kc : tX m0 0 (s 0 0) = 1 := by omega
  clear kv
  have t1 := ty_284_11 g_m.1
  refine ⟨⟨by omega, by omega⟩, ?_⟩
  have t2 := ty_287 g_m.1 (Int.toNat (rd m 284 11))
  refine ⟨fun m_411 => PX m0 m_411 ∧ ((rdP m m_411 (rd m0 284 19)) ∧ (RM (tX m0) N (rd m0 284 19) (pStep (tX m0) s) m_411)), ?_, ?_⟩
  · skip
    refine ⟨fun hq => ?_, fun hq => ?_, fun hq => ?_, fun hq => ?_, fun hq => ?_, fun hq => ?_, fun hq => ?_, fun hq => ?_, fun hq => ?_, fun hq => ?_⟩
    · exfalso; omega
    · skip
      have t3 := ty_284_19 g_m.1
      refine ⟨⟨by omega, by omega⟩, ?_⟩
      have t4 := ty_295 g_m.1 (Int.toNat (rd m 284 19))
      refine CV.mono (mx_191   g_m.1 (rd_rg _ _ _) (by unfold rg; decide) (by omega)) (by decide) ?_
      rintro m114 ⟨hx_m114, h_m114⟩
      have g_m114 : PX m0 m114 := PX.ft g_m hx_m114
      obtain ⟨h_m114, o_m114⟩ := h_m114
      have s114 : rd m114 284 19 = rd m0 284 19 := (PX.s g_m114).1
      have z114 : rd m114 295 (Int.toNat (rd m114 284 19)) = rd m 295 (Int.toNat (rd m 284 19)) := by rw [hx_m114.2.1 295 _ rfl, s114, hs.1]
      have r114 := ro_s p3 p2 g_m hx_m114 (K := 1) (fun _ _ h => km_n 1 (by decide) h (by decide)) (by decide) hq p1 o_m114
      obtain ⟨i_m114, n_m114, w_m114⟩ := h_m114
      have S_m114 : zst m m114 1 := ⟨fun q => ⟨p1, Int.le_of_eq (i_m114 q).2.2.2.symm⟩, fun q => w_m114.1.symm.trans q⟩
      refine ⟨fun hq => ?_, fun hq => ?_⟩
      · skip
        have t6 := ty_284_19 g_m114.1
        refine ⟨⟨by omega, by omega⟩, ?_⟩
        try have w7 : wr (8 * (rd m114 284 19)) = 8 * (rd m114 284 19) := wr_id (by omega) (by omega)
        have t8 := ty_295 g_m114.1 (Int.toNat (rd m114 284 19))
        try have w9 : wr ((wr (8 * (rd m114 284 19))) + (rd m114 295 (Int.toNat (rd m114 284 19)))) = (wr (8 * (rd m114 284 19))) + (rd m114 295 (Int.toNat (rd m114 284 19))) := wr_id (by omega) (by omega)
        intro z1_142 e_z1_142
        have r_z1_142 : rg z1_142 := by rw [e_z1_142]; exact (wr_rg _)
        refine CK.mono (mx_193   g_m114.1 (by unfold rg; decide) (by unfold rg; decide) (by omega) (by omega)) (by decide) ?_
        rintro m151 v151 r_v151 ⟨hx_m151, h_m151⟩
        have g_m151 : PX m0 m151 := PX.ft g_m114 hx_m151
        obtain ⟨h_m151, b_m151⟩ := h_m151
        have q114 := ro_ok r114 (by omega)
        have c151 := rm_I q114.2 p2 g_m114 hx_m151 b_m151
        have y114 : ¬ rd m 295 (Int.toNat (rd m 284 19)) = 8 := (i_m114 (by omega)).2.1
        clear i_m114 r114
        obtain ⟨v_m151, i_m151, n_m151, w_m151, d_m151, l_m151⟩ := h_m151
        replace l_m151 := l_m151 (by omega)
        have S_m151 : zst m114 m151 1 := ⟨fun q => ⟨(i_m151 q).1, Int.le_of_eq (i_m151 q).2.symm⟩, w_m151⟩
        clear i_m151 w_m151 d_m151
        refine ⟨⟨by omega, by omega⟩, ?_⟩
        intro m154 e_m154
        have g_m154 : PX m0 m154 := by rw [e_m154]; exact PX.wt g_m151 (tw_296 g_m151.1 ⟨by omega, by omega⟩) (inP_8 (by omega) (by omega))
        have m154_11 : rd m154 284 11 = rd m151 284 11 := by rw [e_m154, rd_wt, if_neg (by omega)]
        have m154_13 : rd m154 284 13 = rd m151 284 13 := by rw [e_m154, rd_wt, if_neg (by omega)]
        have m154_15 : rd m154 284 15 = rd m151 284 15 := by rw [e_m154, rd_wt, if_neg (by omega)]
        have m154_19 : rd m154 284 19 = rd m151 284 19 := by rw [e_m154, rd_wt, if_neg (by omega)]
        have iz : Int.toNat z1_142 = 8 * Int.toNat (rd m0 284 19) + Int.toNat (s 0 8) := by omega
        have k151 : sd s (pI (tX m0) 0 4 (pT (tX m0) 1 s)) := sd_t sd_T sd_I
        have r154 := rm_wd c151.1 (by omega) e_m154 (fun _ d => dM_wb d e_m154 (Or.inl ⟨Or.inl rfl, by rw [k151 0 8 (by omega)]; omega⟩))
        have S_m154 : zst m151 m154 0 := zst_w m154_11 m154_13 m154_15
        refine CK.mono (mx_193   g_m154.1 (by unfold rg; decide) (by unfold rg; decide) (by omega) (by omega)) (by decide) ?_
        rintro m163 v163 r_v163 ⟨hx_m163, h_m163⟩
        have g_m163 : PX m0 m163 := PX.ft g_m154 hx_m163
        obtain ⟨h_m163, b_m163⟩ := h_m163
        have c163 := rm_I r154 p2 g_m154 hx_m163 b_m163
        obtain ⟨v_m163, i_m163, n_m163, w_m163, d_m163, l_m163⟩ := h_m163
        replace l_m163 := l_m163 (by omega)
        have S_m163 : zst m154 m163 1 := ⟨fun q => ⟨(i_m163 q).1, Int.le_of_eq (i_m163 q).2.symm⟩, w_m163⟩
        clear i_m163 w_m163 d_m163
        refine ⟨⟨by omega, by omega⟩, ?_⟩
        intro m166 e_m166
        have g_m166 : PX m0 m166 := by rw [e_m166]; exact PX.wt g_m163 (tw_297 g_m163.1 ⟨by omega, by omega⟩) (inP_8 (by omega) (by omega))
        have m166_11 : rd m166 284 11 = rd m163 284 11 := by rw [e_m166, rd_wt, if_neg (by omega)]
        have m166_13 : rd m166 284 13 = rd m163 284 13 := by rw [e_m166, rd_wt, if_neg (by omega)]
        have m166_15 : rd m166 284 15 = rd m163 284 15 := by rw [e_m166, rd_wt, if_neg (by omega)]
        have m166_19 : rd m166 284 19 = rd m163 284 19 := by rw [e_m166, rd_wt, if_neg (by omega)]
        have k163 := sd_t k151 (sd_I (X := tX m0) (lo := 0) (hi := 4))
        have r166 := rm_wd c163.1 (by omega) e_m166 (fun _ d => dM_wb d e_m166 (Or.inl ⟨Or.inr rfl, by rw [k163 0 8 (by omega)]; omega⟩))
        have x166 : rd m166 296 (8 * Int.toNat (rd m0 284 19) + Int.toNat (s 0 8)) = v151 := by rw [e_m166, rd_wt, if_neg (by omega), hx_m163.2.1 296 _ rfl, e_m154, iz, rd_wt, if_pos ⟨rfl, rfl⟩, wr_i r_v151]
        have y166 : rd m166 297 (8 * Int.toNat (rd m0 284 19) + Int.toNat (s 0 8)) = v163 := by rw [e_m166, iz, rd_wt, if_pos ⟨rfl, rfl⟩, wr_i r_v163]
        have S_m166 : zst m163 m166 0 := zst_w m166_11 m166_13 m166_15
        refine CV.mono (mx_184   g_m166.1 (by unfold rg; decide) (by omega)) (by decide) ?_
        rintro m169 ⟨hx_m169, h_m169⟩
        have g_m169 : PX m0 m169 := PX.ft g_m166 hx_m169
        obtain ⟨h_m169, u_m169⟩ := h_m169
        have s169 : rd m169 284 19 = rd m0 284 19 := (PX.s g_m169).1
        have z169 : rd m169 295 (Int.toNat (rd m169 284 19)) = rd m 295 (Int.toNat (rd m 284 19)) := by rw [s169, hs.1, hx_m169.2.1 295 _ rfl, e_m166, rd_wt, if_neg (by omega), hx_m163.2.1 295 _ rfl, e_m154, rd_wt, if_neg (by omega), hx_m151.2.1 295 _ rfl, hx_m114.2.1 295 _ rfl]
        have fr169 : ∀ i j : Nat, ¬ (i = 284 ∧ (j = 11 ∨ j = 13 ∨ j = 14 ∨ j = 15 ∨ j = 16)) → ¬ (i = 296 ∨ i = 297) → rd m169 i j = rd m i j := fun i j a b => by rw [hx_m169.2.1 i j (sFt_no (by omega)), e_m166, rd_wt, if_neg (by omega), hx_m163.2.1 i j (sFt_no (by omega)), e_m154, rd_wt, if_neg (by omega), hx_m151.2.1 i j (sFt_no (by omega)), hx_m114.2.1 i j (sFt_no (by omega))]
        have r169 := rm_mu r166 p2 g_m166 hx_m169 (K := 59) (fun _ _ h => (km_v h).1) (by decide) u_m169
        obtain ⟨i_m169, n_m169, w_m169, k_m169⟩ := h_m169
        have S_m169 : zst m166 m169 1 := ⟨fun q => ⟨(i_m169 q).1, Int.le_of_eq (i_m169 q).2.2.2.symm⟩, fun q => w_m169.1.symm.trans q⟩
        clear i_m169
        have C_m169 : zst m m169 4 := (zst_t (f := 4) (zst_t (f := 3) (zst_t (f := 3) (zst_t (f := 2) (zst_t (f := 2) S_m114 S_m151) S_m154) S_m163) S_m166) S_m169)
        refine ⟨fun hq => ?_, fun hq => ?_⟩
        · skip
          exact ⟨g_m169, by exact ⟨by first | exact rp96 | exact rp191 | exact rp297 | exact rp352 | exact rp323 | exact rp408 | exact rd_bad (by omega) (by omega) (by omega), by first | exact sz_0 (by omega) r96 | exact sz_8 (by omega) r352 | exact sz_1 (by omega) r191 | exact sz_1 (by omega) (sh_f r169 (by omega) q114.1) | exact sz_2 (by omega) r297 | exact sz_2 (by omega) (pa_f r275 (by omega) q207.1) | exact sz_3 (by omega) (cr_y r312 r_m323) | exact sz_3 (by omega) (cr_n r312 (by omega)) | exact sz_d (by omega) r_m408⟩⟩
        · skip
          have t11 := ty_284_19 g_m169.1
          refine ⟨⟨by omega, by omega⟩, ?_⟩
          refine ⟨⟨by omega, by omega⟩, ?_⟩
          have t12 := ty_295 g_m169.1 (Int.toNat (rd m169 284 19))
          try have w13 : wr ((rd m169 295 (Int.toNat (rd m169 284 19))) + 1) = (rd m169 295 (Int.toNat (rd m169 284 19))) + 1 := wr_id (by omega) (by omega)
          intro m191 e_m191
          have g_m191 : PX m0 m191 := by rw [e_m191]; exact PX.wt g_m169 (tw_295 g_m169.1 ⟨by omega, by omega⟩) (inP_s (by omega) (by omega))
          have m191_11 : rd m191 284 11 = rd m169 284 11 := by rw [e_m191, rd_wt, if_neg (by omega)]
          have m191_13 : rd m191 284 13 = rd m169 284 13 := by rw [e_m191, rd_wt, if_neg (by omega)]
          have m191_15 : rd m191 284 15 = rd m169 284 15 := by rw [e_m191, rd_wt, if_neg (by omega)]
          have m191_19 : rd m191 284 19 = rd m169 284 19 := by rw [e_m191, rd_wt, if_neg (by omega)]
          have fr191 : ∀ i j : Nat, ¬ (i = 284 ∧ (j = 11 ∨ j = 13 ∨ j = 14 ∨ j = 15 ∨ j = 16)) → ¬ (295 ≤ i ∧ i ≤ 297) → rd m191 i j = rd m i j := fun i j a b => by rw [e_m191, rd_wt, if_neg (by omega), fr169 i j (by omega) (by omega)]
          have C_m191 : zst m m191 4 := zst_t C_m169 (zst_w m191_11 m191_13 m191_15)
          have rp191 : rdP m m191 (rd m0 284 19) := rd_keep p0 p1 (fun i j a b => fr191 i j (nf_20 a) (by omega)) (fun q => by have z := (C_m191.1 q).2; omega) (by omega) (by omega) (fun _ => by rw [fr191 284 20 (by omega) (by omega), fr191 302 _ (by omega) (by omega)]; exact PI.2.2.2.2.2.1) (fun h1 h2 => va_fr (PI.2.2.2.2.2.2.2 (C_m191.2 h2)) (fun i j a => fr191 i j (nf_f (j := j) a).1 (nf_f (j := j) a).2.2))
          have r191 : RM (tX m0) N (rd m0 284 19) (pT (tX m0) 59 (pShut (tX m0) s)) m191 := sh_e r169 (k163 0 8 (by omega)) (by omega) q114.1 (fun y => by rw [hx_m169.2.1 296 _ rfl]; exact x166.trans (c151.2 (pI_z y))) (fun y => by rw [hx_m169.2.1 297 _ rfl]; exact y166.trans (c163.2 y)) (by rw [e_m191, s169]) (by rw [← s169]; omega)
          exact ⟨g_m191, by exact ⟨by first | exact rp96 | exact rp191 | exact rp297 | exact rp352 | exact rp323 | exact rp408 | exact rd_bad (by omega) (by omega) (by omega), by first | exact sz_0 (by omega) r96 | exact sz_8 (by omega) r352 | exact sz_1 (by omega) r191 | exact sz_1 (by omega) (sh_f r169 (by omega) q114.1) | exact sz_2 (by omega) r297 | exact sz_2 (by omega) (pa_f r275 (by omega) q207.1) | exact sz_3 (by omega) (cr_y r312 r_m323) | exact sz_3 (by omega) (cr_n r312 (by omega)) | exact sz_d (by omega) r_m408⟩⟩
      · skip
        exact ⟨g_m114, by exact ⟨by first | exact hR_411 | exact rd_bad (by omega) (by omega) (by omega), by first | exact cR_411 | exact sz_1 (by omega) (sh_n r114 (by omega)) | exact sz_2 (by omega) (pa_n r207 (by omega)) | exact sz_x kx cR_394 (by omega) p1 (by omega)⟩⟩
    · exfalso; omega
    · exfalso; omega
    · exfalso; omega
    · exfalso; omega
    · exfalso; omega
    · exfalso; omega
    · exfalso; omega
    · exfalso; omega
  · intro m_411  hR_411
    obtain ⟨g_m_411, hR_411⟩ := hR_411
    obtain ⟨hR_411, cR_411⟩ := hR_411
    exact ⟨g_m_411, by exact ⟨by first | exact hR_411 | exact rd_bad (by omega) (by omega) (by omega), by first | exact cR_411 | exact sz_1 (by omega) (sh_n r114 (by omega)) | exact sz_2 (by omega) (pa_n r207 (by omega)) | exact sz_x kx cR_394 (by omega) p1 (by omega)⟩⟩
