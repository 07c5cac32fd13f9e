-- TippedCratesModel.tellOne()V
set_option maxRecDepth 20000 in
set_option maxHeartbeats 4000000 in
theorem mz_192i {m0 m : Mm}  {N : Int} {s : Ps} (g_m : PX m0 m)  (p0 : rdI m (rd m0 284 19)) (p1 : rd m 284 13 = 0) (p2 : tkN m0 N) (p3 : RM (tX m0) N (rd m0 284 19) (s) m) (p4 : rd m 287 (Int.toNat (rd m 284 11)) = 28) : CV 7 192 [.ref 284] m (fun m2 => PX m0 m2 ∧ (((rdP m m2 (rd m0 284 19)) ∧ (RM (tX m0) N (rd m0 284 19) (pStep (tX m0) s) m2)) ∧ (lqM m0 m m2 (rd m0 284 19)))) := by
  refine br_192  ?_
  unfold P_192
  have hs := PX.s g_m
  have tt := ty_284_11 g_m.1
  have hw := p0.2.1
  have s1 : Int.toNat (rd m 284 19) = Int.toNat (rd m0 284 19) := by rw [hs.1]
  have PI := p0.2.2 p1
  have s302 : rd m 302 (Int.toNat (rd m 284 19)) = rd m 302 (Int.toNat (rd m0 284 19)) := by rw [s1]
  have t287 := ty_287 g_m.1 (Int.toNat (rd m 284 11))
  have s1z : s 0 1 = 0 := p3.1.1.symm.trans p1
  have s1t := (p3.1.2.2 s1z).1
  have D := p3.2.2 s1z
  have kx : kmR (tX m0 0 (s 0 0)) (rd m 287 (Int.toNat (rd m 284 11))) := by have q := (rm_k p3 p2 g_m p1).1; rw [s1t] at q; rw [s1t]; exact q
  have kv := (km_v kx).2.2.2.2.2.2.2.2.2
  have e295 : rd m 295 (Int.toNat (rd m 284 19)) = s 0 8 := by rw [s1]; exact D.1.2.2.2.1
  have e298 : rd m 298 (Int.toNat (rd m 284 19)) = s 0 9 := by rw [s1]; exact D.1.2.2.2.2.1
  have e302 : rd m 302 (Int.toNat (rd m 284 19)) = s 0 10 := by rw [s1]; exact D.1.2.2.2.2.2.1
  have kc : tX m0 0 (s 0 0) = 8 := by omega
  clear kv
  have t1 := ty_284_11 g_m.1
  refine ⟨⟨by omega, by omega⟩, ?_⟩
  have t2 := ty_287 g_m.1 (Int.toNat (rd m 284 11))
  refine ⟨fun m_411 => PX m0 m_411 ∧ (((rdP m m_411 (rd m0 284 19)) ∧ (RM (tX m0) N (rd m0 284 19) (pStep (tX m0) s) m_411)) ∧ (lqM m0 m m_411 (rd m0 284 19))), ?_, ?_⟩
  · skip
    refine ⟨fun hq => ?_, fun hq => ?_, fun hq => ?_, fun hq => ?_, fun hq => ?_, fun hq => ?_, fun hq => ?_, fun hq => ?_, fun hq => ?_, fun hq => ?_⟩
    · exfalso; omega
    · exfalso; omega
    · exfalso; omega
    · exfalso; omega
    · exfalso; omega
    · exfalso; omega
    · exfalso; omega
    · exfalso; omega
    · skip
      refine CV.mono (ct_183   g_m.1 (by omega)) (by decide) ?_
      rintro m330 ⟨hx_m330, h_m330⟩
      have g_m330 : PX m0 m330 := PX.ft g_m hx_m330
      have s330 : rd m330 284 19 = rd m0 284 19 := (PX.s g_m330).1
      have r330 := rm_go p3 p2 g_m hx_m330 (K := 8) (fun _ _ h => km_n 8 (by decide) h (by decide)) (by decide) hq p1 h_m330
      have n_m330 : 0 ≤ rd m330 284 13 := by omega
      have S_m330 : zst m m330 1 := ⟨fun q => ⟨p1, by omega⟩, fun q => by omega⟩
      have w_m330 := h_m330.2
      clear h_m330
      refine CK.mono (mx_193   g_m330.1 (by unfold rg; decide) (by unfold rg; decide) (by omega) (by omega)) (by decide) ?_
      rintro m346 v346 r_v346 ⟨hx_m346, h_m346⟩
      have g_m346 : PX m0 m346 := PX.ft g_m330 hx_m346
      obtain ⟨h_m346, b_m346⟩ := h_m346
      have c346 := rm_I r330 p2 g_m330 hx_m346 b_m346
      obtain ⟨v_m346, i_m346, n_m346, w_m346, d_m346, l_m346⟩ := h_m346
      replace l_m346 := l_m346 (by omega)
      have S_m346 : zst m330 m346 1 := ⟨fun q => ⟨(i_m346 q).1, Int.le_of_eq (i_m346 q).2.symm⟩, w_m346⟩
      clear i_m346 w_m346 d_m346
      have t3 := ty_284_19 g_m330.1
      refine ⟨⟨by omega, by omega⟩, ?_⟩
      intro m349 e_m349
      have g_m349 : PX m0 m349 := by rw [e_m349]; exact PX.wt g_m346 (tw_306 g_m346.1 ⟨by omega, by omega⟩) (inP_s (by omega) (by omega))
      have m349_11 : rd m349 284 11 = rd m346 284 11 := by rw [e_m349, rd_wt, if_neg (by omega)]
      have m349_13 : rd m349 284 13 = rd m346 284 13 := by rw [e_m349, rd_wt, if_neg (by omega)]
      have m349_15 : rd m349 284 15 = rd m346 284 15 := by rw [e_m349, rd_wt, if_neg (by omega)]
      have m349_19 : rd m349 284 19 = rd m346 284 19 := by rw [e_m349, rd_wt, if_neg (by omega)]
      have r349 : RM (tX m0) N (rd m0 284 19) (pSeed (tX m0) s) m349 := rm_f7 c346.1 (by rw [e_m349, s330]) r_v346 c346.2
      have S_m349 : zst m346 m349 0 := zst_w m349_11 m349_13 m349_15
      refine CV.mono (mx_184   g_m349.1 (by unfold rg; decide) (by omega)) (by decide) ?_
      rintro m352 ⟨hx_m352, h_m352⟩
      have g_m352 : PX m0 m352 := PX.ft g_m349 hx_m352
      obtain ⟨h_m352, u_m352⟩ := h_m352
      have fr352 : ∀ i j : Nat, ¬ (i = 284 ∧ (j = 11 ∨ j = 13 ∨ j = 14 ∨ j = 15 ∨ j = 16)) → ¬ i = 306 → rd m352 i j = rd m i j := fun i j a b => by rw [hx_m352.2.1 i j (sFt_no (by omega)), e_m349, rd_wt, if_neg (by omega), hx_m346.2.1 i j (sFt_no (by omega)), hx_m330.2.1 i j (sFt_no (by omega))]
      have r352 := rm_mu r349 p2 g_m349 hx_m352 (K := 59) (fun _ _ h => (km_v h).1) (by decide) u_m352
      obtain ⟨i_m352, n_m352, w_m352, k_m352⟩ := h_m352
      have S_m352 : zst m349 m352 1 := ⟨fun q => ⟨(i_m352 q).1, Int.le_of_eq (i_m352 q).2.2.2.symm⟩, fun q => w_m352.1.symm.trans q⟩
      clear i_m352
      have C_m352 : zst m m352 3 := (zst_t (f := 3) (zst_t (f := 2) (zst_t (f := 2) S_m330 S_m346) S_m349) S_m352)
      have rp352 : rdP m m352 (rd m0 284 19) := rd_keep p0 p1 (fun i j a b => fr352 i j (nf_20 a) (by omega)) (fun q => by have z := (C_m352.1 q).2; omega) n_m352 (by omega) (fun _ => by rw [fr352 284 20 (by omega) (by omega), fr352 302 _ (by omega) (by omega)]; exact PI.2.2.2.2.2.1) (fun h1 h2 => va_fr (PI.2.2.2.2.2.2.2 (C_m352.2 h2)) (fun i j a => fr352 i j (nf_f (j := j) a).1 (nf_f (j := j) a).2.1))
      exact ⟨g_m352, by exact ⟨by exact ⟨by first | exact rp96 | exact rp191 | exact rp297 | exact rp352 | exact rp323 | exact rp408 | exact rd_bad (by omega) (by omega) (by omega), by first | exact sz_0 (by omega) r96 | exact sz_8 (by omega) r352 | exact sz_1 (by omega) r191 | exact sz_1 (by omega) (sh_f r169 (by omega) q114.1) | exact sz_2 (by omega) r297 | exact sz_2 (by omega) (pa_f r275 (by omega) q207.1) | exact sz_3 (by omega) (cr_y r312 r_m323) | exact sz_3 (by omega) (cr_n r312 (by omega)) | exact sz_d (by omega) r_m408⟩, by first | exact lq_o (nlw kx (by rw [s1t]) (by omega)) (fun i j q => fr352 i j (nf_q (x := 0) q).1 (by unfold lqR at q; omega)) | exact fun z => absurd z (by omega)⟩⟩
    · exfalso; omega
  · intro m_411  hR_411
    obtain ⟨g_m_411, hR_411⟩ := hR_411
    obtain ⟨hR_411, dR_411⟩ := hR_411
    obtain ⟨hR_411, cR_411⟩ := hR_411
    exact ⟨g_m_411, by exact ⟨by exact ⟨by first | exact hR_411 | exact rd_bad (by omega) (by omega) (by omega), by first | exact cR_411 | exact sz_1 (by omega) (sh_n r114 (by omega)) | exact sz_2 (by omega) (pa_n r207 (by omega)) | exact sz_x kx cR_394 (by omega) p1 (by omega)⟩, by first | exact dR_411 | exact lq_o (nlw kx (by rw [s1t]) (by omega)) (fun i j q => fr352 i j (nf_q (x := 0) q).1 (by unfold lqR at q; omega)) | exact fun z => absurd z (by omega)⟩⟩
