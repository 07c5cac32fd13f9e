-- TippedCratesModel.tellOne()V
set_option maxRecDepth 20000 in
set_option maxHeartbeats 4000000 in
theorem mx_192a {m0 m : Mm}  {N : Int} {s : Ps} (g_m : PX m0 m)  (p0 : rdI m (rd m0 284 19)) (p1 : rd m 284 13 = 0) (p2 : tkN m0 N) (p3 : RM (tX m0) N (rd m0 284 19) (s) m) (p4 : rd m 287 (Int.toNat (rd m 284 11)) = 20) : CV 7 192 [.ref 284] m (fun m2 => PX m0 m2 ∧ ((rdP m m2 (rd m0 284 19)) ∧ (RM (tX m0) N (rd m0 284 19) (pStep (tX m0) s) m2))) := by
  refine br_192  ?_
  unfold P_192
  have hs := PX.s g_m
  have tt := ty_284_11 g_m.1
  have hw := p0.2.1
  have s1 : Int.toNat (rd m 284 19) = Int.toNat (rd m0 284 19) := by rw [hs.1]
  have PI := p0.2.2 p1
  have s302 : rd m 302 (Int.toNat (rd m 284 19)) = rd m 302 (Int.toNat (rd m0 284 19)) := by rw [s1]
  have t287 := ty_287 g_m.1 (Int.toNat (rd m 284 11))
  have s1z : s 0 1 = 0 := p3.1.1.symm.trans p1
  have s1t := (p3.1.2.2 s1z).1
  have D := p3.2.2 s1z
  have kx : kmR (tX m0 0 (s 0 0)) (rd m 287 (Int.toNat (rd m 284 11))) := by have q := (rm_k p3 p2 g_m p1).1; rw [s1t] at q; rw [s1t]; exact q
  have kv := (km_v kx).2.2.2.2.2.2.2.2.2
  have e295 : rd m 295 (Int.toNat (rd m 284 19)) = s 0 8 := by rw [s1]; exact D.1.2.2.2.1
  have e298 : rd m 298 (Int.toNat (rd m 284 19)) = s 0 9 := by rw [s1]; exact D.1.2.2.2.2.1
  have e302 : rd m 302 (Int.toNat (rd m 284 19)) = s 0 10 := by rw [s1]; exact D.1.2.2.2.2.2.1
  have kc : tX m0 0 (s 0 0) = 0 := by omega
  clear kv
  have t1 := ty_284_11 g_m.1
  refine ⟨⟨by omega, by omega⟩, ?_⟩
  have t2 := ty_287 g_m.1 (Int.toNat (rd m 284 11))
  refine ⟨fun m_411 => PX m0 m_411 ∧ ((rdP m m_411 (rd m0 284 19)) ∧ (RM (tX m0) N (rd m0 284 19) (pStep (tX m0) s) m_411)), ?_, ?_⟩
  · skip
    refine ⟨fun hq => ?_, fun hq => ?_, fun hq => ?_, fun hq => ?_, fun hq => ?_, fun hq => ?_, fun hq => ?_, fun hq => ?_, fun hq => ?_, fun hq => ?_⟩
    · skip
      refine CV.mono (ct_183   g_m.1 (by omega)) (by decide) ?_
      rintro m61 ⟨hx_m61, h_m61⟩
      have g_m61 : PX m0 m61 := PX.ft g_m hx_m61
      have s61 : rd m61 284 19 = rd m0 284 19 := (PX.s g_m61).1
      have r61 := rm_go p3 p2 g_m hx_m61 (K := 0) (fun _ _ h => km_n 0 (by decide) h (by decide)) (by decide) hq p1 h_m61
      have n_m61 : 0 ≤ rd m61 284 13 := by omega
      have S_m61 : zst m m61 1 := ⟨fun q => ⟨p1, by omega⟩, fun q => by omega⟩
      have w_m61 := h_m61.2
      clear h_m61
      refine CK.mono (mx_193   g_m61.1 (by unfold rg; decide) (by unfold rg; decide) (by omega) (by omega)) (by decide) ?_
      rintro m75 v75 r_v75 ⟨hx_m75, h_m75⟩
      have g_m75 : PX m0 m75 := PX.ft g_m61 hx_m75
      obtain ⟨h_m75, b_m75⟩ := h_m75
      have s75 : rd m75 284 19 = rd m0 284 19 := (PX.s g_m75).1
      have c75 := rm_I r61 p2 g_m61 hx_m75 b_m75
      obtain ⟨v_m75, i_m75, n_m75, w_m75, d_m75, l_m75⟩ := h_m75
      replace l_m75 := l_m75 (by omega)
      have S_m75 : zst m61 m75 1 := ⟨fun q => ⟨(i_m75 q).1, Int.le_of_eq (i_m75 q).2.symm⟩, w_m75⟩
      have D_m75 : bdQ m75 v75 2 5 := d_m75
      clear i_m75 w_m75 d_m75
      have t3 := ty_284_19 g_m61.1
      refine ⟨⟨by omega, by omega⟩, ?_⟩
      intro m78 e_m78
      have g_m78 : PX m0 m78 := by rw [e_m78]; exact PX.wt g_m75 (tw_293 g_m75.1 ⟨by omega, by omega⟩) (inP_s (by omega) (by omega))
      have m78_11 : rd m78 284 11 = rd m75 284 11 := by rw [e_m78, rd_wt, if_neg (by omega)]
      have m78_13 : rd m78 284 13 = rd m75 284 13 := by rw [e_m78, rd_wt, if_neg (by omega)]
      have m78_15 : rd m78 284 15 = rd m75 284 15 := by rw [e_m78, rd_wt, if_neg (by omega)]
      have m78_19 : rd m78 284 19 = rd m75 284 19 := by rw [e_m78, rd_wt, if_neg (by omega)]
      have r78 : RM (tX m0) N (rd m0 284 19) (pY1 (tX m0) s) m78 := rm_f5 c75.1 (by rw [e_m78, s61]) r_v75 c75.2
      have S_m78 : zst m75 m78 0 := zst_w m78_11 m78_13 m78_15
      refine CK.mono (mx_193   g_m78.1 (by unfold rg; decide) (by unfold rg; decide) (by omega) (by omega)) (by decide) ?_
      rintro m90 v90 r_v90 ⟨hx_m90, h_m90⟩
      have g_m90 : PX m0 m90 := PX.ft g_m78 hx_m90
      obtain ⟨h_m90, b_m90⟩ := h_m90
      have s90 : rd m90 284 19 = rd m0 284 19 := (PX.s g_m90).1
      have s78 : rd m78 284 19 = rd m0 284 19 := by omega
      have c90 := rm_I r78 p2 g_m78 hx_m90 b_m90
      obtain ⟨v_m90, i_m90, n_m90, w_m90, d_m90, l_m90⟩ := h_m90
      replace l_m90 := l_m90 (by omega)
      have S_m90 : zst m78 m90 1 := ⟨fun q => ⟨(i_m90 q).1, Int.le_of_eq (i_m90 q).2.symm⟩, w_m90⟩
      have D_m90 : bdQ m90 v90 2 5 := d_m90
      clear i_m90 w_m90 d_m90
      have t4 := ty_284_19 g_m78.1
      refine ⟨⟨by omega, by omega⟩, ?_⟩
      intro m93 e_m93
      have g_m93 : PX m0 m93 := by rw [e_m93]; exact PX.wt g_m90 (tw_294 g_m90.1 ⟨by omega, by omega⟩) (inP_s (by omega) (by omega))
      have m93_11 : rd m93 284 11 = rd m90 284 11 := by rw [e_m93, rd_wt, if_neg (by omega)]
      have m93_13 : rd m93 284 13 = rd m90 284 13 := by rw [e_m93, rd_wt, if_neg (by omega)]
      have m93_15 : rd m93 284 15 = rd m90 284 15 := by rw [e_m93, rd_wt, if_neg (by omega)]
      have m93_19 : rd m93 284 19 = rd m90 284 19 := by rw [e_m93, rd_wt, if_neg (by omega)]
      have r93 : RM (tX m0) N (rd m0 284 19) (pYard (tX m0) s) m93 := rm_f6 c90.1 (by rw [e_m93, s78]) r_v90 c90.2
      have S_m93 : zst m90 m93 0 := zst_w m93_11 m93_13 m93_15
      refine CV.mono (mx_184   g_m93.1 (by unfold rg; decide) (by omega)) (by decide) ?_
      rintro m96 ⟨hx_m96, h_m96⟩
      have g_m96 : PX m0 m96 := PX.ft g_m93 hx_m96
      obtain ⟨h_m96, u_m96⟩ := h_m96
      have fr96 : ∀ i j : Nat, ¬ (i = 284 ∧ (j = 11 ∨ j = 13 ∨ j = 14 ∨ j = 15 ∨ j = 16)) → ¬ (i = 293 ∨ i = 294) → rd m96 i j = rd m i j := fun i j a b => by rw [hx_m96.2.1 i j (sFt_no (by omega)), e_m93, rd_wt, if_neg (by omega), hx_m90.2.1 i j (sFt_no (by omega)), e_m78, rd_wt, if_neg (by omega), hx_m75.2.1 i j (sFt_no (by omega)), hx_m61.2.1 i j (sFt_no (by omega))]
      have r96 := rm_mu r93 p2 g_m93 hx_m96 (K := 59) (fun _ _ h => (km_v h).1) (by decide) u_m96
      obtain ⟨i_m96, n_m96, w_m96, k_m96⟩ := h_m96
      have S_m96 : zst m93 m96 1 := ⟨fun q => ⟨(i_m96 q).1, Int.le_of_eq (i_m96 q).2.2.2.symm⟩, fun q => w_m96.1.symm.trans q⟩
      clear i_m96
      have C_m96 : zst m m96 4 := (zst_t (f := 4) (zst_t (f := 3) (zst_t (f := 3) (zst_t (f := 2) (zst_t (f := 2) S_m61 S_m75) S_m78) S_m90) S_m93) S_m96)
      have E_m75 : zst m75 m96 2 := (zst_t (f := 2) (zst_t (f := 1) (zst_t (f := 1) S_m78 S_m90) S_m93) S_m96)
      have E_m90 : zst m90 m96 1 := (zst_t (f := 1) S_m93 S_m96)
      have va96 : rd m96 284 13 = 0 → rd m96 284 15 = 0 → vals m96 (rd m0 284 19) := fun h1 h2 => va_y (PI.2.2.2.2.2.2.2 (C_m96.2 h2)) (fun i j a => fr96 i j (nf_y (j := j) a).1 (nf_y (j := j) a).2) (v := v75) (w := v90) (by rw [hx_m96.2.1 293 _ rfl, e_m93, rd_wt, if_neg (by omega), hx_m90.2.1 293 _ rfl, e_m78, s61, rd_wt, if_pos ⟨rfl, rfl⟩, wr_i r_v75]) (by rw [hx_m96.2.1 294 _ rfl, e_m93, s78, rd_wt, if_pos ⟨rfl, rfl⟩, wr_i r_v90]) (D_m75 (E_m75.1 h1).1 (E_m75.2 h2)) (D_m90 (E_m90.1 h1).1 (E_m90.2 h2))
      have hid96 : Hid (rd m96 284 13 = 0 → rd m96 284 15 = 0 → vals m96 (rd m0 284 19)) := va96
      clear va96
      have rp96 : rdP m m96 (rd m0 284 19) := rd_keep p0 p1 (fun i j a b => fr96 i j (nf_20 a) (by omega)) (fun q => by have z := (C_m96.1 q).2; omega) n_m96 (by omega) (fun _ => by rw [fr96 284 20 (by omega) (by omega), fr96 302 _ (by omega) (by omega)]; exact PI.2.2.2.2.2.1) hid96
      exact ⟨g_m96, by exact ⟨by first | exact rp96 | exact rp191 | exact rp297 | exact rp352 | exact rp323 | exact rp408 | exact rd_bad (by omega) (by omega) (by omega), by first | exact sz_0 (by omega) r96 | exact sz_8 (by omega) r352 | exact sz_1 (by omega) r191 | exact sz_1 (by omega) (sh_f r169 (by omega) q114.1) | exact sz_2 (by omega) r297 | exact sz_2 (by omega) (pa_f r275 (by omega) q207.1) | exact sz_3 (by omega) (cr_y r312 r_m323) | exact sz_3 (by omega) (cr_n r312 (by omega)) | exact sz_d (by omega) r_m408⟩⟩
    · exfalso; omega
    · exfalso; omega
    · exfalso; omega
    · exfalso; omega
    · exfalso; omega
    · exfalso; omega
    · exfalso; omega
    · exfalso; omega
    · exfalso; omega
  · intro m_411  hR_411
    obtain ⟨g_m_411, hR_411⟩ := hR_411
    obtain ⟨hR_411, cR_411⟩ := hR_411
    exact ⟨g_m_411, by exact ⟨by first | exact hR_411 | exact rd_bad (by omega) (by omega) (by omega), by first | exact cR_411 | exact sz_1 (by omega) (sh_n r114 (by omega)) | exact sz_2 (by omega) (pa_n r207 (by omega)) | exact sz_x kx cR_394 (by omega) p1 (by omega)⟩⟩
