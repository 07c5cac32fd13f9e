-- TippedCratesModel.tellOne()V
set_option maxRecDepth 20000 in
set_option maxHeartbeats 4000000 in
theorem mz_192d {m0 m : Mm}  {N : Int} {s : Ps} (g_m : PX m0 m)  (p0 : rdI m (rd m0 284 19)) (p1 : rd m 284 13 = 0) (p2 : tkN m0 N) (p3 : RM (tX m0) N (rd m0 284 19) (s) m) (p4 : rd m 287 (Int.toNat (rd m 284 11)) = 23) : CV 7 192 [.ref 284] m (fun m2 => PX m0 m2 ∧ (((rdP m m2 (rd m0 284 19)) ∧ (RM (tX m0) N (rd m0 284 19) (pStep (tX m0) s) m2)) ∧ (lqM m0 m m2 (rd m0 284 19)))) := by
  refine br_192  ?_
  unfold P_192
  have hs := PX.s g_m
  have tt := ty_284_11 g_m.1
  have hw := p0.2.1
  have s1 : Int.toNat (rd m 284 19) = Int.toNat (rd m0 284 19) := by rw [hs.1]
  have PI := p0.2.2 p1
  have s302 : rd m 302 (Int.toNat (rd m 284 19)) = rd m 302 (Int.toNat (rd m0 284 19)) := by rw [s1]
  have t287 := ty_287 g_m.1 (Int.toNat (rd m 284 11))
  have s1z : s 0 1 = 0 := p3.1.1.symm.trans p1
  have s1t := (p3.1.2.2 s1z).1
  have D := p3.2.2 s1z
  have kx : kmR (tX m0 0 (s 0 0)) (rd m 287 (Int.toNat (rd m 284 11))) := by have q := (rm_k p3 p2 g_m p1).1; rw [s1t] at q; rw [s1t]; exact q
  have kv := (km_v kx).2.2.2.2.2.2.2.2.2
  have e295 : rd m 295 (Int.toNat (rd m 284 19)) = s 0 8 := by rw [s1]; exact D.1.2.2.2.1
  have e298 : rd m 298 (Int.toNat (rd m 284 19)) = s 0 9 := by rw [s1]; exact D.1.2.2.2.2.1
  have e302 : rd m 302 (Int.toNat (rd m 284 19)) = s 0 10 := by rw [s1]; exact D.1.2.2.2.2.2.1
  have kc : tX m0 0 (s 0 0) = 3 := by omega
  clear kv
  have t1 := ty_284_11 g_m.1
  refine ⟨⟨by omega, by omega⟩, ?_⟩
  have t2 := ty_287 g_m.1 (Int.toNat (rd m 284 11))
  refine ⟨fun m_411 => PX m0 m_411 ∧ (((rdP m m_411 (rd m0 284 19)) ∧ (RM (tX m0) N (rd m0 284 19) (pStep (tX m0) s) m_411)) ∧ (lqM m0 m m_411 (rd m0 284 19))), ?_, ?_⟩
  · skip
    refine ⟨fun hq => ?_, fun hq => ?_, fun hq => ?_, fun hq => ?_, fun hq => ?_, fun hq => ?_, fun hq => ?_, fun hq => ?_, fun hq => ?_, fun hq => ?_⟩
    · exfalso; omega
    · exfalso; omega
    · exfalso; omega
    · skip
      have t3 := ty_284_19 g_m.1
      refine ⟨⟨by omega, by omega⟩, ?_⟩
      have t4 := ty_302 g_m.1 (Int.toNat (rd m 284 19))
      refine CV.mono (mx_191   g_m.1 (rd_rg _ _ _) (by unfold rg; decide) (by omega)) (by decide) ?_
      rintro m312 ⟨hx_m312, h_m312⟩
      have g_m312 : PX m0 m312 := PX.ft g_m hx_m312
      obtain ⟨h_m312, o_m312⟩ := h_m312
      have s312 : rd m312 284 19 = rd m0 284 19 := (PX.s g_m312).1
      have c312 : rd m312 302 (Int.toNat (rd m0 284 19)) = rd m 302 (Int.toNat (rd m 284 19)) := by rw [hx_m312.2.1 302 _ rfl, hs.1]
      have t302 := ty_302 g_m312.1 (Int.toNat (rd m0 284 19))
      have n312 : rd m312 284 20 = rd m 284 20 := hx_m312.2.1 284 20 rfl
      have r312 := ro_s p3 p2 g_m hx_m312 (K := 3) (fun _ _ h => km_n 3 (by decide) h (by decide)) (by decide) hq p1 o_m312
      refine ⟨fun hq => ?_, fun hq => ?_⟩
      · skip
        exact ⟨g_m312, by exact ⟨by exact ⟨by first | exact rp96 | exact rp191 | exact rp297 | exact rp352 | exact rp323 | exact rp408 | exact rd_bad (by omega) (by omega) (by omega), by first | exact sz_0 (by omega) r96 | exact sz_8 (by omega) r352 | exact sz_1 (by omega) r191 | exact sz_1 (by omega) (sh_f r169 (by omega) q114.1) | exact sz_2 (by omega) r297 | exact sz_2 (by omega) (pa_f r275 (by omega) q207.1) | exact sz_3 (by omega) (cr_y r312 r_m323) | exact sz_3 (by omega) (cr_n r312 (by omega)) | exact sz_d (by omega) r_m408⟩, by first | exact lq_o (nlw kx (by rw [s1t]) (by omega)) (fun i j q => ((h_m323.1 i j (nf_w (x := 0) q).1 (nf_w (x := 0) q).2.1 (nf_w q).2.2).trans (hx_m312.2.1 i j (sFt_no (nf_q (x := 0) q).1)))) | exact fun z => absurd z (by omega)⟩⟩
      · skip
        refine CV.mono (mx_194   g_m312 (by omega) (by omega) (by omega) (by omega) p2 (ro_ok r312 (by omega)).2) (by decide) ?_
        rintro m323 ⟨g_m323, h_m323⟩
        obtain ⟨h_m323, r_m323⟩ := h_m323
        have rp323 := rd_crate p0 p1 hx_m312 (by omega) h_m323
        exact ⟨g_m323, by exact ⟨by exact ⟨by first | exact rp96 | exact rp191 | exact rp297 | exact rp352 | exact rp323 | exact rp408 | exact rd_bad (by omega) (by omega) (by omega), by first | exact sz_0 (by omega) r96 | exact sz_8 (by omega) r352 | exact sz_1 (by omega) r191 | exact sz_1 (by omega) (sh_f r169 (by omega) q114.1) | exact sz_2 (by omega) r297 | exact sz_2 (by omega) (pa_f r275 (by omega) q207.1) | exact sz_3 (by omega) (cr_y r312 r_m323) | exact sz_3 (by omega) (cr_n r312 (by omega)) | exact sz_d (by omega) r_m408⟩, by first | exact lq_o (nlw kx (by rw [s1t]) (by omega)) (fun i j q => ((h_m323.1 i j (nf_w (x := 0) q).1 (nf_w (x := 0) q).2.1 (nf_w q).2.2).trans (hx_m312.2.1 i j (sFt_no (nf_q (x := 0) q).1)))) | exact fun z => absurd z (by omega)⟩⟩
    · exfalso; omega
    · exfalso; omega
    · exfalso; omega
    · exfalso; omega
    · exfalso; omega
    · exfalso; omega
  · intro m_411  hR_411
    obtain ⟨g_m_411, hR_411⟩ := hR_411
    obtain ⟨hR_411, dR_411⟩ := hR_411
    obtain ⟨hR_411, cR_411⟩ := hR_411
    exact ⟨g_m_411, by exact ⟨by exact ⟨by first | exact hR_411 | exact rd_bad (by omega) (by omega) (by omega), by first | exact cR_411 | exact sz_1 (by omega) (sh_n r114 (by omega)) | exact sz_2 (by omega) (pa_n r207 (by omega)) | exact sz_x kx cR_394 (by omega) p1 (by omega)⟩, by first | exact dR_411 | exact lq_o (nlw kx (by rw [s1t]) (by omega)) (fun i j q => ((h_m323.1 i j (nf_w (x := 0) q).1 (nf_w (x := 0) q).2.1 (nf_w q).2.2).trans (hx_m312.2.1 i j (sFt_no (nf_q (x := 0) q).1)))) | exact fun z => absurd z (by omega)⟩⟩
