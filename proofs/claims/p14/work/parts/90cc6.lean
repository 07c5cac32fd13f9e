-- TippedCratesModel.tellOne()V
set_option maxRecDepth 20000 in
set_option maxHeartbeats 4000000 in
theorem mz_192g {m0 m : Mm}  {N : Int} {s : Ps} (g_m : PX m0 m)  (p0 : rdI m (rd m0 284 19)) (p1 : rd m 284 13 = 0) (p2 : tkN m0 N) (p3 : RM (tX m0) N (rd m0 284 19) (s) m) (p4 : rd m 287 (Int.toNat (rd m 284 11)) = 26) : CV 7 192 [.ref 284] m (fun m2 => PX m0 m2 ∧ (((rdP m m2 (rd m0 284 19)) ∧ (RM (tX m0) N (rd m0 284 19) (pStep (tX m0) s) m2)) ∧ (lqM m0 m m2 (rd m0 284 19)))) := by
  refine br_192  ?_
  unfold P_192
  have hs := PX.s g_m
  have tt := ty_284_11 g_m.1
  have hw := p0.2.1
  have s1 : Int.toNat (rd m 284 19) = Int.toNat (rd m0 284 19) := by rw [hs.1]
  have PI := p0.2.2 p1
  have s302 : rd m 302 (Int.toNat (rd m 284 19)) = rd m 302 (Int.toNat (rd m0 284 19)) := by rw [s1]
  have t287 := ty_287 g_m.1 (Int.toNat (rd m 284 11))
  have s1z : s 0 1 = 0 := p3.1.1.symm.trans p1
  have s1t := (p3.1.2.2 s1z).1
  have D := p3.2.2 s1z
  have kx : kmR (tX m0 0 (s 0 0)) (rd m 287 (Int.toNat (rd m 284 11))) := by have q := (rm_k p3 p2 g_m p1).1; rw [s1t] at q; rw [s1t]; exact q
  have kv := (km_v kx).2.2.2.2.2.2.2.2.2
  have e295 : rd m 295 (Int.toNat (rd m 284 19)) = s 0 8 := by rw [s1]; exact D.1.2.2.2.1
  have e298 : rd m 298 (Int.toNat (rd m 284 19)) = s 0 9 := by rw [s1]; exact D.1.2.2.2.2.1
  have e302 : rd m 302 (Int.toNat (rd m 284 19)) = s 0 10 := by rw [s1]; exact D.1.2.2.2.2.2.1
  have kc : tX m0 0 (s 0 0) = 6 := by omega
  clear kv
  have t1 := ty_284_11 g_m.1
  refine ⟨⟨by omega, by omega⟩, ?_⟩
  have t2 := ty_287 g_m.1 (Int.toNat (rd m 284 11))
  refine ⟨fun m_411 => PX m0 m_411 ∧ (((rdP m m_411 (rd m0 284 19)) ∧ (RM (tX m0) N (rd m0 284 19) (pStep (tX m0) s) m_411)) ∧ (lqM m0 m m_411 (rd m0 284 19))), ?_, ?_⟩
  · skip
    refine ⟨fun hq => ?_, fun hq => ?_, fun hq => ?_, fun hq => ?_, fun hq => ?_, fun hq => ?_, fun hq => ?_, fun hq => ?_, fun hq => ?_, fun hq => ?_⟩
    · exfalso; omega
    · exfalso; omega
    · exfalso; omega
    · exfalso; omega
    · exfalso; omega
    · exfalso; omega
    · skip
      refine ⟨⟨by omega, by omega⟩, ?_⟩
      try have w3 : wr ((rd m 287 (Int.toNat (rd m 284 11))) - 24) = (rd m 287 (Int.toNat (rd m 284 11))) - 24 := wr_id (by omega) (by omega)
      intro z1_370 e_z1_370
      have r_z1_370 : rg z1_370 := by rw [e_z1_370]; exact (wr_rg _)
      refine ⟨fun m_394 => PX m0 m_394 ∧ (((m_394 = m ∧ rd m_394 284 13 = 0 ∧ 0 ≤ z1_370 ∧ z1_370 ≤ 3) ∨ (¬ rd m_394 284 13 = 0 ∧ 0 ≤ rd m_394 284 13 ∧ 0 ≤ rd m_394 284 15)) ∧ ((m_394 = m) ∨ (¬ (24 ≤ rd m 287 (Int.toNat (rd m 284 11)) ∧ rd m 287 (Int.toNat (rd m 284 11)) ≤ 27) ∧ RM (tX m0) N (rd m0 284 19) (pF (tX m0) 1 s) m_394))), ?_, ?_⟩
      · skip
        refine ⟨¬ (24 ≤ rd m 287 (Int.toNat (rd m 284 11)) ∧ rd m 287 (Int.toNat (rd m 284 11)) ≤ 27), ?_, ?_⟩
        · skip
          refine ⟨fun hq => ?_, fun hq => ?_⟩
          · skip
            (omega)
          · skip
            refine ⟨⟨by omega, by omega⟩, ?_⟩
            refine ⟨fun hq => ?_, fun hq => ?_⟩
            · skip
              exact ⟨g_m, by exact ⟨by first | exact Or.inl ⟨rfl, p1, by omega, by omega⟩ | exact Or.inr (by omega), by first | exact Or.inl rfl | exact Or.inr ⟨hR_389, rm_F p3 p2 g_m (by decide) h_m391⟩⟩⟩
            · skip
              (omega)
        · intro   hR_389
          refine CV.mono (ct_181   g_m.1 (by unfold rg; decide) (by omega) (by omega)) (by decide) ?_
          rintro m391 ⟨hx_m391, h_m391⟩
          have g_m391 : PX m0 m391 := PX.ft g_m hx_m391
          exact ⟨g_m391, by exact ⟨by first | exact Or.inl ⟨rfl, p1, by omega, by omega⟩ | exact Or.inr (by omega), by first | exact Or.inl rfl | exact Or.inr ⟨hR_389, rm_F p3 p2 g_m (by decide) h_m391⟩⟩⟩
      · intro m_394  hR_394
        obtain ⟨g_m_394, hR_394⟩ := hR_394
        obtain ⟨hR_394, cR_394⟩ := hR_394
        refine ⟨fun hq => ?_, fun hq => ?_⟩
        · skip
          have q394 : m = m_394 ∧ 0 ≤ z1_370 ∧ z1_370 ≤ 3 := by
            rcases hR_394 with q | q
            · exact ⟨q.1.symm, q.2.2⟩
            · exact absurd hq (by omega)
          obtain ⟨q394, zr⟩ := q394
          subst q394
          refine CV.mono (ct_183   g_m_394.1 (by omega)) (by decide) ?_
          rintro m403 ⟨hx_m403, h_m403⟩
          have g_m403 : PX m0 m403 := PX.ft g_m_394 hx_m403
          have ft403 := ft_go hx_m403 h_m403.2.1 h_m403.2.2
          have c403 := ft403 284 44 (by omega)
          have b403 := ft403 284 38 (by omega)
          have o403 := ft403 284 12 (by omega)
          have w403 : 4 ≤ tX m0 0 (s 0 0) ∧ tX m0 0 (s 0 0) ≤ 7 := by omega
          have r403 := rm_go p3 p2 g_m hx_m403 (K := tX m0 0 (s 0 0)) (k := rd m 287 (Int.toNat (rd m 284 11))) (fun _ _ h => km_n _ (by omega) h (by omega)) (by omega) rfl p1 h_m403
          refine CV.mono (mz_195   g_m403 r_z1_370 zr (by omega) (fun h => by omega) (by refine ⟨by omega, fun h => ?_⟩; omega) p2 r403) (by decide) ?_
          rintro m408 ⟨g_m408, h_m408⟩
          obtain ⟨h_m408, q_m408⟩ := h_m408
          obtain ⟨h_m408, r_m408⟩ := h_m408
          have rp408 := rd_law p0 p1 ft403 (by omega) (by omega) h_m408
          exact ⟨g_m408, by exact ⟨by exact ⟨by first | exact rp96 | exact rp191 | exact rp297 | exact rp352 | exact rp323 | exact rp408 | exact rd_bad (by omega) (by omega) (by omega), by first | exact sz_0 (by omega) r96 | exact sz_8 (by omega) r352 | exact sz_1 (by omega) r191 | exact sz_1 (by omega) (sh_f r169 (by omega) q114.1) | exact sz_2 (by omega) r297 | exact sz_2 (by omega) (pa_f r275 (by omega) q207.1) | exact sz_3 (by omega) (cr_y r312 r_m323) | exact sz_3 (by omega) (cr_n r312 (by omega)) | exact sz_d (by omega) r_m408⟩, by first | exact lq_l (by rw [s1t]; omega) h_m403 ft403 q_m408 (by rw [s1t]; omega) (fun z => (h_m408.2.2.2 z).1) | exact fun z => absurd z (by omega)⟩⟩
        · skip
          exact ⟨g_m_394, by exact ⟨by exact ⟨by first | exact hR_411 | exact rd_bad (by omega) (by omega) (by omega), by first | exact cR_411 | exact sz_1 (by omega) (sh_n r114 (by omega)) | exact sz_2 (by omega) (pa_n r207 (by omega)) | exact sz_x kx cR_394 (by omega) p1 (by omega)⟩, by first | exact dR_411 | exact lq_l (by rw [s1t]; omega) h_m403 ft403 q_m408 (by rw [s1t]; omega) (fun z => (h_m408.2.2.2 z).1) | exact fun z => absurd z (by omega)⟩⟩
    · exfalso; omega
    · exfalso; omega
    · exfalso; omega
  · intro m_411  hR_411
    obtain ⟨g_m_411, hR_411⟩ := hR_411
    obtain ⟨hR_411, dR_411⟩ := hR_411
    obtain ⟨hR_411, cR_411⟩ := hR_411
    exact ⟨g_m_411, by exact ⟨by exact ⟨by first | exact hR_411 | exact rd_bad (by omega) (by omega) (by omega), by first | exact cR_411 | exact sz_1 (by omega) (sh_n r114 (by omega)) | exact sz_2 (by omega) (pa_n r207 (by omega)) | exact sz_x kx cR_394 (by omega) p1 (by omega)⟩, by first | exact dR_411 | exact lq_l (by rw [s1t]; omega) h_m403 ft403 q_m408 (by rw [s1t]; omega) (fun z => (h_m408.2.2.2 z).1) | exact fun z => absurd z (by omega)⟩⟩
