def exA (m0 m m2 : Mm) (N : Int) : Prop := (¬ rd m 284 13 = 0 → rd m2 284 13 = rd m 284 13 ∧ rd m2 284 14 = rd m 284 14) ∧ (rd m 284 13 = 0 → (rd m2 284 13 = 0 → AU (kC m0) (rd m 284 11) 0 0 = (0, rd m2 284 11) ∧ rd m2 284 11 ≤ N) ∧ (¬ rd m2 284 13 = 0 → auX m0 m m2))
theorem ai_0 {m0 m m2 : Mm} {N : Int} (_h0 : rd m 284 13 = 0) (hN : rd m 284 11 ≤ N) (ho : rd m 284 12 = 0) (ht : 0 ≤ rd m 284 11 ∧ rd m 284 11 ≤ 400) (e : m2 = wt m 284 48 0) : auI m0 m m2 N 0 := by
  have f : ∀ j, ¬ j = 48 → rd m2 284 j = rd m 284 j := fun j q => by rw [e, rd_wt, if_neg (fun w => q w.2)]
  refine ⟨fun _ => ?_, fun w => by rw [f 13 (by omega)] at w; omega⟩
  rw [f 11 (by omega), f 12 (by omega), ho]
  exact ⟨by omega, rfl⟩
theorem ai_fr {m0 m m1 m2 : Mm} {N s : Int} (h : auI m0 m m1 N s) (e11 : rd m2 284 11 = rd m1 284 11) (e12 : rd m2 284 12 = rd m1 284 12) (e13 : rd m2 284 13 = rd m1 284 13) (e14 : rd m2 284 14 = rd m1 284 14) : auI m0 m m2 N s := by
  unfold auI auX
  rw [e11, e12, e13, e14]
  exact h
theorem ai_open {m0 m m1 m46 m53 m57 : Mm} {N : Int} (tk : tkN m0 N) (h : auI m0 m m1 N 0) (g : PX m0 m1) (z : rd m1 284 13 = 0) (k6 : rd m1 287 (Int.toNat (rd m1 284 11)) = 6) (c : (rd m46 284 13 = 0 ∧ ¬ rd m1 284 12 = 6) ∨ (rd m1 284 12 = 6 ∧ rd m46 284 13 = 2 ∧ rd m46 284 14 = rd m1 288 (Int.toNat (rd m1 284 11)))) (e11 : rd m53 284 11 = rd m1 284 11) (e13 : rd m53 284 13 = rd m46 284 13) (e14 : rd m53 284 14 = rd m46 284 14) (e8 : ∀ j, rd m53 288 j = rd m1 288 j) (go : goP m53 m57) (o : rd m57 284 12 = rd m1 284 12 + 1) : auI m0 m m57 N 0 := by
  have e7 := g.2.1 287 (Int.toNat (rd m1 284 11)) (inP_no (by omega) (by omega))
  have e8' := g.2.1 288 (Int.toNat (rd m1 284 11)) (inP_no (by omega) (by omega))
  obtain ⟨⟨a1, a2, a3⟩, a4⟩ := h.1 z
  have ku := km_u (tkN_k tk a1 a2 a3).1
  have k40 : kC m0 (rd m1 284 11) = 40 := ku.2.1.mp (by rw [← e7]; exact k6)
  rcases c with ⟨c1, c2⟩ | ⟨c1, c2, c3⟩
  · exact ai_go tk h g z (by omega) e11 (e13.trans c1) e8 go o (fun q => AU_o q k40 c2) (fun q => AU_o6 a3 k40 (Or.inr q))
  · have f57 : rd m57 284 13 = 2 ∧ rd m57 284 14 = rd m1 288 (Int.toNat (rd m1 284 11)) := by
      rcases go.1 with ⟨-, -, q3, q4⟩ | ⟨-, -, ⟨q3, -⟩ | ⟨-, q3, q4⟩⟩
      · exact ⟨by omega, by rw [q4, e14, c3]⟩
      · omega
      · exact ⟨by omega, by rw [q4, e14, c3]⟩
    refine ⟨fun f => by omega, fun _ => ⟨rd m1 284 11, ?_, by rw [f57.2, e8']⟩⟩
    rw [a4, f57.1]
    exact AU_o6 a3 k40 (Or.inl c1)
theorem ai_close {m0 m m1 m2 m3 : Mm} {N : Int} (tk : tkN m0 N) (h : auI m0 m m1 N 1) (g : PX m0 m1) (z : rd m1 284 13 = 0) (k7 : rd m1 287 (Int.toNat (rd m1 284 11)) = 7) (hd : 0 < rd m1 284 12) (e11 : rd m2 284 11 = rd m1 284 11) (e13 : rd m2 284 13 = 0) (e8 : ∀ j, rd m2 288 j = rd m1 288 j) (go : goP m2 m3) (o : rd m3 284 12 = rd m1 284 12 - 1) : auI m0 m m3 N 1 := by
  have e7 := g.2.1 287 (Int.toNat (rd m1 284 11)) (inP_no (by omega) (by omega))
  obtain ⟨⟨a1, a2, a3⟩, a4⟩ := h.1 z
  have ku := km_u (tkN_k tk a1 a2 a3).1
  have k41 : kC m0 (rd m1 284 11) = 41 := ku.2.2.1.mp (by rw [← e7]; exact k7)
  exact ai_go tk h g z (by omega) e11 e13 e8 go o (fun q => AU_c q k41 hd) (fun q => AU_c4 q k41 hd)
theorem ai_oper {m0 m m1 m2 m3 : Mm} {N : Int} (tk : tkN m0 N) (h : auI m0 m m1 N 1) (g : PX m0 m1) (z : rd m1 284 13 = 0) (ko : oM (rd m1 287 (Int.toNat (rd m1 284 11)))) (e11 : rd m2 284 11 = rd m1 284 11) (e13 : rd m2 284 13 = 0) (e8 : ∀ j, rd m2 288 j = rd m1 288 j) (go : goP m2 m3) (o : rd m3 284 12 = rd m1 284 12) : auI m0 m m3 N 0 := by
  have e7 := g.2.1 287 (Int.toNat (rd m1 284 11)) (inP_no (by omega) (by omega))
  obtain ⟨⟨a1, a2, a3⟩, a4⟩ := h.1 z
  have ku := km_u (tkN_k tk a1 a2 a3).1
  have kp : isOp (kC m0 (rd m1 284 11)) := ku.2.2.2.1.mp (by rw [← e7]; exact ko)
  exact ai_go tk h g z (by unfold isOp at kp; omega) e11 e13 e8 go o (fun q => AU_p q kp) (fun q => AU_p4 q kp)
theorem ai_z0 {m0 m m1 : Mm} {N : Int} (tk : tkN m0 N) (h : auI m0 m m1 N 1) (g : PX m0 m1) (hn : rd m1 284 13 = 0 → ¬ oM (rd m1 287 (Int.toNat (rd m1 284 11)))) (hd : rd m1 284 13 = 0 → ¬ 0 < rd m1 284 12) : (rd m1 284 13 = 0 → AU (kC m0) (rd m 284 11) 0 0 = (0, rd m1 284 11) ∧ rd m1 284 11 ≤ N) ∧ (¬ rd m1 284 13 = 0 → auX m0 m m1) := by
  refine ⟨fun z => ?_, h.2⟩
  have e7 := g.2.1 287 (Int.toNat (rd m1 284 11)) (inP_no (by omega) (by omega))
  obtain ⟨⟨a1, a2, a3⟩, a4⟩ := h.1 z
  have ku := km_u (tkN_k tk a1 a2 a3).1
  refine ⟨?_, a2⟩
  rw [a4]
  exact AU_z a3 (fun w => hn z (by rw [e7]; exact ku.2.2.2.1.mpr w)) (hd z)
theorem ai_z1 {m0 m m1 m2 : Mm} {N : Int} (tk : tkN m0 N) (h : auI m0 m m1 N 1) (g : PX m0 m1) (hn : rd m1 284 13 = 0 → ¬ oM (rd m1 287 (Int.toNat (rd m1 284 11)))) (hc : rd m1 284 13 = 0 → ¬ rd m1 287 (Int.toNat (rd m1 284 11)) = 7) (hd : 0 < rd m1 284 12) (fl : ((rd m1 284 13 = 0 ∧ rd m2 284 13 = 1 ∧ rd m2 284 14 = rd m1 288 (Int.toNat (rd m1 284 11))) ∨ (¬ rd m1 284 13 = 0 ∧ rd m2 284 13 = rd m1 284 13 ∧ rd m2 284 14 = rd m1 284 14)) ∧ rd m2 284 11 = rd m1 284 11 ∧ rd m2 284 15 = rd m1 284 15 ∧ rd m2 284 16 = rd m1 284 16) : (rd m2 284 13 = 0 → AU (kC m0) (rd m 284 11) 0 0 = (0, rd m2 284 11) ∧ rd m2 284 11 ≤ N) ∧ (¬ rd m2 284 13 = 0 → auX m0 m m2) := by
  have e7 := g.2.1 287 (Int.toNat (rd m1 284 11)) (inP_no (by omega) (by omega))
  have e8 := g.2.1 288 (Int.toNat (rd m1 284 11)) (inP_no (by omega) (by omega))
  rcases fl.1 with ⟨z, f1, f2⟩ | ⟨z, f1, f2⟩
  · obtain ⟨⟨a1, a2, a3⟩, a4⟩ := h.1 z
    have ku := km_u (tkN_k tk a1 a2 a3).1
    refine ⟨fun w => by omega, fun _ => ⟨rd m1 284 11, ?_, by rw [f2, e8]⟩⟩
    rw [a4, f1]
    exact AU_e a3 (fun w => hc z (by rw [e7]; exact ku.2.2.1.mpr w)) (fun w => hn z (by rw [e7]; exact ku.2.2.2.1.mpr w)) hd
  · refine ⟨fun w => by omega, fun _ => ?_⟩
    obtain ⟨tt, x1, x2⟩ := h.2 z
    exact ⟨tt, by rw [f1]; exact x1, by rw [f2]; exact x2⟩
theorem ex_a1 {m0 m m2 : Mm} {N : Int} (h : (rd m 284 13 = 0 → auI m0 m m2 N 0) ∧ (¬ rd m 284 13 = 0 → rd m2 284 13 = rd m 284 13 ∧ rd m2 284 14 = rd m 284 14)) (z : ¬ rd m2 284 13 = 0) : exA m0 m m2 N := ⟨h.2, fun q => ⟨fun w => absurd w z, fun w => (h.1 q).2 w⟩⟩
theorem ex_a2 {m0 m m2 : Mm} {N : Int} (fm : rd m 284 13 = 0) (h : auI m0 m m2 N 1) (z : ¬ rd m2 284 13 = 0) : exA m0 m m2 N := ⟨fun w => absurd fm w, fun _ => ⟨fun w => absurd w z, fun w => h.2 w⟩⟩
theorem ex_a3 {m0 m m1 m2 : Mm} {N s a : Int} (fm : rd m 284 13 = 0) (h : (rd m1 284 13 = 0 → AU (kC m0) (rd m 284 11) 0 0 = (0, rd m1 284 11) ∧ rd m1 284 11 ≤ N) ∧ (¬ rd m1 284 13 = 0 → auX m0 m m1)) (co : coRel m1 m2 s a) : exA m0 m m2 N := by
  have f := co.2.2.2.2
  have e11 := f 284 11 (by omega) (by omega)
  have e13 := f 284 13 (by omega) (by omega)
  have e14 := f 284 14 (by omega) (by omega)
  refine ⟨fun w => absurd fm w, fun _ => ?_⟩
  unfold auX
  rw [e11, e13, e14]
  exact h
-- TippedCratesModel.expression()V
set_option maxRecDepth 20000 in
theorem mx_199 {m0 m : Mm}  {N : Int} (g_m : PX m0 m)  (p0 : 0 ≤ rd m 284 13) (p1 : rd m 284 13 = 0 → rd m 284 12 = 0 ∧ 420 * rd m0 284 19 ≤ rd m 284 44 ∧ rd m 284 44 - 420 * rd m0 284 19 ≤ rd m 284 11) (p2 : tkN m0 N) (p3 : rd m 284 13 = 0 → rd m 284 11 ≤ N) : CV 4 199 [.ref 284] m (fun m2 => PX m0 m2 ∧ ((exP m m2 (rd m0 284 19)) ∧ (exA m0 m m2 N))) := by
  refine br_199  ?_
  unfold P_199
  have hs := PX.s g_m
  have tt := ty_284_11 g_m.1
  have tc := ty_284_44 g_m.1
  intro m2 e_m2
  have g_m2 : PX m0 m2 := by rw [e_m2]; exact PX.wt g_m (tw_284_48 g_m.1 ⟨by omega, by omega⟩) (inP_284 (by omega))
  have n12 : rd m2 284 12 = rd m 284 12 := by rw [e_m2, rd_wt, if_neg (by omega)]
  have n13 : rd m2 284 13 = rd m 284 13 := by rw [e_m2, rd_wt, if_neg (by omega)]
  have t1 := ty_284_12 g_m2.1
  intro z1_9 e_z1_9
  have r_z1_9 : rg z1_9 := by rw [e_z1_9]; exact (rd_rg _ _ _)
  refine ⟨fun x2_12 m_12 => PX m0 m_12 ∧ (((x2_12 = 1 ∧ exF m m_12) ∧ (rd m_12 284 13 = 0 → exI m_12 (rd m0 284 19) (rd m 284 44) 0)) ∧ ((rd m 284 13 = 0 → auI m0 m m_12 N 0) ∧ (¬ rd m 284 13 = 0 → rd m_12 284 13 = rd m 284 13 ∧ rd m_12 284 14 = rd m 284 14))), fun x2_12 m_12 => Int.toNat (10000 - rd m_12 284 11 - 1000 * rd m_12 284 13), ?_, ?_⟩
  · exact ⟨g_m2, by exact ⟨by exact ⟨⟨rfl, exF_0 p0 e_m2⟩, fun h => exI_0 (by omega) e_m2 (p1 (by omega)) (by omega)⟩, by exact ⟨fun h0 => ai_0 h0 (p3 h0) (p1 h0).1 (by omega) e_m2, fun h0 => ⟨by rw [e_m2, rd_wt, if_neg (by omega)], by rw [e_m2, rd_wt, if_neg (by omega)]⟩⟩⟩⟩
  · intro x2_12 m_12 r_x2_12 hI_12
    obtain ⟨g_m_12, hI_12⟩ := hI_12
    obtain ⟨hI_12, cI_12⟩ := hI_12
    have f12 := hI_12.1.2.2.1
    have t12 := ty_284_11 g_m_12.1
    refine ⟨x2_12 = 0 ∨ ¬ rd m_12 284 13 = 0, ?_, ?_⟩
    · skip
      refine ⟨fun hq => ?_, fun hq => ?_⟩
      · skip
        (first | trivial | omega | (refine ⟨?_, ?_⟩ <;> omega))
      · skip
        refine ⟨fun hq => ?_, fun hq => ?_⟩
        · skip
          (first | trivial | omega | (refine ⟨?_, ?_⟩ <;> omega))
        · skip
          refine ⟨fun m_23 => PX m0 m_23 ∧ (((exF m m_23 ∧ rd m_12 284 11 ≤ rd m_23 284 11) ∧ (rd m_23 284 13 = 0 → exI m_23 (rd m0 284 19) (rd m 284 44) 0)) ∧ (auI m0 m m_23 N 0)), fun m_23 => Int.toNat (10000 - rd m_23 284 11 - 1000 * rd m_23 284 13), ?_, ?_⟩
          · exact ⟨g_m_12, by exact ⟨by exact ⟨⟨hI_12.1.2, Int.le_refl _⟩, hI_12.2⟩, by exact cI_12.1 (hI_12.1.2.2.2.2.2 (by omega))⟩⟩
          · intro m_23  hI_23
            obtain ⟨g_m_23, hI_23⟩ := hI_23
            obtain ⟨hI_23, cI_23⟩ := hI_23
            have f23 := hI_23.1.1.2.1
            have t23 := ty_284_11 g_m_23.1
            have fm0 : rd m 284 13 = 0 := hI_12.1.2.2.2.2.2 (by omega)
            refine CK.mono (ct_180   g_m_23.1 (by unfold rg; decide)) (by decide) ?_
            rintro m26 v26 r_v26 ⟨e_m26, h_m26⟩
            replace e_m26 := e_m26.symm
            subst e_m26
            refine ⟨fun hq => ?_, fun hq => ?_⟩
            · skip
              refine CV.mono (mx_200   g_m_23 f23 (fun h => by have := exI_b (hI_23.2 h); omega)) (by decide) ?_
              rintro m85 ⟨g_m85, h_m85⟩
              have un := h_m85.1
              have ua := h_m85.2
              have u11 := un.2.2.1
              have u13 := un.2.1
              have xf85 : exF m m85 := exF_un hI_23.1.1 un
              refine ⟨fun hq => ?_, fun hq => ?_⟩
              · skip
                refine ⟨fun m_96 => PX m0 m_96 ∧ (((exF m m_96 ∧ rd m_12 284 11 + 1 ≤ rd m_96 284 11) ∧ exI m_96 (rd m0 284 19) (rd m 284 44) 1) ∧ (auI m0 m m_96 N 1)), fun m_96 => Int.toNat (10000 - rd m_96 284 11 - 1000 * rd m_96 284 13), ?_, ?_⟩
                · exact ⟨g_m85, by exact ⟨by exact ⟨⟨xf85, by have := (un.1 (by omega)).2.1; omega⟩, exI_unit (hI_23.2 (un.1 (by omega)).1) un (by omega)⟩, by exact ai_un p2 cI_23 g_m_23 (by omega) un ua⟩⟩
                · intro m_96  hI_96
                  obtain ⟨g_m_96, hI_96⟩ := hI_96
                  obtain ⟨hI_96, cI_96⟩ := hI_96
                  have zb : z1_9 = 0 := by have := p1 (hI_12.1.2.2.2.2.2 (by omega)); omega
                  have f96 := hI_96.1.1.2.1
                  have t96 := ty_284_11 g_m_96.1
                  have eb96 := exI_b hI_96.2
                  refine CK.mono (ct_180   g_m_96.1 (by unfold rg; decide)) (by decide) ?_
                  rintro m99 v99 r_v99 ⟨e_m99, h_m99⟩
                  replace e_m99 := e_m99.symm
                  subst e_m99
                  refine ⟨(True) ∧ (rd m_96 284 13 = 0 → rd m_96 284 12 ≤ z1_9 ∨ ¬ rd m_96 287 (Int.toNat (rd m_96 284 11)) = 7), ?_, ?_⟩
                  · skip
                    refine ⟨fun hq => ?_, fun hq => ?_⟩
                    · skip
                      (exact ⟨by first | trivial | omega | (refine ⟨?_, ?_⟩ <;> omega), by omega⟩)
                    · skip
                      have t4 := ty_284_12 g_m_96.1
                      refine ⟨fun hq => ?_, fun hq => ?_⟩
                      · skip
                        (exact ⟨by first | trivial | omega | (refine ⟨?_, ?_⟩ <;> omega), by omega⟩)
                      · skip
                        refine CV.mono (ct_198   g_m_96 (by unfold rg; decide) hI_96.2) (by decide) ?_
                        rintro m115 ⟨g_m115, h_m115⟩
                        have co := h_m115.1
                        have o115 : rd m115 284 12 = rd m_96 284 12 := co.2.2.2.2 284 12 (by omega) (by omega)
                        have a115 : rd m115 284 11 = rd m_96 284 11 := co.2.2.2.2 284 11 (by omega) (by omega)
                        have b115 : rd m115 284 13 = rd m_96 284 13 := co.2.2.2.2 284 13 (by omega) (by omega)
                        have pos := co_pos h_m115.1.1 h_m115.2 (by omega)
                        have eb115 := exI_b co.1
                        have t5 := ty_284_48 g_m115.1
                        try have w6 : wr ((rd m115 284 48) - 1) = (rd m115 284 48) - 1 := wr_id (by omega) (by omega)
                        intro m125 e_m125
                        have g_m125 : PX m0 m125 := by rw [e_m125]; exact PX.wt g_m115 (tw_284_48 g_m115.1 ⟨by omega, by omega⟩) (inP_284 (by omega))
                        have o125 : rd m125 284 12 = rd m_96 284 12 := by rw [e_m125, rd_wt, if_neg (by omega)]; exact o115
                        have t7 := ty_284_12 g_m125.1
                        try have w8 : wr ((rd m125 284 12) - 1) = (rd m125 284 12) - 1 := wr_id (by omega) (by omega)
                        intro m135 e_m135
                        have g_m135 : PX m0 m135 := by rw [e_m135]; exact PX.wt g_m125 (tw_284_12 g_m125.1 ⟨by omega, by omega⟩) (inP_284 (by omega))
                        have a135 : rd m135 284 11 = rd m_96 284 11 := by rw [e_m135, rd_wt, if_neg (by omega), e_m125, rd_wt, if_neg (by omega)]; exact a115
                        have b135 : rd m135 284 13 = rd m_96 284 13 := by rw [e_m135, rd_wt, if_neg (by omega), e_m125, rd_wt, if_neg (by omega)]; exact b115
                        refine CV.mono (ct_183   g_m135.1 (by omega)) (by decide) ?_
                        rintro m139 ⟨hx_m139, h_m139⟩
                        have g_m139 : PX m0 m139 := PX.ft g_m135 hx_m139
                        have ft139 := ft_go hx_m139 h_m139.2.1 h_m139.2.2
                        have FR139 : ∀ i j : Nat, ¬ (i = 284 ∧ (j = 11 ∨ j = 12 ∨ j = 13 ∨ j = 14 ∨ j = 48)) → rd m139 i j = rd m115 i j := fun i j h1 => by
                          rw [ft139 i j (by omega), e_m135, rd_wt, if_neg (by omega), e_m125, rd_wt, if_neg (by omega)]
                        have w139 : rd m139 284 48 = rd m115 284 48 - 1 := by rw [ft139 284 48 (by omega), e_m135, rd_wt, if_neg (by omega), e_m125, rd_wt, if_pos ⟨rfl, rfl⟩, wr_i (wr_rg _), wr_id (by omega) (by omega)]
                        have o139 : rd m139 284 12 = rd m115 284 12 - 1 := by rw [ft139 284 12 (by omega), e_m135, rd_wt, if_pos ⟨rfl, rfl⟩, wr_i (wr_rg _), o125, wr_id (by omega) (by omega), o115]
                        have xi139 := exI_close co.1 pos.1 pos.2 FR139 w139 o139 (by omega)
                        have xf139 : exF m m139 := exF_co (exF_step2 hI_96.1.1 co) (fun i j h1 h2 h3 => FR139 i j (by omega)) (by omega) (by omega) (by rw [FR139 284 44 (by omega)]; exact Int.le_refl _) (by omega)
                        have r135 : ∀ j, rd m135 288 j = rd m_96 288 j := fun j => (g_m135.2.1 288 j (inP_no (by omega) (by omega))).trans (g_m_96.2.1 288 j (inP_no (by omega) (by omega))).symm
                        have ai139 : auI m0 m m139 N 1 := ai_close p2 cI_96 g_m_96 (by omega) (by omega) (by omega) a135 (by omega) r135 h_m139 (by omega)
                        exact ⟨⟨g_m139, by exact ⟨by exact ⟨⟨xf139, by omega⟩, xi139⟩, by exact ai139⟩⟩, by (try dsimp only); omega⟩
                  · intro   hR_145
                    obtain ⟨hR_145, cR_145⟩ := hR_145
                    refine CK.mono (ct_180   g_m_96.1 (by unfold rg; decide)) (by decide) ?_
                    rintro m148 v148 r_v148 ⟨e_m148, h_m148⟩
                    replace e_m148 := e_m148.symm
                    subst e_m148
                    refine ⟨fun s0_186 m_186 => PX m0 m_186 ∧ ((m_186 = m_96 ∧ ((s0_186 = 1 ∧ rd m_96 284 13 = 0 ∧ (rd m_96 287 (Int.toNat (rd m_96 284 11)) = 8 ∨ rd m_96 287 (Int.toNat (rd m_96 284 11)) = 9 ∨ rd m_96 287 (Int.toNat (rd m_96 284 11)) = 10 ∨ rd m_96 287 (Int.toNat (rd m_96 284 11)) = 15)) ∨ s0_186 = 0)) ∧ (s0_186 = 0 → rd m_96 284 13 = 0 → ¬ oM (rd m_96 287 (Int.toNat (rd m_96 284 11))))), ?_, ?_⟩
                    · skip
                      refine ⟨fun m_181 => PX m0 m_181 ∧ (m_181 = m_96 ∧ rd m_96 284 13 = 0 ∧ (rd m_96 287 (Int.toNat (rd m_96 284 11)) = 8 ∨ rd m_96 287 (Int.toNat (rd m_96 284 11)) = 9 ∨ rd m_96 287 (Int.toNat (rd m_96 284 11)) = 10 ∨ rd m_96 287 (Int.toNat (rd m_96 284 11)) = 15)), ?_, ?_⟩
                      · skip
                        refine ⟨fun hq => ?_, fun hq => ?_⟩
                        · skip
                          exact ⟨g_m_96, by exact ⟨rfl, by omega, by omega⟩⟩
                        · skip
                          refine CK.mono (ct_180   g_m_96.1 (by unfold rg; decide)) (by decide) ?_
                          rintro m157 v157 r_v157 ⟨e_m157, h_m157⟩
                          replace e_m157 := e_m157.symm
                          subst e_m157
                          refine ⟨fun hq => ?_, fun hq => ?_⟩
                          · skip
                            exact ⟨g_m_96, by exact ⟨rfl, by omega, by omega⟩⟩
                          · skip
                            refine CK.mono (ct_180   g_m_96.1 (by unfold rg; decide)) (by decide) ?_
                            rintro m166 v166 r_v166 ⟨e_m166, h_m166⟩
                            replace e_m166 := e_m166.symm
                            subst e_m166
                            refine ⟨fun hq => ?_, fun hq => ?_⟩
                            · skip
                              exact ⟨g_m_96, by exact ⟨rfl, by omega, by omega⟩⟩
                            · skip
                              refine CK.mono (ct_180   g_m_96.1 (by unfold rg; decide)) (by decide) ?_
                              rintro m175 v175 r_v175 ⟨e_m175, h_m175⟩
                              replace e_m175 := e_m175.symm
                              subst e_m175
                              refine ⟨fun hq => ?_, fun hq => ?_⟩
                              · skip
                                exact ⟨g_m_96, by exact ⟨by first | exact ⟨rfl, Or.inr rfl⟩ | exact ⟨rfl, Or.inl ⟨rfl, by omega, by omega⟩⟩, by first | exact fun h => absurd h (by omega) | (unfold oM; omega)⟩⟩
                              · skip
                                exact ⟨g_m_96, by exact ⟨rfl, by omega, by omega⟩⟩
                      · intro m_181  hR_181
                        obtain ⟨g_m_181, hR_181⟩ := hR_181
                        obtain ⟨q181, hR_181⟩ := hR_181
                        subst q181
                        exact ⟨g_m_181, by exact ⟨by first | exact ⟨rfl, Or.inr rfl⟩ | exact ⟨rfl, Or.inl ⟨rfl, by omega, by omega⟩⟩, by first | exact fun h => absurd h (by omega) | (unfold oM; omega)⟩⟩
                    · intro s0_186 m_186 r_s0_186 hR_186
                      obtain ⟨g_m_186, hR_186⟩ := hR_186
                      obtain ⟨hR_186, cR_186⟩ := hR_186
                      obtain ⟨q186, hR_186⟩ := hR_186
                      subst q186
                      refine ⟨fun hq => ?_, fun hq => ?_⟩
                      · skip
                        refine CK.mono (ct_180   g_m_186.1 (by unfold rg; decide)) (by decide) ?_
                        rintro m214 v214 r_v214 ⟨e_m214, h_m214⟩
                        replace e_m214 := e_m214.symm
                        subst e_m214
                        refine ⟨fun s1_234 m_234 => PX m0 m_234 ∧ (m_234 = m_186 ∧ ((s1_234 = 1 ∧ (rd m_186 287 (Int.toNat (rd m_186 284 11)) = 10 ∨ rd m_186 287 (Int.toNat (rd m_186 284 11)) = 15)) ∨ (s1_234 = 0 ∧ (rd m_186 287 (Int.toNat (rd m_186 284 11)) = 8 ∨ rd m_186 287 (Int.toNat (rd m_186 284 11)) = 9)))), ?_, ?_⟩
                        · skip
                          refine ⟨fun m_229 => PX m0 m_229 ∧ (m_229 = m_186 ∧ (rd m_186 287 (Int.toNat (rd m_186 284 11)) = 10 ∨ rd m_186 287 (Int.toNat (rd m_186 284 11)) = 15)), ?_, ?_⟩
                          · skip
                            refine ⟨fun hq => ?_, fun hq => ?_⟩
                            · skip
                              exact ⟨g_m_186, by exact ⟨rfl, by omega⟩⟩
                            · skip
                              refine CK.mono (ct_180   g_m_186.1 (by unfold rg; decide)) (by decide) ?_
                              rintro m223 v223 r_v223 ⟨e_m223, h_m223⟩
                              replace e_m223 := e_m223.symm
                              subst e_m223
                              refine ⟨fun hq => ?_, fun hq => ?_⟩
                              · skip
                                exact ⟨g_m_186, by first | exact ⟨rfl, Or.inr ⟨rfl, by omega⟩⟩ | exact ⟨rfl, Or.inl ⟨rfl, by omega⟩⟩⟩
                              · skip
                                exact ⟨g_m_186, by exact ⟨rfl, by omega⟩⟩
                          · intro m_229  hR_229
                            obtain ⟨g_m_229, hR_229⟩ := hR_229
                            obtain ⟨q229, hR_229⟩ := hR_229
                            subst q229
                            exact ⟨g_m_229, by first | exact ⟨rfl, Or.inr ⟨rfl, by omega⟩⟩ | exact ⟨rfl, Or.inl ⟨rfl, by omega⟩⟩⟩
                        · intro s1_234 m_234 r_s1_234 hR_234
                          obtain ⟨g_m_234, hR_234⟩ := hR_234
                          obtain ⟨q234, hR_234⟩ := hR_234
                          subst q234
                          refine CV.mono (ct_198   g_m_234 r_s1_234 hI_96.2) (by decide) ?_
                          rintro m234 ⟨g_m234, h_m234⟩
                          have co := h_m234.1
                          have t234 : rd m234 284 11 = rd m_234 284 11 := co.2.2.2.2 284 11 (by omega) (by omega)
                          have b234 : rd m234 284 13 = rd m_234 284 13 := co.2.2.2.2 284 13 (by omega) (by omega)
                          have k234 : rd m234 287 (Int.toNat (rd m234 284 11)) = rd m_234 287 (Int.toNat (rd m_234 284 11)) := by rw [t234]; exact co.2.2.2.2 287 _ (by omega) (by omega)
                          have eb234 := exI_b co.1
                          have t9 := ty_284_11 g_m234.1
                          refine ⟨⟨by omega, by omega⟩, ?_⟩
                          have t10 := ty_284_48 g_m234.1
                          refine ⟨⟨by omega, by omega⟩, ?_⟩
                          have t11 := ty_287 g_m234.1 (Int.toNat (rd m234 284 11))
                          intro m254 e_m254
                          have g_m254 : PX m0 m254 := by rw [e_m254]; exact PX.wt g_m234 (tw_316 g_m234.1 (rd_rg _ _ _)) inP_316
                          have w254 : rd m254 284 48 = rd m234 284 48 := by rw [e_m254, rd_wt, if_neg (by omega)]
                          have t12 := ty_284_48 g_m254.1
                          try have w13 : wr ((rd m254 284 48) + 1) = (rd m254 284 48) + 1 := wr_id (by omega) (by omega)
                          intro m262 e_m262
                          have g_m262 : PX m0 m262 := by rw [e_m262]; exact PX.wt g_m254 (tw_284_48 g_m254.1 ⟨by omega, by omega⟩) (inP_284 (by omega))
                          have a262 : rd m262 284 11 = rd m234 284 11 := by rw [e_m262, rd_wt, if_neg (by omega), e_m254, rd_wt, if_neg (by omega)]
                          have b262 : rd m262 284 13 = rd m234 284 13 := by rw [e_m262, rd_wt, if_neg (by omega), e_m254, rd_wt, if_neg (by omega)]
                          refine CV.mono (ct_183   g_m262.1 (by omega)) (by decide) ?_
                          rintro m266 ⟨hx_m266, h_m266⟩
                          have g_m266 : PX m0 m266 := PX.ft g_m262 hx_m266
                          have ft266 := ft_go hx_m266 h_m266.2.1 h_m266.2.2
                          have FR266 : ∀ i j : Nat, ¬ (i = 284 ∧ (j = 11 ∨ j = 12 ∨ j = 13 ∨ j = 14 ∨ j = 48)) → ¬ (i = 316 ∧ (j : Int) = rd m234 284 48) → rd m266 i j = rd m234 i j := fun i j h1 h2 => by
                            rw [ft266 i j (by omega), e_m262, rd_wt, if_neg (by omega), e_m254, rd_wt, if_neg (by omega)]
                          have o266 : rd m266 284 12 = rd m234 284 12 := by rw [ft266 284 12 (by omega), e_m262, rd_wt, if_neg (by omega), e_m254, rd_wt, if_neg (by omega)]
                          have w266 : rd m266 284 48 = rd m234 284 48 + 1 := by rw [ft266 284 48 (by omega), e_m262, rd_wt, if_pos ⟨rfl, rfl⟩, w254, wr_i (wr_rg _), wr_id (by omega) (by omega)]
                          have s266 : rd m266 316 (Int.toNat (rd m234 284 48)) = rd m234 287 (Int.toNat (rd m234 284 11)) := by rw [ft266 316 _ (by omega), e_m262, rd_wt, if_neg (by omega), e_m254, rd_wt, if_pos ⟨rfl, rfl⟩, wr_i (rd_rg _ _ _)]
                          have xf266 : exF m m266 := exF_co (exF_step2 hI_96.1.1 co) (fun i j h1 h2 h3 => FR266 i j (by omega) (by omega)) (by omega) (by omega) (by rw [FR266 284 44 (by omega) (by omega)]; exact Int.le_refl _) (by omega)
                          have r262 : ∀ j, rd m262 288 j = rd m_234 288 j := fun j => (g_m262.2.1 288 j (inP_no (by omega) (by omega))).trans (g_m_234.2.1 288 j (inP_no (by omega) (by omega))).symm
                          have o234 : rd m234 284 12 = rd m_234 284 12 := co.2.2.2.2 284 12 (by omega) (by omega)
                          have ai266 : auI m0 m m266 N 0 := ai_oper p2 cI_96 g_m_234 (by omega) (by unfold oM; omega) (by omega) (by omega) r262 h_m266 (by omega)
                          exact ⟨⟨g_m266, by exact ⟨by exact ⟨⟨by omega, xf266⟩, fun h => exI_op co.1 h_m234.2 (by omega) FR266 w266 o266 s266 (by omega)⟩, by exact ⟨fun _ => ai266, fun h => absurd fm0 h⟩⟩⟩, by (try dsimp only); omega⟩
                      · skip
                        have t14 := ty_284_12 g_m_186.1
                        refine ⟨fun m_204 => PX m0 m_204 ∧ ((exF m m_204 ∧ exI m_204 (rd m0 284 19) (rd m 284 44) 1 ∧ rd m 284 11 + 1 ≤ rd m_204 284 11 ∧ (rd m_204 284 13 = 0 → rd m_204 284 12 ≤ 0)) ∧ ((rd m_204 284 13 = 0 → AU (kC m0) (rd m 284 11) 0 0 = (0, rd m_204 284 11) ∧ rd m_204 284 11 ≤ N) ∧ (¬ rd m_204 284 13 = 0 → auX m0 m m_204))), ?_, ?_⟩
                        · skip
                          refine ⟨fun hq => ?_, fun hq => ?_⟩
                          · skip
                            exact ⟨g_m_186, by exact ⟨by first | exact ⟨exF_ft hI_96.1.1 ft201 (by omega) (by omega) (by omega), exI_ft hI_96.2 ft201 (by omega), by have := hI_96.1.1.2.2.1; have := hI_12.1.2.2.2.1; omega, fun h => by omega⟩ | exact ⟨hI_96.1.1, hI_96.2, by have := hI_12.1.2.2.2.1; omega, fun h => by omega⟩, by first | exact ai_z1 p2 cI_96 g_m_186 (fun z => cR_186 (by omega) z) (by omega) (by omega) h_m201 | exact ai_z0 p2 cI_96 g_m_186 (fun z => cR_186 (by omega) z) (by omega)⟩⟩
                          · skip
                            refine CV.mono (ct_181   g_m_186.1 (by unfold rg; decide) (by omega) (by omega)) (by decide) ?_
                            rintro m201 ⟨hx_m201, h_m201⟩
                            have g_m201 : PX m0 m201 := PX.ft g_m_186 hx_m201
                            have ft201 := ft_go hx_m201 h_m201.2.2.1 h_m201.2.2.2
                            exact ⟨g_m201, by exact ⟨by first | exact ⟨exF_ft hI_96.1.1 ft201 (by omega) (by omega) (by omega), exI_ft hI_96.2 ft201 (by omega), by have := hI_96.1.1.2.2.1; have := hI_12.1.2.2.2.1; omega, fun h => by omega⟩ | exact ⟨hI_96.1.1, hI_96.2, by have := hI_12.1.2.2.2.1; omega, fun h => by omega⟩, by first | exact ai_z1 p2 cI_96 g_m_186 (fun z => cR_186 (by omega) z) (by omega) (by omega) h_m201 | exact ai_z0 p2 cI_96 g_m_186 (fun z => cR_186 (by omega) z) (by omega)⟩⟩
                        · intro m_204  hR_204
                          obtain ⟨g_m_204, hR_204⟩ := hR_204
                          obtain ⟨hR_204, cR_204⟩ := hR_204
                          have xf204 : exF m m_204 := hR_204.1
                          refine CV.mono (ct_198   g_m_204 (by unfold rg; decide) hR_204.2.1) (by decide) ?_
                          rintro m206 ⟨g_m206, h_m206⟩
                          exact ⟨g_m206, by exact ⟨by first | exact exP_f hI_12.1.2 (by omega) | exact exP_f xf85 (by omega) | exact exP_e hR_204.1 hR_204.2.2.1 hR_204.2.2.2 g_m206.1 h_m206.1 h_m206.2, by first | exact ex_a1 cI_12 (by omega) | exact ex_a2 fm0 (ai_un p2 cI_23 g_m_23 (by omega) un ua) (by omega) | exact ex_a3 fm0 cR_204 h_m206.1⟩⟩
              · skip
                exact ⟨g_m85, by exact ⟨by first | exact exP_f hI_12.1.2 (by omega) | exact exP_f xf85 (by omega) | exact exP_e hR_204.1 hR_204.2.2.1 hR_204.2.2.2 g_m206.1 h_m206.1 h_m206.2, by first | exact ex_a1 cI_12 (by omega) | exact ex_a2 fm0 (ai_un p2 cI_23 g_m_23 (by omega) un ua) (by omega) | exact ex_a3 fm0 cR_204 h_m206.1⟩⟩
            · skip
              have t15 := ty_284_12 g_m_23.1
              refine ⟨fun m_46 => PX m0 m_46 ∧ ((ftRel m_23 m_46 ∧ rd m_46 284 11 = rd m_23 284 11 ∧ 0 ≤ rd m_46 284 13 ∧ (rd m_46 284 13 = 0 → ¬ rd m_23 284 12 = 6)) ∧ ((rd m_46 284 13 = 0 ∧ ¬ rd m_23 284 12 = 6) ∨ (rd m_23 284 12 = 6 ∧ rd m_46 284 13 = 2 ∧ rd m_46 284 14 = rd m_23 288 (Int.toNat (rd m_23 284 11))))), ?_, ?_⟩
              · skip
                refine ⟨fun hq => ?_, fun hq => ?_⟩
                · skip
                  exact ⟨g_m_23, by exact ⟨by first | exact ⟨fun _ _ _ => rfl, rfl, by omega, fun _ => by omega⟩ | exact ⟨ft_go hx_m43 h_m43.2.2.1 h_m43.2.2.2, h_m43.2.1, by omega, fun h => by omega⟩, by omega⟩⟩
                · skip
                  refine CV.mono (ct_181   g_m_23.1 (by unfold rg; decide) (by omega) (by omega)) (by decide) ?_
                  rintro m43 ⟨hx_m43, h_m43⟩
                  have g_m43 : PX m0 m43 := PX.ft g_m_23 hx_m43
                  exact ⟨g_m43, by exact ⟨by first | exact ⟨fun _ _ _ => rfl, rfl, by omega, fun _ => by omega⟩ | exact ⟨ft_go hx_m43 h_m43.2.2.1 h_m43.2.2.2, h_m43.2.1, by omega, fun h => by omega⟩, by omega⟩⟩
              · intro m_46  hR_46
                obtain ⟨g_m_46, hR_46⟩ := hR_46
                obtain ⟨hR_46, cR_46⟩ := hR_46
                have eb23 := exI_b (hI_23.2 (by omega))
                have o46 : rd m_46 284 12 = rd m_23 284 12 := hR_46.1 284 12 (by omega)
                have t16 := ty_284_12 g_m_46.1
                try have w17 : wr ((rd m_46 284 12) + 1) = (rd m_46 284 12) + 1 := wr_id (by omega) (by omega)
                intro m53 e_m53
                have g_m53 : PX m0 m53 := by rw [e_m53]; exact PX.wt g_m_46 (tw_284_12 g_m_46.1 ⟨by omega, by omega⟩) (inP_284 (by omega))
                have b53 : rd m53 284 13 = rd m_46 284 13 := by rw [e_m53, rd_wt, if_neg (by omega)]
                refine CV.mono (ct_183   g_m53.1 (by omega)) (by decide) ?_
                rintro m57 ⟨hx_m57, h_m57⟩
                have g_m57 : PX m0 m57 := PX.ft g_m53 hx_m57
                have ft57 := ft_go hx_m57 h_m57.2.1 h_m57.2.2
                have w57 : rd m57 284 48 = rd m_23 284 48 := by rw [ft57 284 48 (by omega), e_m53, rd_wt, if_neg (by omega), hR_46.1 284 48 (by omega)]
                have a53 : rd m53 284 11 = rd m_23 284 11 := by rw [e_m53, rd_wt, if_neg (by omega)]; exact hR_46.2.1
                have b53 : rd m53 284 13 = rd m_46 284 13 := by rw [e_m53, rd_wt, if_neg (by omega)]
                have t18 := ty_284_48 g_m57.1
                refine ⟨⟨by omega, by omega⟩, ?_⟩
                intro m70 e_m70
                have g_m70 : PX m0 m70 := by rw [e_m70]; exact PX.wt g_m57 (tw_316 g_m57.1 (by first | assumption | omega)) inP_316
                have w70 : rd m70 284 48 = rd m_23 284 48 := by rw [e_m70, rd_wt, if_neg (by omega)]; exact w57
                have t19 := ty_284_48 g_m70.1
                try have w20 : wr ((rd m70 284 48) + 1) = (rd m70 284 48) + 1 := wr_id (by omega) (by omega)
                intro m78 e_m78
                have g_m78 : PX m0 m78 := by rw [e_m78]; exact PX.wt g_m70 (tw_284_48 g_m70.1 ⟨by omega, by omega⟩) (inP_284 (by omega))
                have FR78 : ∀ i j : Nat, ¬ (i = 284 ∧ (j = 11 ∨ j = 12 ∨ j = 13 ∨ j = 14 ∨ j = 48)) → ¬ (i = 316 ∧ (j : Int) = rd m_23 284 48) → rd m78 i j = rd m_23 i j := fun i j h1 h2 => by
                  rw [e_m78, rd_wt, if_neg (by omega), e_m70, rd_wt, if_neg (by omega), ft57 i j (by omega), e_m53, rd_wt, if_neg (by omega), hR_46.1 i j (by omega)]
                have w78 : rd m78 284 48 = rd m_23 284 48 + 1 := by rw [e_m78, rd_wt, if_pos ⟨rfl, rfl⟩, w70, wr_i (wr_rg _), wr_id (by omega) (by omega)]
                have o78 : rd m78 284 12 = rd m_23 284 12 + 1 := by rw [e_m78, rd_wt, if_neg (by omega), e_m70, rd_wt, if_neg (by omega), ft57 284 12 (by omega), e_m53, rd_wt, if_pos ⟨rfl, rfl⟩, wr_i (wr_rg _), hR_46.1 284 12 (by omega), wr_id (by omega) (by omega)]
                have s78 : rd m78 316 (Int.toNat (rd m_23 284 48)) = 6 := by rw [e_m78, rd_wt, if_neg (by omega), e_m70, w57, rd_wt, if_pos ⟨rfl, rfl⟩]; rfl
                have t78 : rd m78 284 11 = rd m57 284 11 := by rw [e_m78, rd_wt, if_neg (by omega), e_m70, rd_wt, if_neg (by omega)]
                have f78 : rd m78 284 13 = rd m57 284 13 := by rw [e_m78, rd_wt, if_neg (by omega), e_m70, rd_wt, if_neg (by omega)]
                have r53 : ∀ j, rd m53 288 j = rd m_23 288 j := fun j => (g_m53.2.1 288 j (inP_no (by omega) (by omega))).trans (g_m_23.2.1 288 j (inP_no (by omega) (by omega))).symm
                have p53 : rd m53 284 14 = rd m_46 284 14 := by rw [e_m53, rd_wt, if_neg (by omega)]
                have p78 : rd m78 284 14 = rd m57 284 14 := by rw [e_m78, rd_wt, if_neg (by omega), e_m70, rd_wt, if_neg (by omega)]
                have q57 : rd m78 284 12 = rd m57 284 12 := by rw [e_m78, rd_wt, if_neg (by omega), e_m70, rd_wt, if_neg (by omega)]
                have o57 : rd m57 284 12 = rd m_23 284 12 + 1 := by omega
                have ai78 : auI m0 m m78 N 0 := ai_fr (ai_open p2 cI_23 g_m_23 (by omega) (by omega) cR_46 a53 b53 p53 r53 h_m57 o57) t78 (by omega) f78 p78
                exact ⟨⟨g_m78, by exact ⟨by exact ⟨⟨exF_co hI_23.1.1 (fun i j h1 h2 h3 => FR78 i j (by omega) (by omega)) (by omega) (by omega) (by rw [FR78 284 44 (by omega) (by omega)]; exact Int.le_refl _) (by omega), by omega⟩, fun h => exI_open (hI_23.2 (by omega)) FR78 w78 o78 s78 (by omega) (by omega)⟩, by exact ai78⟩⟩, by (try dsimp only); omega⟩
    · intro   hR_272
      exact ⟨g_m_12, by exact ⟨by first | exact exP_f hI_12.1.2 (by omega) | exact exP_f xf85 (by omega) | exact exP_e hR_204.1 hR_204.2.2.1 hR_204.2.2.2 g_m206.1 h_m206.1 h_m206.2, by first | exact ex_a1 cI_12 (by omega) | exact ex_a2 fm0 (ai_un p2 cI_23 g_m_23 (by omega) un ua) (by omega) | exact ex_a3 fm0 cR_204 h_m206.1⟩⟩
