/-- the model's tables stay -/
def tbk (m m2 : Mm) : Prop := ∀ i j : Nat, (i = 319 ∨ i = 320) → rd m2 i j = rd m i j
theorem tbk.wt {m m1 m2 : Mm} {i j : Nat} {v : Int} (h : tbk m m1) (hi : ¬ (i = 319 ∨ i = 320)) (e : m2 = wt m1 i j v) : tbk m m2 := fun a b q => by
  rw [e, rd_wt, if_neg (by omega)]; exact h a b q
theorem tb_kf {m m2 : Mm} (h : kfM m m2) : tbk m m2 := fun a b q => h.1 a b (by omega)
theorem tb_238 {m m188 m220 m224 m228 m233 m238 : Mm} {v w x : Int} (h : kfM m m188) (e220 : m220 = wt m188 284 18 v) (g : GX sBg m220 m224) (g2 : GX sMd m224 m228) (e233 : m233 = wt m228 284 60 w) (e238 : m238 = wt m233 284 72 x) : tbk m m238 := by
  have a : tbk m m220 := (tb_kf h).wt (by omega) e220
  have b : tbk m m228 := fun i j q => by
    rcases q with rfl | rfl
    · exact (g2.2.1 319 j rfl).trans ((g.2.1 319 j rfl).trans (a 319 j (Or.inl rfl)))
    · exact (g2.2.1 320 j rfl).trans ((g.2.1 320 j rfl).trans (a 320 j (Or.inr rfl)))
  exact (b.wt (by omega) e233).wt (by omega) e238
theorem tl_no {i j : Nat} (q : plR i j ∨ i = 322 ∨ i = 324 ∨ i = 339 ∨ i = 340 ∨ (i = 284 ∧ j = 60)) : ¬ (334 ≤ i ∧ i ≤ 336) ∧ ¬ (i = 284 ∧ j = 72) := by
  unfold plR at q
  omega
-- TippedCratesModel.read()I
set_option maxRecDepth 20000 in
set_option maxHeartbeats 4000000 in
theorem me_186 {m0 m : Mm}  {b w : Nat → Int} {n : Int} (g_m : MB m0 m)  (p0 : MI m) (p1 : tksC b n w m) (p2 : rd m 284 2 = n) (p3 : ∀ j : Nat, (j : Int) < n → uB m 285 j = b j) (p4 : ∀ q : Nat, q < 21 → ld m 291 q = w q) (p5 : ∀ p q : Nat, p < 21 → q < 21 → w p = w q → p = q) : CK 8 186 [.ref 284] m (fun m2 v => MB m0 m2 ∧ ((((MI m2 ∧ rd m2 284 2 = 0) ∧ (rdM m m2 n v)) ∧ ((v = 0 → pdM m2 (pRun (tX m2) 401 ps_0) (qRun (tX m2) 401 ps_0 dE) ∧ rwM m2) ∧ (¬ v = 0 → kfM m m2))) ∧ (tbk m m2))) := by
  refine br_186  ?_
  unfold P_186
  have t2 := ty_284_2 g_m.1
  have tl := ty_284_18 g_m.1
  have t1 := ty_284_2 g_m.1
  intro m5 e_m5
  have g_m5 : MB m0 m5 := by rw [e_m5]; exact MB.wt g_m (tw_284_4 g_m.1 ⟨by omega, by omega⟩) (by decide)
  have lv5 : lvFr m m5 := lv_wt (lv_refl m) (by omega) e_m5
  have f5 : rd m5 284 4 = n := by rw [e_m5, rd_wt, if_pos ⟨rfl, rfl⟩, wr_i (rd_rg _ _ _)]; exact p2
  have kf5 : kf m m5 := (kf_r m).wt (by omega) e_m5
  refine ⟨fun x1_10 m_10 => MB m0 m_10 ∧ ((((0 ≤ x1_10 ∧ x1_10 ≤ 2000) ∧ lvFr m m_10) ∧ ((rd m_10 284 4 = n ∧ x1_10 ≤ n) ∧ (∀ j : Nat, (j : Int) < x1_10 → rd m_10 286 j = rd m 285 j) ∧ cpF m m_10)) ∧ (kf m m_10)), fun x1_10 m_10 => Int.toNat (2000 - x1_10), ?_, ?_⟩
  · exact ⟨g_m5, by exact ⟨by exact ⟨by exact ⟨by omega, lv5⟩, by exact ⟨⟨f5, by omega⟩, fun j hj => by omega, cpf_0 e_m5⟩⟩, by exact kf5⟩⟩
  · intro x1_10 m_10 r_x1_10 hI_10
    obtain ⟨g_m_10, hI_10⟩ := hI_10
    obtain ⟨hI_10, dI_10⟩ := hI_10
    obtain ⟨hI_10, cI_10⟩ := hI_10
    have t10 := ty_284_4 g_m_10.1
    have t2 := ty_284_4 g_m_10.1
    refine ⟨fun hq => ?_, fun hq => ?_⟩
    · skip
      intro m38 e_m38
      have g_m38 : MB m0 m38 := by rw [e_m38]; exact MB.wt g_m_10 (tw_284_2 g_m_10.1 ⟨by omega, by omega⟩) (by decide)
      have lv38 : lvFr m m38 := lv_wt hI_10.2 (by omega) e_m38
      have z38 : rd m38 284 2 = 0 := by rw [e_m38, rd_wt, if_pos ⟨rfl, rfl⟩]; rfl
      have c38 : cpF m m38 := cI_10.2.2.wt (Or.inr (by omega)) e_m38
      have k38 : rd m38 284 4 = n := by rw [e_m38, rd_wt, if_neg (by omega)]; exact cI_10.1.1
      have x38 : ∀ j : Nat, (j : Int) < n → rd m38 286 j = rd m 285 j := fun j hj => by rw [e_m38, rd_wt, if_neg (by omega)]; exact cI_10.2.1 j (by omega)
      have tk38 : tksC b n w m38 := tks_fr p1 (fun _ => rfl) rfl (fun _ => rfl) (fun j => c38.2.1 2 j (by omega)) (fun j => c38.2.1 3 j (by omega)) (fun j => c38.2.2 4 j)
      have kf38 : kf m m38 := dI_10.wt (by omega) e_m38
      refine CV.mono (mx_178   (DX_refl g_m38.1) tk38 k38 (fun j hj => by have q := p3 j hj; unfold uB at q ⊢; rw [x38 j hj]; exact q) (fun q hq => (c38.2.2 291 q).trans (p4 q hq)) p5) (by decide) ?_
      rintro m42 ⟨hc_m42, h_m42⟩
      have g_m42 : MB m0 m42 := MB.dx g_m38 hc_m42
      have lv42 : lvFr m m42 := lv_dx lv38 hc_m42
      have z42 : rd m42 284 2 = 0 := by rw [hc_m42.2.1 284 2 rfl]; exact z38
      obtain ⟨N, tkm⟩ := h_m42
      have kf42 : kf m m42 := kf38.dx hc_m42
      intro m47 e_m47
      have g_m47 : MB m0 m47 := by rw [e_m47]; exact MB.wt g_m42 (tw_284_11 g_m42.1 ⟨by omega, by omega⟩) (by decide)
      have lv47 : lvFr m m47 := lv_wt lv42 (by omega) e_m47
      intro m52 e_m52
      have g_m52 : MB m0 m52 := by rw [e_m52]; exact MB.wt g_m47 (tw_284_12 g_m47.1 ⟨by omega, by omega⟩) (by decide)
      have lv52 : lvFr m m52 := lv_wt lv47 (by omega) e_m52
      intro m57 e_m57
      have g_m57 : MB m0 m57 := by rw [e_m57]; exact MB.wt g_m52 (tw_284_13 g_m52.1 (by first | assumption | omega)) (by decide)
      have lv57 : lvFr m m57 := lv_wt lv52 (by omega) e_m57
      intro m62 e_m62
      have g_m62 : MB m0 m62 := by rw [e_m62]; exact MB.wt g_m57 (tw_284_15 g_m57.1 (by first | assumption | omega)) (by decide)
      have lv62 : lvFr m m62 := lv_wt lv57 (by omega) e_m62
      have l62 : rd m62 284 18 = rd m 284 18 := lv62.1
      have t3 := ty_284_18 g_m62.1
      try have w4 : wr (1 - (rd m62 284 18)) = 1 - (rd m62 284 18) := wr_id (by omega) (by omega)
      intro m72 e_m72
      have g_m72 : MB m0 m72 := by rw [e_m72]; exact MB.wt g_m62 (tw_284_19 g_m62.1 ⟨by omega, by omega⟩) (by decide)
      have lv72 : lvFr m m72 := lv_wt lv62 (by omega) e_m72
      intro m77 e_m77
      have g_m77 : MB m0 m77 := by rw [e_m77]; exact MB.wt g_m72 (tw_284_20 g_m72.1 ⟨by omega, by omega⟩) (by decide)
      have lv77 : lvFr m m77 := lv_wt lv72 (by omega) e_m77
      have s77 : rd m77 284 19 = 1 - rd m 284 18 := by rw [e_m77, rd_wt, if_neg (by omega), e_m72, rd_wt, if_pos ⟨rfl, rfl⟩, wr_i (wr_rg _), l62, wr_id (by omega) (by omega)]
      have z77 : rd m77 284 2 = 0 := by rw [e_m77, rd_wt, if_neg (by omega), e_m72, rd_wt, if_neg (by omega), e_m62, rd_wt, if_neg (by omega), e_m57, rd_wt, if_neg (by omega), e_m52, rd_wt, if_neg (by omega), e_m47, rd_wt, if_neg (by omega)]; exact z42
      have n77_20 : rd m77 284 20 = 0 := by rw [e_m77, rd_wt, if_pos ⟨rfl, rfl⟩]; rfl
      have n77_15 : rd m77 284 15 = 0 := by rw [e_m77, rd_wt, if_neg (by omega), e_m72, rd_wt, if_neg (by omega), e_m62, rd_wt, if_pos ⟨rfl, rfl⟩]; rfl
      have n77_13 : rd m77 284 13 = 0 := by rw [e_m77, rd_wt, if_neg (by omega), e_m72, rd_wt, if_neg (by omega), e_m62, rd_wt, if_neg (by omega), e_m57, rd_wt, if_pos ⟨rfl, rfl⟩]; rfl
      have n77_12 : rd m77 284 12 = 0 := by rw [e_m77, rd_wt, if_neg (by omega), e_m72, rd_wt, if_neg (by omega), e_m62, rd_wt, if_neg (by omega), e_m57, rd_wt, if_neg (by omega), e_m52, rd_wt, if_pos ⟨rfl, rfl⟩]; rfl
      have n77_11 : rd m77 284 11 = 0 := by rw [e_m77, rd_wt, if_neg (by omega), e_m72, rd_wt, if_neg (by omega), e_m62, rd_wt, if_neg (by omega), e_m57, rd_wt, if_neg (by omega), e_m52, rd_wt, if_neg (by omega), e_m47, rd_wt, if_pos ⟨rfl, rfl⟩]; rfl
      have d77 : ∀ i j : Nat, ¬ i = 284 → rd m77 i j = rd m42 i j := fun i j q => by rw [e_m77, rd_wt, if_neg (by omega), e_m72, rd_wt, if_neg (by omega), e_m62, rd_wt, if_neg (by omega), e_m57, rd_wt, if_neg (by omega), e_m52, rd_wt, if_neg (by omega), e_m47, rd_wt, if_neg (by omega)]
      have l77 : ∀ i j : Nat, ld m77 i j = ld m42 i j := fun i j => by rw [e_m77, e_m72, e_m62, e_m57, e_m52, e_m47]; rfl
      have tk77 : tkN m77 N := tkn_of tkm hc_m42 d77 l77
      have ts77 : tksC b n w m77 := tks_fr tk38 (fun _ => rfl) rfl (fun _ => rfl) (fun j => by rw [d77 2 j (by omega)]; exact hc_m42.2.1 2 j rfl) (fun j => by rw [d77 3 j (by omega)]; exact hc_m42.2.1 3 j rfl) (fun j => by rw [l77]; exact hc_m42.2.2 4 j (by decide))
      have rf77 : rfE m m77 := rfe_a c38 hc_m42 (by rw [e_m38, rd_wt, if_neg (by omega)]; exact cI_10.2.2.2.1 284 72 (by omega)) d77 l77 (by rw [e_m77, rd_wt, if_neg (by omega), e_m72, rd_wt, if_neg (by omega), e_m62, rd_wt, if_neg (by omega), e_m57, rd_wt, if_neg (by omega), e_m52, rd_wt, if_neg (by omega), e_m47, rd_wt, if_neg (by omega)])
      have kf77 : kf m m77 := (((((kf42.wt (by omega) e_m47).wt (by omega) e_m52).wt (by omega) e_m57).wt (by omega) e_m62).wt (by omega) e_m72).wt (by omega) e_m77
      have t5 := ty_284_19 g_m77.1
      refine CV.mono (mx_185   (PX.refl g_m77.1) (rd_rg _ _ _) rfl) (by decide) ?_
      rintro m85 ⟨hc_m85, h_m85⟩
      have g_m85 : MB m0 m85 := MB.px g_m77 hc_m85
      obtain ⟨h_m85, pz⟩ := h_m85
      have pl := h_m85
      have s85 : rd m85 284 19 = rd m77 284 19 := (PX.s hc_m85).1
      have t6 := ty_284_19 g_m85.1
      try have w7 : wr (130 * (rd m85 284 19)) = 130 * (rd m85 284 19) := wr_id (by omega) (by omega)
      intro m97 e_m97
      have g_m97 : MB m0 m97 := by rw [e_m97]; exact MB.wt g_m85 (tw_284_38 g_m85.1 ⟨by omega, by omega⟩) (by decide)
      have s97 : rd m97 284 19 = rd m77 284 19 := by rw [e_m97, rd_wt, if_neg (by omega)]; exact s85
      have px97 : PX m77 m97 := by rw [e_m97]; exact PX.wt hc_m85 (tw_284_38 hc_m85.1 ⟨by omega, by omega⟩) (inP_284 (by omega))
      have t8 := ty_284_19 g_m97.1
      try have w9 : wr (420 * (rd m97 284 19)) = 420 * (rd m97 284 19) := wr_id (by omega) (by omega)
      intro m109 e_m109
      have g_m109 : MB m0 m109 := by rw [e_m109]; exact MB.wt g_m97 (tw_284_44 g_m97.1 ⟨by omega, by omega⟩) (by decide)
      have px109 : PX m77 m109 := by rw [e_m109]; exact PX.wt px97 (tw_284_44 px97.1 ⟨by omega, by omega⟩) (inP_284 (by omega))
      have ri : rdI m109 (rd m77 284 19) := rd_0 (by omega) pl n77_11 n77_12 n77_13 n77_15 n77_20 (v := wr (130 * rd m85 284 19)) (w := wr (420 * rd m97 284 19)) (by omega) (by omega) e_m97 e_m109
      have rm109 : RM (tX m77) N (rd m77 284 19) (ps_0) m109 := rz_0 tk77 pl pz (by omega) n77_11 n77_13 n77_15 n77_20 e_m97 e_m109
      refine ⟨fun m_112 => MB m0 m_112 ∧ ((PX m77 m_112 ∧ rdI m_112 (rd m77 284 19)) ∧ (qmI (tX m77) N (rd m77 284 19) (pRun (tX m77) 401 ps_0) (qRun (tX m77) 401 ps_0 dE) m_112)), fun m_112 => Int.toNat (10000 - rd m_112 284 11 - 1000 * rd m_112 284 13), ?_, ?_⟩
      · exact ⟨g_m109, by exact ⟨by exact ⟨px109, ri⟩, by exact ⟨0, ps_0, dE, rm109, by omega, rfl, fun _ => Int.le_refl _, rfl, fun _ => lms_0 pl (by omega) e_m97 e_m109⟩⟩⟩
      · intro m_112  hI_112
        obtain ⟨g_m_112, hI_112⟩ := hI_112
        obtain ⟨hI_112, cI_112⟩ := hI_112
        have f112 := hI_112.2.1
        have t112 := ty_284_11 hI_112.1.1
        obtain ⟨k, s2, E2, ra, rk, rb, rc, rq, rl⟩ := cI_112
        refine ⟨fun m_134 => MB m0 m_134 ∧ (((PX m77 m_134 ∧ rdI m_134 (rd m77 284 19)) ∧ (RM (tX m77) N (rd m77 284 19) ((pRun (tX m77) 401 ps_0)) m_134 ∧ (rd m_134 284 13 = 0 → rd m_134 287 (Int.toNat (rd m_134 284 11)) = 0))) ∧ (rd m_134 284 13 = 0 → LMs m_134 (rd m77 284 19) (qRun (tX m77) 401 ps_0 dE))), ?_, ?_⟩
        · skip
          refine ⟨fun hq => ?_, fun hq => ?_⟩
          · skip
            exact ⟨g_m_112, by exact ⟨by exact ⟨by exact hI_112, by exact rn_R ra tk77 hI_112.1 rb (by omega)⟩, by exact rn_L ra tk77 hI_112.1 rq rl (by omega)⟩⟩
          · skip
            refine CK.mono (ct_180   g_m_112.1 (by unfold rg; decide)) (by decide) ?_
            rintro m121 v121 r_v121 ⟨e_m121, h_m121⟩
            replace e_m121 := e_m121.symm
            subst e_m121
            refine ⟨fun hq => ?_, fun hq => ?_⟩
            · skip
              exact ⟨g_m_112, by exact ⟨by exact ⟨by exact hI_112, by exact rn_R ra tk77 hI_112.1 rb (by omega)⟩, by exact rn_L ra tk77 hI_112.1 rq rl (by omega)⟩⟩
            · skip
              refine CV.mono (mz_192   hI_112.1 hI_112.2 (by omega) tk77 ra) (by decide) ?_
              rintro m128 ⟨hc_m128, h_m128⟩
              have g_m128 : MB m0 m128 := MB.px g_m77 hc_m128
              obtain ⟨h_m128, q_m128⟩ := h_m128
              obtain ⟨h_m128, r_m128⟩ := h_m128
              have q112 : rd m_112 284 13 = 0 := by omega
              have t128 := ty_284_11 hc_m128.1
              have b128 := h_m128.1.1
              have c128 := h_m128.2
              exact ⟨⟨g_m128, by exact ⟨by exact ⟨hc_m128, h_m128.1⟩, by exact rn_Q ra tk77 hI_112.1 rk rb rc rq rl q112 (by omega) r_m128 h_m128.2 q_m128 hI_112.2 (by omega)⟩⟩, by (try dsimp only); omega⟩
        · intro m_134  hR_134
          obtain ⟨g_m_134, hR_134⟩ := hR_134
          obtain ⟨hR_134, dR_134⟩ := hR_134
          obtain ⟨hR_134, cR_134⟩ := hR_134
          have w134 := hR_134.2.2.1
          have s134 : rd m_134 284 19 = rd m77 284 19 := (PX.s hR_134.1).1
          refine ⟨fun m_158 => MB m0 m_158 ∧ (((PX m77 m_158 ∧ rdI m_158 (rd m77 284 19) ∧ (rd m_158 284 13 = 0 → rd m_158 284 15 = 0 → bdOk m_158 (rd m77 284 19))) ∧ (aM (pRun (tX m77) 401 ps_0) n m_158)) ∧ (rd m_158 284 13 = 0 → rd m_158 284 15 = 0 → dL (pRun (tX m77) 401 ps_0) (rd m77 284 19) m_158 ∧ LMs m_158 (rd m77 284 19) (qRun (tX m77) 401 ps_0 dE))), ?_, ?_⟩
          · skip
            refine ⟨fun hq => ?_, fun hq => ?_⟩
            · skip
              exact ⟨g_m_134, by exact ⟨by exact ⟨by first | exact ⟨hR_134.1, hR_134.2, fun h1 h2 => absurd h1 (by omega)⟩ | exact ⟨hR_134.1, hR_134.2, fun h1 h2 => bd_of s134 (h_m142.resolve_right (by omega))⟩ | exact ⟨PX.ft hR_134.1 hx_m155, rd_wrong hR_134.2 hx_m155 (by omega) (by omega) (by omega) (by omega), fun h1 h2 => by omega⟩, by first | exact am_b cR_134.1 cR_134.2 tk77 ts77 hR_134.1 (by omega) b_m142 (by omega) s134 w_m155 (by omega) | exact am_n cR_134.1 (by omega) b_m142 (by omega) s134 | exact am_f cR_134.1 hq⟩, by first | (have z := hx_m155; exact fun h1 h2 => by omega) | (have z := b_m142; exact fun h1 h2 => ⟨dL_of (cR_134.1.2.2 (cR_134.1.1.1.symm.trans h1)), dR_134 h1⟩) | exact fun h1 h2 => absurd h1 hq⟩⟩
            · skip
              refine CK.mono (mx_190   g_m_134.1) (by decide) ?_
              rintro m142 v142 r_v142 ⟨e_m142, h_m142⟩
              replace e_m142 := e_m142.symm
              subst e_m142
              obtain ⟨h_m142, b_m142⟩ := h_m142
              refine ⟨fun hq => ?_, fun hq => ?_⟩
              · skip
                exact ⟨g_m_134, by exact ⟨by exact ⟨by first | exact ⟨hR_134.1, hR_134.2, fun h1 h2 => absurd h1 (by omega)⟩ | exact ⟨hR_134.1, hR_134.2, fun h1 h2 => bd_of s134 (h_m142.resolve_right (by omega))⟩ | exact ⟨PX.ft hR_134.1 hx_m155, rd_wrong hR_134.2 hx_m155 (by omega) (by omega) (by omega) (by omega), fun h1 h2 => by omega⟩, by first | exact am_b cR_134.1 cR_134.2 tk77 ts77 hR_134.1 (by omega) b_m142 (by omega) s134 w_m155 (by omega) | exact am_n cR_134.1 (by omega) b_m142 (by omega) s134 | exact am_f cR_134.1 hq⟩, by first | (have z := hx_m155; exact fun h1 h2 => by omega) | (have z := b_m142; exact fun h1 h2 => ⟨dL_of (cR_134.1.2.2 (cR_134.1.1.1.symm.trans h1)), dR_134 h1⟩) | exact fun h1 h2 => absurd h1 hq⟩⟩
              · skip
                have t12 := ty_284_11 g_m_134.1
                refine CV.mono (mx_182   g_m_134.1 (by unfold rg; decide) (rd_rg _ _ _) (by omega) (by omega) (by omega)) (by decide) ?_
                rintro m155 ⟨hx_m155, h_m155⟩
                have g_m155 : MB m0 m155 := MB.ft g_m_134 hx_m155
                obtain ⟨h_m155, w_m155⟩ := h_m155
                exact ⟨g_m155, by exact ⟨by exact ⟨by first | exact ⟨hR_134.1, hR_134.2, fun h1 h2 => absurd h1 (by omega)⟩ | exact ⟨hR_134.1, hR_134.2, fun h1 h2 => bd_of s134 (h_m142.resolve_right (by omega))⟩ | exact ⟨PX.ft hR_134.1 hx_m155, rd_wrong hR_134.2 hx_m155 (by omega) (by omega) (by omega) (by omega), fun h1 h2 => by omega⟩, by first | exact am_b cR_134.1 cR_134.2 tk77 ts77 hR_134.1 (by omega) b_m142 (by omega) s134 w_m155 (by omega) | exact am_n cR_134.1 (by omega) b_m142 (by omega) s134 | exact am_f cR_134.1 hq⟩, by first | (have z := hx_m155; exact fun h1 h2 => by omega) | (have z := b_m142; exact fun h1 h2 => ⟨dL_of (cR_134.1.2.2 (cR_134.1.1.1.symm.trans h1)), dR_134 h1⟩) | exact fun h1 h2 => absurd h1 hq⟩⟩
          · intro m_158  hR_158
            obtain ⟨g_m_158, hR_158⟩ := hR_158
            obtain ⟨hR_158, dR_158⟩ := hR_158
            obtain ⟨hR_158, cR_158⟩ := hR_158
            have f158 := hR_158.2.1.1
            have w158 := hR_158.2.1.2.1
            refine ⟨fun s1_188 => s1_188 = if 0 < rd m_158 284 13 then rd m_158 284 14 else if 0 < rd m_158 284 15 then rd m_158 284 16 else -1, ?_, ?_⟩
            · skip
              refine ⟨fun hq => ?_, fun hq => ?_⟩
              · skip
                refine ⟨fun hq => ?_, fun hq => ?_⟩
                · skip
                  (first | (rw [if_neg (by omega), if_neg (by omega)]) | (rw [if_neg (by omega), if_pos (by omega)]) | (rw [if_pos (by omega)]))
                · skip
                  (first | (rw [if_neg (by omega), if_neg (by omega)]) | (rw [if_neg (by omega), if_pos (by omega)]) | (rw [if_pos (by omega)]))
              · skip
                (first | (rw [if_neg (by omega), if_neg (by omega)]) | (rw [if_neg (by omega), if_pos (by omega)]) | (rw [if_pos (by omega)]))
            · intro s1_188 r_s1_188 hR_188
              have cR_188 := hR_188
              intro m188 e_m188
              have g_m188 : MB m0 m188 := by rw [e_m188]; exact MB.wt g_m_158 (tw_284_17 g_m_158.1 (by first | assumption | omega)) (by decide)
              have f188 : rd m188 284 13 = rd m_158 284 13 := by rw [e_m188, rd_wt, if_neg (by omega)]
              have w188 : rd m188 284 15 = rd m_158 284 15 := by rw [e_m188, rd_wt, if_neg (by omega)]
              have z188 : rd m188 284 2 = 0 := by rw [e_m188, rd_wt, if_neg (by omega), hR_158.1.2.1 284 2 (inP_no (by omega) (by omega))]; exact z77
              have mi188 : MI m188 := MI_px p0 lv77 (by omega) s77 hR_158.1 g_m188.1 e_m188
              have s188 : rd m188 284 19 = rd m77 284 19 := by rw [e_m188, rd_wt, if_neg (by omega)]; exact (PX.s hR_158.1).1
              have a188 := an_m cR_158 f158 w158 e_m188 cR_188
              have rf188 : rfE m m188 := rfe_b rf77 hR_158.1 e_m188
              have x188 : tX m188 = tX m77 := tx_b hR_158.1 e_m188
              have kf188 : kfM m m188 := kf_px kf77 hR_158.1 s77 (by omega) e_m188
              refine ⟨fun hq => ?_, fun hq => ?_⟩
              · skip
                refine ⟨fun hq => ?_, fun hq => ?_⟩
                · skip
                  have t19 := ty_284_19 g_m188.1
                  intro m220 e_m220
                  have g_m220 : MB m0 m220 := by rw [e_m220]; exact MB.wt g_m188 (tw_284_18 g_m188.1 ⟨by omega, by omega⟩) (by decide)
                  have ok220 := rd_ok (by omega) hR_158.1.1 hR_158.2.1 hR_158.2.2 (by omega) (by omega) e_m188 s188 e_m220
                  have mi220 : MI m220 := ⟨g_m220.1, ok220.1, ok220.2.1⟩
                  have z220 : rd m220 284 2 = 0 := by rw [e_m220, rd_wt, if_neg (by omega)]; exact z188
                  have rx220 : rfX m188 m220 := (rfx_r _).wt (by omega) e_m220
                  have d220 := pd_220 (dR_158 (by omega) (by omega)) hR_158.1.1 hR_158.2.1 (by omega) e_m188 s188 e_m220 (by omega)
                  refine CV.mono (mz_214   g_m220.1 ok220.1 ok220.2.2) (by decide) ?_
                  rintro m224 ⟨hx_m224, h_m224⟩
                  have g_m224 : MB m0 m224 := MB.bg g_m220 hx_m224
                  have b_m224 := h_m224.2
                  have mi224 : MI m224 := MI_fr mi220 hx_m224.1 (hx_m224.2.1 284 18 rfl) (fun i j h => hx_m224.2.1 i j (sBg_no (by omega)))
                  have z224 : rd m224 284 2 = 0 := (hx_m224.2.1 284 2 rfl).trans z220
                  have rx224 : rfX m188 m224 := rx220.gx hx_m224 (fun _ => rfl) rfl (fun _ => rfl) (fun _ => rfl)
                  refine CV.mono (mz_215   g_m224.1) (by decide) ?_
                  rintro m228 ⟨hx_m228, h_m228⟩
                  have g_m228 : MB m0 m228 := MB.md g_m224 hx_m228
                  have b_m228 := h_m228.2
                  have mi228 : MI m228 := MI_fr mi224 hx_m228.1 (hx_m228.2.1 284 18 rfl) (fun i j h => hx_m228.2.1 i j (sMd_no (by omega)))
                  have z228 : rd m228 284 2 = 0 := (hx_m228.2.1 284 2 rfl).trans z224
                  have rx228 : rfX m188 m228 := rx224.gx hx_m228 (fun _ => rfl) rfl (fun _ => rfl) (fun _ => rfl)
                  intro m233 e_m233
                  have g_m233 : MB m0 m233 := by rw [e_m233]; exact MB.wt g_m228 (tw_284_60 g_m228.1 ⟨by omega, by omega⟩) (by decide)
                  have mi233 : MI m233 := MI_wt mi228 g_m233.1 (by omega) e_m233
                  have z233 : rd m233 284 2 = 0 := by rw [e_m233, rd_wt, if_neg (by omega)]; exact z228
                  have rx233 : rfX m188 m233 := rx228.wt (by omega) e_m233
                  intro m238 e_m238
                  have g_m238 : MB m0 m238 := by rw [e_m238]; exact MB.wt g_m233 (tw_284_72 g_m233.1 ⟨by omega, by omega⟩) (by decide)
                  have mi238 : MI m238 := MI_wt mi233 g_m238.1 (by omega) e_m238
                  have z238 : rd m238 284 2 = 0 := by rw [e_m238, rd_wt, if_neg (by omega)]; exact z233
                  have rx238 : rfX m188 m238 := rx233.wt (by omega) e_m238
                  have rz238 : rd m238 284 72 = 0 := by rw [e_m238, rd_wt, if_pos ⟨rfl, rfl⟩]; rfl
                  have d238 : pdM m238 (pRun (tX m77) 401 ps_0) (qRun (tX m77) 401 ps_0 dE) ∧ rwM m238 := pd_238 d220 b_m224 hx_m224 b_m228 hx_m228 e_m233 e_m238 (ty_284_18 g_m220.1).1
                  have tb238 : tbk m m238 := tb_238 kf188 e_m220 hx_m224 hx_m228 e_m233 e_m238
                  refine ⟨fun x1_243 m_243 => MB m0 m_243 ∧ (((((0 ≤ x1_243 ∧ x1_243 ≤ 3) ∧ MI m_243 ∧ rd m_243 284 2 = 0) ∧ (x1_243 ≤ 3 ∧ rfX m188 m_243 ∧ (rd m_243 284 72 = 0) ∧ ∀ j : Nat, (j : Int) < x1_243 → rd m_243 339 j = 0)) ∧ (pdM m_243 (pRun (tX m77) 401 ps_0) (qRun (tX m77) 401 ps_0 dE) ∧ rwM m_243)) ∧ (tbk m m_243)), fun x1_243 m_243 => Int.toNat (3 - x1_243), ?_, ?_⟩
                  · exact ⟨g_m238, by exact ⟨by exact ⟨by exact ⟨by exact ⟨by omega, mi238, z238⟩, by exact ⟨by omega, rx238, rz238, fun j hj => by omega⟩⟩, by exact d238⟩, by exact tb238⟩⟩
                  · intro x1_243 m_243 r_x1_243 hI_243
                    obtain ⟨g_m_243, hI_243⟩ := hI_243
                    obtain ⟨hI_243, eI_243⟩ := hI_243
                    obtain ⟨hI_243, dI_243⟩ := hI_243
                    obtain ⟨hI_243, cI_243⟩ := hI_243
                    refine ⟨fun hq => ?_, fun hq => ?_⟩
                    · skip
                      exact ⟨g_m_243, by exact ⟨by exact ⟨by exact ⟨by first | exact hI_243.2 | exact ⟨mi188, z188⟩, by first | exact rdm_0 a188 x188 (by omega) (by omega) rf188 cI_243.2.1 cI_243.2.2.1 (fun j hj => cI_243.2.2.2 j (by omega)) | exact rdm_x a188 x188 rf188 (by omega)⟩, by first | exact ⟨fun _ => by rw [cI_243.2.1.2.2.1.trans x188]; exact dI_243, fun w => absurd rfl w⟩ | exact ⟨fun w => by omega, fun _ => kf188⟩⟩, by first | exact eI_243 | exact tb_kf kf188⟩⟩
                    · skip
                      refine ⟨⟨by omega, by omega⟩, ?_⟩
                      intro m254 e_m254
                      have g_m254 : MB m0 m254 := by rw [e_m254]; exact MB.wt g_m_243 (tw_339 g_m_243.1 (nz_rg _)) (by decide)
                      have mi254 : MI m254 := MI_wt hI_243.2.1 g_m254.1 (by omega) e_m254
                      have z254 : rd m254 284 2 = 0 := by rw [e_m254, rd_wt, if_neg (by omega)]; exact hI_243.2.2
                      have r254 : rfX m188 m254 := cI_243.2.1.wt (by omega) e_m254
                      have d254 : pdM m254 (pRun (tX m77) 401 ps_0) (qRun (tX m77) 401 ps_0 dE) ∧ rwM m254 := pd_254 dI_243 e_m254 (ty_284_18 g_m_243.1).1
                      try have w20 : wr (x1_243 + 1) = x1_243 + 1 := wr_id (by omega) (by omega)
                      intro z1_255 e_z1_255
                      have r_z1_255 : rg z1_255 := by rw [e_z1_255]; exact wr_rg _
                      exact ⟨⟨g_m254, by exact ⟨by exact ⟨by exact ⟨by exact ⟨by omega, mi254, z254⟩, by exact ⟨by omega, r254, by rw [e_m254, rd_wt, if_neg (by omega)]; exact cI_243.2.2.1, fun j hj => by rw [e_m254, rd_wt]; split; exact nz0; exact cI_243.2.2.2 j (by omega)⟩⟩, by exact d254⟩, by exact eI_243.wt (by omega) e_m254⟩⟩, by (try dsimp only); omega⟩
                · skip
                  exact ⟨g_m188, by exact ⟨by exact ⟨by exact ⟨by first | exact hI_243.2 | exact ⟨mi188, z188⟩, by first | exact rdm_0 a188 x188 (by omega) (by omega) rf188 cI_243.2.1 cI_243.2.2.1 (fun j hj => cI_243.2.2.2 j (by omega)) | exact rdm_x a188 x188 rf188 (by omega)⟩, by first | exact ⟨fun _ => by rw [cI_243.2.1.2.2.1.trans x188]; exact dI_243, fun w => absurd rfl w⟩ | exact ⟨fun w => by omega, fun _ => kf188⟩⟩, by first | exact eI_243 | exact tb_kf kf188⟩⟩
              · skip
                exact ⟨g_m188, by exact ⟨by exact ⟨by exact ⟨by first | exact hI_243.2 | exact ⟨mi188, z188⟩, by first | exact rdm_0 a188 x188 (by omega) (by omega) rf188 cI_243.2.1 cI_243.2.2.1 (fun j hj => cI_243.2.2.2 j (by omega)) | exact rdm_x a188 x188 rf188 (by omega)⟩, by first | exact ⟨fun _ => by rw [cI_243.2.1.2.2.1.trans x188]; exact dI_243, fun w => absurd rfl w⟩ | exact ⟨fun w => by omega, fun _ => kf188⟩⟩, by first | exact eI_243 | exact tb_kf kf188⟩⟩
    · skip
      refine ⟨⟨by omega, by omega⟩, ?_⟩
      refine ⟨⟨by omega, by omega⟩, ?_⟩
      have t21 := ty_285 g_m_10.1 (Int.toNat x1_10)
      have nbf22 := nb_bd (rd m_10 285 (Int.toNat x1_10))
      intro m29 e_m29
      have g_m29 : MB m0 m29 := by rw [e_m29]; exact MB.wt g_m_10 (tw_286 g_m_10.1 ⟨by omega, by omega⟩) (by decide)
      have lv29 : lvFr m m29 := lv_wt hI_10.2 (by omega) e_m29
      have c29 : cpF m m29 := cI_10.2.2.wt (Or.inl rfl) e_m29
      have k29 : rd m29 284 4 = n := by rw [e_m29, rd_wt, if_neg (by omega)]; exact cI_10.1.1
      have t29 : ∀ j : Nat, (j : Int) < x1_10 + 1 → rd m29 286 j = rd m 285 j := cp_s cI_10.2.1 (by omega) cI_10.2.2.1 (ty_285 g_m_10.1 _) e_m29
      have kf29 : kf m m29 := dI_10.wt (by omega) e_m29
      try have w23 : wr (x1_10 + 1) = x1_10 + 1 := wr_id (by omega) (by omega)
      intro z1_30 e_z1_30
      have r_z1_30 : rg z1_30 := by rw [e_z1_30]; exact wr_rg _
      exact ⟨⟨g_m29, by exact ⟨by exact ⟨by exact ⟨by omega, lv29⟩, by exact ⟨⟨k29, by omega⟩, fun j hj => t29 j (by omega), c29⟩⟩, by exact kf29⟩⟩, by (try dsimp only); omega⟩
-- TippedCratesModel.tell(IIZ)I
set_option maxRecDepth 20000 in
theorem mz_277 {m : Mm} {x1 : Int} {x2 : Int} {x3 : Int}  (T_m : Ty m) (r_x1 : rg x1) (r_x2 : rg x2) (r_x3 : rg x3)  : CK 3 277 [.ref 284, iv x1, iv x2, iv x3] m (fun m2 v => GX sMd m m2 ∧ (((True) ∧ ((∀ j, rd m2 339 j = rd m 339 j) ∧ (((1 ≤ x1 ∧ x1 ≤ 5) ∧ (0 ≤ x2 ∧ x2 ≤ 9) ∧ rd m 284 72 < 20 ∧ v = rd m 284 72 ∧ rd m2 284 72 = rd m 284 72 + 1) ∨ (¬ ((1 ≤ x1 ∧ x1 ≤ 5) ∧ (0 ≤ x2 ∧ x2 ≤ 9) ∧ rd m 284 72 < 20) ∧ v = -1 ∧ rd m2 284 72 = rd m 284 72)))) ∧ (∀ A, mA m A → mA m2 A))) := by
  refine br_277 r_x1 r_x2 r_x3 ?_
  unfold P_277
  have g_m : GX sMd m m := ⟨T_m, fun _ _ _ => rfl, fun _ _ => rfl⟩
  have tt := ty_284_72 T_m
  have t1 := ty_284_72 T_m
  refine ⟨fun m_25 => GX sMd m m_25 ∧ (True ∧ ¬ ((1 ≤ x1 ∧ x1 ≤ 5) ∧ (0 ≤ x2 ∧ x2 ≤ 9) ∧ rd m 284 72 < 20) ∧ m_25 = m), ?_, ?_⟩
  · skip
    refine ⟨fun hq => ?_, fun hq => ?_⟩
    · skip
      exact ⟨g_m, by exact ⟨trivial, by omega, rfl⟩⟩
    · skip
      refine CK.mono (ct_206   r_x1 (by unfold rg; decide) (by unfold rg; decide)) (by decide) ?_
      rintro m12 v12 r_v12 ⟨e_m12, h_m12⟩
      replace e_m12 := e_m12.symm
      subst e_m12
      refine ⟨fun hq => ?_, fun hq => ?_⟩
      · skip
        exact ⟨g_m, by exact ⟨trivial, by omega, rfl⟩⟩
      · skip
        refine CK.mono (ct_211   r_x2) (by decide) ?_
        rintro m19 v19 r_v19 ⟨e_m19, h_m19⟩
        replace e_m19 := e_m19.symm
        subst e_m19
        refine ⟨fun hq => ?_, fun hq => ?_⟩
        · skip
          refine ⟨⟨by omega, by omega⟩, ?_⟩
          intro m36 e_m36
          have g_m36 : GX sMd m m36 := by rw [e_m36]; exact GX.wt g_m (tw_334 T_m ⟨by omega, by omega⟩) (Eq.refl true)
          have u36 : rd m36 284 72 = rd m 284 72 := by rw [e_m36, rd_wt, if_neg (by omega)]
          have t2 := ty_284_72 g_m36.1
          refine ⟨⟨by omega, by omega⟩, ?_⟩
          intro m46 e_m46
          have g_m46 : GX sMd m m46 := by rw [e_m46]; exact GX.wt g_m36 (tw_335 g_m36.1 (by first | assumption | omega)) (Eq.refl true)
          have u46 : rd m46 284 72 = rd m36 284 72 := by rw [e_m46, rd_wt, if_neg (by omega)]
          have t3 := ty_284_72 g_m46.1
          refine ⟨⟨by omega, by omega⟩, ?_⟩
          intro m56 e_m56
          have g_m56 : GX sMd m m56 := by rw [e_m56]; exact GX.wt g_m46 (tw_336 g_m46.1 (nz_rg _)) (Eq.refl true)
          have u56 : rd m56 284 72 = rd m46 284 72 := by rw [e_m56, rd_wt, if_neg (by omega)]
          have t4 := ty_284_72 g_m56.1
          try have w5 : wr ((rd m56 284 72) + 1) = (rd m56 284 72) + 1 := wr_id (by omega) (by omega)
          intro m64 e_m64
          have g_m64 : GX sMd m m64 := by rw [e_m64]; exact GX.wt g_m56 (tw_284_72 g_m56.1 ⟨by omega, by omega⟩) (Eq.refl true)
          have q64 : rd m64 284 72 = rd m 284 72 + 1 := by rw [e_m64, rd_wt, if_pos ⟨rfl, rfl⟩, wr_i (wr_rg _), u56, u46, u36, wr_id (by omega) (by omega)]
          have h64 : ∀ j, rd m64 339 j = rd m 339 j := fun j => by rw [e_m64, rd_wt, if_neg (by omega), e_m56, rd_wt, if_neg (by omega), e_m46, rd_wt, if_neg (by omega), e_m36, rd_wt, if_neg (by omega)]
          have t6 := ty_284_72 g_m64.1
          try have w7 : wr ((rd m64 284 72) - 1) = (rd m64 284 72) - 1 := wr_id (by omega) (by omega)
          exact ⟨g_m64, by exact ⟨by exact ⟨by first | trivial | omega | (refine ⟨?_, ?_⟩ <;> omega), by first | exact ⟨h64, Or.inl ⟨by omega, by omega, by omega, by rw [q64, wr_id (by omega) (by omega)]; omega, q64⟩⟩ | exact ⟨fun j => by rw [hR_25.2.2], Or.inr ⟨hR_25.2.1, rfl, by rw [hR_25.2.2]⟩⟩⟩, by first | (have u := e_m64; exact fun A h => mA_fr h (ty_284_18 T_m) (fun i j q => by have q2 := tl_no q; rw [e_m64, rd_wt, if_neg (by omega), e_m56, rd_wt, if_neg (by omega), e_m46, rd_wt, if_neg (by omega), e_m36, rd_wt, if_neg (by omega)])) | exact fun A h => by rw [hR_25.2.2]; exact h⟩⟩
        · skip
          exact ⟨g_m, by exact ⟨trivial, by omega, rfl⟩⟩
  · intro m_25  hR_25
    obtain ⟨g_m_25, hR_25⟩ := hR_25
    exact ⟨g_m_25, by exact ⟨by exact ⟨by first | trivial | omega | (refine ⟨?_, ?_⟩ <;> omega), by first | exact ⟨h64, Or.inl ⟨by omega, by omega, by omega, by rw [q64, wr_id (by omega) (by omega)]; omega, q64⟩⟩ | exact ⟨fun j => by rw [hR_25.2.2], Or.inr ⟨hR_25.2.1, rfl, by rw [hR_25.2.2]⟩⟩⟩, by first | (have u := e_m64; exact fun A h => mA_fr h (ty_284_18 T_m) (fun i j q => by have q2 := tl_no q; rw [e_m64, rd_wt, if_neg (by omega), e_m56, rd_wt, if_neg (by omega), e_m46, rd_wt, if_neg (by omega), e_m36, rd_wt, if_neg (by omega)])) | exact fun A h => by rw [hR_25.2.2]; exact h⟩⟩
-- TippedCratesModel.forget()I
set_option maxRecDepth 20000 in
theorem mz_278 {m : Mm}   (T_m : Ty m)   : CK 1 278 [.ref 284] m (fun m2 v => GX sMd m m2 ∧ (((True) ∧ ((∀ j, rd m2 339 j = rd m 339 j) ∧ v = rd m 284 72 ∧ rd m2 284 72 = 0)) ∧ (∀ A, mA m A → mA m2 A))) := by
  refine br_278  ?_
  unfold P_278
  have g_m : GX sMd m m := ⟨T_m, fun _ _ _ => rfl, fun _ _ => rfl⟩
  have t1 := ty_284_72 T_m
  intro z1_4 e_z1_4
  have r_z1_4 : rg z1_4 := by rw [e_z1_4]; exact (rd_rg _ _ _)
  intro m7 e_m7
  have g_m7 : GX sMd m m7 := by rw [e_m7]; exact GX.wt g_m (tw_284_72 T_m ⟨by omega, by omega⟩) (Eq.refl true)
  exact ⟨g_m7, by exact ⟨by exact ⟨by first | trivial | omega | (refine ⟨?_, ?_⟩ <;> omega), by exact ⟨fun j => by rw [e_m7, rd_wt, if_neg (by omega)], by first | rfl | omega, by rw [e_m7, rd_wt, if_pos ⟨rfl, rfl⟩]; rfl⟩⟩, by exact fun A h => mA_fr h (ty_284_18 T_m) (fun i j q => by have q2 := tl_no q; rw [e_m7, rd_wt, if_neg (by omega)])⟩⟩
