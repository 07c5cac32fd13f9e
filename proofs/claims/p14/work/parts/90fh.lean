/-- the class's tables of turns stay -/
def tkC (m m2 : Mm) : Prop := (∀ j, rd m2 32 j = rd m 32 j) ∧ ∀ j, rd m2 33 j = rd m 33 j
theorem tk_r (m : Mm) : tkC m m := ⟨fun _ => rfl, fun _ => rfl⟩
theorem tkC.trans {a b c : Mm} (h : tkC a b) (k : tkC b c) : tkC a c := ⟨fun j => (k.1 j).trans (h.1 j), fun j => (k.2 j).trans (h.2 j)⟩
theorem tk_gx {S : Nat → Nat → Bool} {m m2 : Mm} (g : GX S m m2) (h : ∀ j, S 32 j = false) (k : ∀ j, S 33 j = false) : tkC m m2 := ⟨fun j => g.2.1 32 j (h j), fun j => g.2.1 33 j (k j)⟩
theorem tkc_wt {m m2 : Mm} {i j : Nat} {v : Int} (hi : ¬ i = 32 ∧ ¬ i = 33) (e : m2 = wt m i j v) : tkC m m2 := ⟨fun b => by rw [e, rd_wt, if_neg (fun w => hi.1 w.1.symm)], fun b => by rw [e, rd_wt, if_neg (fun w => hi.2 w.1.symm)]⟩
-- TippedCrates.back(I)I
set_option maxRecDepth 20000 in
theorem fy_123 {m0 m : Mm} {x1 : Int}  (g_m : CIX m0 m) (r_x1 : rg x1)  : CK 1 123 [.ref 0, iv x1] m (fun m2 v => CIX m0 m2 ∧ (((((0 ≤ x1 ∧ x1 ≤ rd m 1 0 ∧ v = rd m 1 0 - x1 ∧ rd m2 1 0 = rd m 1 0 - x1) ∨ (¬ (0 ≤ x1 ∧ x1 ≤ rd m 1 0) ∧ v = -1 ∧ rd m2 1 0 = rd m 1 0)) ∧ (ks m m2)) ∧ (∀ A, cA m A → cA m2 A)) ∧ (tkC m m2))) := by
  refine br_123 r_x1 ?_
  unfold P_123
  have t1 := ty_1_0 g_m.1
  refine ⟨¬ (0 ≤ x1 ∧ x1 ≤ rd m 1 0), ?_, ?_⟩
  · skip
    refine ⟨fun hq => ?_, fun hq => ?_⟩
    · skip
      (first | trivial | omega | (refine ⟨?_, ?_⟩ <;> omega))
    · skip
      have t1 := ty_1_0 g_m.1
      refine ⟨fun hq => ?_, fun hq => ?_⟩
      · skip
        try have w2 : wr ((rd m 1 0) - x1) = (rd m 1 0) - x1 := wr_id (by omega) (by omega)
        intro m27 e_m27
        have g_m27 : CIX m0 m27 := by rw [e_m27]; exact CI_10 g_m ⟨by omega, by omega⟩
        have n27 : rd m27 1 0 = rd m 1 0 - x1 := by rw [e_m27, rd_wt, if_pos ⟨rfl, rfl⟩, wr_i (wr_rg _), wr_id (by omega) (by omega)]
        have t3 := ty_1_0 g_m27.1
        exact ⟨g_m27, by exact ⟨by exact ⟨by exact ⟨by first | trivial | omega | (refine ⟨?_, ?_⟩ <;> omega), by first | exact ks_wt e_m27 | exact ks_r _⟩, by first | (have u := e_m27; exact fun A h => cA_fr h (fun i j q => by rw [e_m27, rd_wt, if_neg (by unfold cAr at q; omega)])) | exact fun A h => h⟩, by first | exact tkc_wt (by omega) e_m27 | exact tk_r _⟩⟩
      · skip
        (first | trivial | omega | (refine ⟨?_, ?_⟩ <;> omega))
  · intro   hR_15
    exact ⟨g_m, by exact ⟨by exact ⟨by exact ⟨by first | trivial | omega | (refine ⟨?_, ?_⟩ <;> omega), by first | exact ks_wt e_m27 | exact ks_r _⟩, by first | (have u := e_m27; exact fun A h => cA_fr h (fun i j q => by rw [e_m27, rd_wt, if_neg (by unfold cAr at q; omega)])) | exact fun A h => h⟩, by first | exact tkc_wt (by omega) e_m27 | exact tk_r _⟩⟩
-- TippedCrates.tip(II)I
set_option maxRecDepth 20000 in
theorem fy_129 {m0 m : Mm} {x1 : Int} {x2 : Int}  (g_m : CIX m0 m) (r_x1 : rg x1) (r_x2 : rg x2) (p0 : ∃ E, LSd m 11 E) : CK 5 129 [.ref 0, iv x1, iv x2] m (fun m2 v => CIX m0 m2 ∧ ((((rd m2 1 0 = rd m 1 0) ∧ (kp m m2)) ∧ (∀ A, cA m A → (((0 ≤ x1 ∧ x1 < A.Y 3) ∧ (0 ≤ x2 ∧ x2 ≤ 3) ∧ canN A.Y A.r x1 x2) ∧ cA m2 (noA A (tiN A.Y A.E A.r x1 x2)) ∧ v = fC (tiN A.Y A.E A.r x1 x2) x1) ∨ (¬ ((0 ≤ x1 ∧ x1 < A.Y 3) ∧ (0 ≤ x2 ∧ x2 ≤ 3) ∧ canN A.Y A.r x1 x2) ∧ cA m2 A ∧ v = -1))) ∧ (tkC m m2))) := by
  refine br_129 r_x1 r_x2 ?_
  unfold P_129
  have ok := g_m.2.1.2.1
  have okn := ok.1
  have t73 := ty_7_3 g_m.1
  refine CK.mono (ct_162   g_m.1 r_x1) (by decide) ?_
  rintro m2 v2 r_v2 ⟨e_m2, h_m2⟩
  replace e_m2 := e_m2.symm
  subst e_m2
  refine ⟨fun m_31 => CIX m0 m_31 ∧ ((((rd m_31 1 0 = rd m 1 0) ∧ (kp m m_31)) ∧ (∀ A, cA m A → ¬ ((0 ≤ x1 ∧ x1 < A.Y 3) ∧ (0 ≤ x2 ∧ x2 ≤ 3) ∧ canN A.Y A.r x1 x2) ∧ cA m_31 A)) ∧ (tkC m m_31)), ?_, ?_⟩
  · skip
    refine ⟨fun hq => ?_, fun hq => ?_⟩
    · skip
      exact ⟨g_m, by exact ⟨by exact ⟨by exact ⟨by first | trivial | omega | (refine ⟨?_, ?_⟩ <;> omega), by exact kp_r _⟩, by first | (have u := h_m25; exact fun A h => ⟨fun w => cu_t0 h w.1 w.2.1 h_m25 (by omega) w.2.2, h⟩) | exact fun A h => ⟨fun w => by have := h.1.1.2.2.2.1; omega, h⟩⟩, by exact tk_r _⟩⟩
    · skip
      refine CK.mono (ct_165   r_x2) (by decide) ?_
      rintro m9 v9 r_v9 ⟨e_m9, h_m9⟩
      replace e_m9 := e_m9.symm
      subst e_m9
      refine ⟨fun hq => ?_, fun hq => ?_⟩
      · skip
        exact ⟨g_m, by exact ⟨by exact ⟨by exact ⟨by first | trivial | omega | (refine ⟨?_, ?_⟩ <;> omega), by exact kp_r _⟩, by first | (have u := h_m25; exact fun A h => ⟨fun w => cu_t0 h w.1 w.2.1 h_m25 (by omega) w.2.2, h⟩) | exact fun A h => ⟨fun w => by have := h.1.1.2.2.2.1; omega, h⟩⟩, by exact tk_r _⟩⟩
      · skip
        have fl := ok.2.1 (Int.toNat x1) (by omega)
        refine CK.mono (ct_1   g_m.1 st_274 r_x1 r_x2 (by omega) (by omega) fl) (by decide) ?_
        rintro m25 v25 r_v25 ⟨e_m25, h_m25⟩
        replace e_m25 := e_m25.symm
        subst e_m25
        refine ⟨fun hq => ?_, fun hq => ?_⟩
        · skip
          refine CV.mono (ct_21   g_m.1 st_274) (by decide) ?_
          rintro m41 ⟨hx_m41, h_m41⟩
          have g_m41 : CIX m0 m41 := CI_note g_m hx_m41 h_m41
          have c41 : rd m41 274 4 = rd m 274 4 := hx_m41.2.1 274 4 rfl
          have s41 : rd m41 1 0 = rd m 1 0 := hx_m41.2.1 1 0 rfl
          refine CV.mono (ey_7   g_m41.1 st_274 r_x1 r_x2 g_m41.2.1.2.1.2 (by omega) (by omega) g_m41.2.1.1.1 (lsE_P p0 hx_m41)) (by decide) ?_
          rintro m54 ⟨hx_m54, h_m54⟩
          have g_m54 : CIX m0 m54 := CI_sT g_m41 hx_m54 h_m54.1
          have s54 : rd m54 1 0 = rd m41 1 0 := hx_m54.2.1 1 0 (sT_no (by omega) (by omega) (by omega))
          have kp54 : kp m m54 := (kp_gx hx_m41 (fun j => rfl) (fun j => rfl) rfl rfl rfl).trans (kp_gx hx_m54 (fun j => sT_no (by omega) (by omega) (by omega)) (fun j => sT_no (by omega) (by omega) (by omega)) (sT_no (by omega) (by omega) (by omega)) (sT_no (by omega) (by omega) (by omega)) (sT_no (by omega) (by omega) (by omega)))
          have tk54 : tkC m m54 := (tk_gx hx_m41 (fun j => rfl) (fun j => rfl)).trans (tk_gx hx_m54 (fun j => sT_no (by omega) (by omega) (by omega)) (fun j => sT_no (by omega) (by omega) (by omega)))
          refine ⟨⟨by omega, by omega⟩, ?_⟩
          have t1 := ty_sF g_m54.1 st_274 (Int.toNat x1)
          exact ⟨g_m54, by exact ⟨by exact ⟨by exact ⟨by first | trivial | omega | (refine ⟨?_, ?_⟩ <;> omega), by first | exact kp54 | exact cR_31⟩, by first | (have u := h_m25; exact fun A h => Or.inl (cu_t1 h (by omega) (by omega) h_m25 (by omega) g_m.1 hx_m41 h_m41 hx_m54 h_m54.2)) | exact fun A h => Or.inr ⟨(dR_31 A h).1, (dR_31 A h).2, rfl⟩⟩, by first | exact tk54 | exact tR_31⟩⟩
        · skip
          exact ⟨g_m, by exact ⟨by exact ⟨by exact ⟨by first | trivial | omega | (refine ⟨?_, ?_⟩ <;> omega), by exact kp_r _⟩, by first | (have u := h_m25; exact fun A h => ⟨fun w => cu_t0 h w.1 w.2.1 h_m25 (by omega) w.2.2, h⟩) | exact fun A h => ⟨fun w => by have := h.1.1.2.2.2.1; omega, h⟩⟩, by exact tk_r _⟩⟩
  · intro m_31  hR_31
    obtain ⟨g_m_31, hR_31⟩ := hR_31
    obtain ⟨hR_31, tR_31⟩ := hR_31
    obtain ⟨hR_31, dR_31⟩ := hR_31
    obtain ⟨hR_31, cR_31⟩ := hR_31
    exact ⟨g_m_31, by exact ⟨by exact ⟨by exact ⟨by first | trivial | omega | (refine ⟨?_, ?_⟩ <;> omega), by first | exact kp54 | exact cR_31⟩, by first | (have u := h_m25; exact fun A h => Or.inl (cu_t1 h (by omega) (by omega) h_m25 (by omega) g_m.1 hx_m41 h_m41 hx_m54 h_m54.2)) | exact fun A h => Or.inr ⟨(dR_31 A h).1, (dR_31 A h).2, rfl⟩⟩, by first | exact tk54 | exact tR_31⟩⟩
-- TippedCrates.paint(II)Z
set_option maxRecDepth 20000 in
theorem fy_130 {m0 m : Mm} {x1 : Int} {x2 : Int}  (g_m : CIX m0 m) (r_x1 : rg x1) (r_x2 : rg x2)  : CK 3 130 [.ref 0, iv x1, iv x2] m (fun m2 v => CIX m0 m2 ∧ ((((rd m2 1 0 = rd m 1 0) ∧ (kp m m2)) ∧ (∀ A, cA m A → (paP A x1 x2 ∧ cA m2 (noA A (ro_u A.r (Int.toNat x1) x2)) ∧ v = 1) ∨ (¬ paP A x1 x2 ∧ cA m2 A ∧ v = 0))) ∧ (tkC m m2))) := by
  refine br_130 r_x1 r_x2 ?_
  unfold P_130
  have ok := g_m.2.1.2.1
  have okn := ok.1
  have t73 := ty_7_3 g_m.1
  have wb := wh_b (ty_7_0 g_m.1) (ty_7_1 g_m.1)
  refine CK.mono (ct_163   g_m.1 r_x1) (by decide) ?_
  rintro m2 v2 r_v2 ⟨e_m2, h_m2⟩
  replace e_m2 := e_m2.symm
  subst e_m2
  refine ⟨fun m_28 => CIX m0 m_28 ∧ ((((rd m_28 1 0 = rd m 1 0) ∧ (kp m m_28)) ∧ (∀ A, cA m A → ¬ paP A x1 x2 ∧ cA m_28 A)) ∧ (tkC m m_28)), ?_, ?_⟩
  · skip
    refine ⟨fun hq => ?_, fun hq => ?_⟩
    · skip
      exact ⟨g_m, by exact ⟨by exact ⟨by exact ⟨by first | trivial | omega | (refine ⟨?_, ?_⟩ <;> omega), by exact kp_r _⟩, by first | (have u := h_m9; exact fun A h => ⟨fun w => by have := w.2.1; omega, h⟩) | (have u := h_m9; exact fun A h => ⟨fun w => pq_C h w (by assumption), h⟩) | exact fun A h => ⟨fun w => pf_C h w h_m2 (by omega), h⟩⟩, by exact tk_r _⟩⟩
    · skip
      refine CK.mono (ct_164   r_x2) (by decide) ?_
      rintro m9 v9 r_v9 ⟨e_m9, h_m9⟩
      replace e_m9 := e_m9.symm
      subst e_m9
      refine ⟨fun hq => ?_, fun hq => ?_⟩
      · skip
        exact ⟨g_m, by exact ⟨by exact ⟨by exact ⟨by first | trivial | omega | (refine ⟨?_, ?_⟩ <;> omega), by exact kp_r _⟩, by first | (have u := h_m9; exact fun A h => ⟨fun w => by have := w.2.1; omega, h⟩) | (have u := h_m9; exact fun A h => ⟨fun w => pq_C h w (by assumption), h⟩) | exact fun A h => ⟨fun w => pf_C h w h_m2 (by omega), h⟩⟩, by exact tk_r _⟩⟩
      · skip
        refine ⟨⟨by omega, by omega⟩, ?_⟩
        have t1 := ty_sM g_m.1 st_274 (Int.toNat x1)
        refine ⟨fun hq => ?_, fun hq => ?_⟩
        · skip
          refine CK.mono (ct_31   r_x1) (by decide) ?_
          rintro m35 v35 r_v35 ⟨e_m35, h_m35⟩
          replace e_m35 := e_m35.symm
          subst e_m35
          refine ⟨fun m_53 => CIX m0 m_53 ∧ ((((rd m_53 1 0 = rd m 1 0) ∧ (kp m m_53)) ∧ (∀ A, cA m A → ¬ paP A x1 x2 ∧ cA m_53 A)) ∧ (tkC m m_53)), ?_, ?_⟩
          · skip
            refine ⟨fun hq => ?_, fun hq => ?_⟩
            · skip
              exact ⟨g_m, by exact ⟨by exact ⟨by exact ⟨by first | trivial | omega | (refine ⟨?_, ?_⟩ <;> omega), by exact kp_r _⟩, by first | (have u := h_m46; exact fun A h => ⟨fun w => pt_C h w h_m46 (by assumption), h⟩) | exact fun A h => ⟨fun w => ps_C h w h_m35 (by omega), h⟩⟩, by exact tk_r _⟩⟩
            · skip
              refine CK.mono (ct_77   g_m.1 st_274 r_x1) (by decide) ?_
              rintro m46 v46 r_v46 ⟨e_m46, h_m46⟩
              replace e_m46 := e_m46.symm
              subst e_m46
              refine ⟨fun hq => ?_, fun hq => ?_⟩
              · skip
                refine CV.mono (ct_21   g_m.1 st_274) (by decide) ?_
                rintro m63 ⟨hx_m63, h_m63⟩
                have g_m63 : CIX m0 m63 := CI_note g_m hx_m63 h_m63
                have s63 : rd m63 1 0 = rd m 1 0 := hx_m63.2.1 1 0 rfl
                refine ⟨⟨by omega, by omega⟩, ?_⟩
                intro m75 e_m75
                have g_m75 : CIX m0 m75 := by rw [e_m75]; exact CI_paint g_m63 ⟨by omega, by omega⟩
                have s75 : rd m75 1 0 = rd m63 1 0 := by rw [e_m75, rd_wt, if_neg (by omega)]
                have kp75 : kp m m75 := (kp_gx hx_m63 (fun j => rfl) (fun j => rfl) rfl rfl rfl).trans (kp_wt (by omega) e_m75)
                have tk75 : tkC m m75 := (tk_gx hx_m63 (fun j => rfl) (fun j => rfl)).trans (tkc_wt (by omega) e_m75)
                exact ⟨g_m75, by exact ⟨by exact ⟨by exact ⟨by first | trivial | omega | (refine ⟨?_, ?_⟩ <;> omega), by first | exact kp75 | exact cR_28 | exact cR_53⟩, by first | (have u := e_m75; exact fun A h => Or.inl (pa_C h h_m2 (by omega) (by omega) (by assumption) h_m35 (by omega) h_m46 (by omega) g_m.1 h_m63 e_m75 r_x2)) | (have u := dR_53; exact fun A h => Or.inr ⟨(dR_53 A h).1, (dR_53 A h).2, rfl⟩) | exact fun A h => Or.inr ⟨(dR_28 A h).1, (dR_28 A h).2, rfl⟩⟩, by first | exact tk75 | exact tR_28 | exact tR_53⟩⟩
              · skip
                exact ⟨g_m, by exact ⟨by exact ⟨by exact ⟨by first | trivial | omega | (refine ⟨?_, ?_⟩ <;> omega), by exact kp_r _⟩, by first | (have u := h_m46; exact fun A h => ⟨fun w => pt_C h w h_m46 (by assumption), h⟩) | exact fun A h => ⟨fun w => ps_C h w h_m35 (by omega), h⟩⟩, by exact tk_r _⟩⟩
          · intro m_53  hR_53
            obtain ⟨g_m_53, hR_53⟩ := hR_53
            obtain ⟨hR_53, tR_53⟩ := hR_53
            obtain ⟨hR_53, dR_53⟩ := hR_53
            obtain ⟨hR_53, cR_53⟩ := hR_53
            exact ⟨g_m_53, by exact ⟨by exact ⟨by exact ⟨by first | trivial | omega | (refine ⟨?_, ?_⟩ <;> omega), by first | exact kp75 | exact cR_28 | exact cR_53⟩, by first | (have u := e_m75; exact fun A h => Or.inl (pa_C h h_m2 (by omega) (by omega) (by assumption) h_m35 (by omega) h_m46 (by omega) g_m.1 h_m63 e_m75 r_x2)) | (have u := dR_53; exact fun A h => Or.inr ⟨(dR_53 A h).1, (dR_53 A h).2, rfl⟩) | exact fun A h => Or.inr ⟨(dR_28 A h).1, (dR_28 A h).2, rfl⟩⟩, by first | exact tk75 | exact tR_28 | exact tR_53⟩⟩
        · skip
          exact ⟨g_m, by exact ⟨by exact ⟨by exact ⟨by first | trivial | omega | (refine ⟨?_, ?_⟩ <;> omega), by exact kp_r _⟩, by first | (have u := h_m9; exact fun A h => ⟨fun w => by have := w.2.1; omega, h⟩) | (have u := h_m9; exact fun A h => ⟨fun w => pq_C h w (by assumption), h⟩) | exact fun A h => ⟨fun w => pf_C h w h_m2 (by omega), h⟩⟩, by exact tk_r _⟩⟩
  · intro m_28  hR_28
    obtain ⟨g_m_28, hR_28⟩ := hR_28
    obtain ⟨hR_28, tR_28⟩ := hR_28
    obtain ⟨hR_28, dR_28⟩ := hR_28
    obtain ⟨hR_28, cR_28⟩ := hR_28
    exact ⟨g_m_28, by exact ⟨by exact ⟨by exact ⟨by first | trivial | omega | (refine ⟨?_, ?_⟩ <;> omega), by first | exact kp75 | exact cR_28 | exact cR_53⟩, by first | (have u := e_m75; exact fun A h => Or.inl (pa_C h h_m2 (by omega) (by omega) (by assumption) h_m35 (by omega) h_m46 (by omega) g_m.1 h_m63 e_m75 r_x2)) | (have u := dR_53; exact fun A h => Or.inr ⟨(dR_53 A h).1, (dR_53 A h).2, rfl⟩) | exact fun A h => Or.inr ⟨(dR_28 A h).1, (dR_28 A h).2, rfl⟩⟩, by first | exact tk75 | exact tR_28 | exact tR_53⟩⟩
-- TippedCrates.minutes(I)I
set_option maxRecDepth 20000 in
theorem fy_131 {m0 m : Mm} {x1 : Int}  (g_m : CIX m0 m) (r_x1 : rg x1) (p0 : ∃ E, LSd m 11 E) : CK 7 131 [.ref 0, iv x1] m (fun m2 v => CIX m0 m2 ∧ ((((rd m2 1 0 = rd m 1 0) ∧ (kp m m2)) ∧ (∀ A, cA m A → (¬ (0 ≤ x1 ∧ x1 ≤ 60) ∧ cA m2 A ∧ v = -1) ∨ (x1 = 0 ∧ cA m2 A ∧ v = A.r 49) ∨ ((1 ≤ x1 ∧ x1 ≤ 60) ∧ cA m2 (noA A (goN A.Y A.E (A.Y 4) A.r (Int.toNat x1))) ∧ v = goN A.Y A.E (A.Y 4) A.r (Int.toNat x1) 49))) ∧ (tkC m m2))) := by
  refine br_131 r_x1 ?_
  unfold P_131
  have ok := g_m.2.1.2.1
  have okn := ok.1
  have t73 := ty_7_3 g_m.1
  refine CK.mono (ct_166   r_x1 (by unfold rg; decide) (by unfold rg; decide)) (by decide) ?_
  rintro m4 v4 r_v4 ⟨e_m4, h_m4⟩
  replace e_m4 := e_m4.symm
  subst e_m4
  refine ⟨fun hq => ?_, fun hq => ?_⟩
  · skip
    refine ⟨fun m_46 => CIX m0 m_46 ∧ ((((rd m_46 1 0 = rd m 1 0) ∧ (kp m m_46)) ∧ ((x1 = 0 ∧ ∀ A, cA m A → cA m_46 A) ∨ ((1 ≤ x1 ∧ x1 ≤ 60) ∧ ∀ A, cA m A → cA m_46 (noA A (goN A.Y A.E (A.Y 4) A.r (Int.toNat x1)))))) ∧ (tkC m m_46)), ?_, ?_⟩
    · skip
      refine ⟨fun hq => ?_, fun hq => ?_⟩
      · skip
        exact ⟨g_m, by exact ⟨by exact ⟨by exact ⟨by first | trivial | omega | (refine ⟨?_, ?_⟩ <;> omega), by first | exact kp43 | exact kp_r _⟩, by first | (have u := h_m43; exact Or.inr ⟨by omega, fun A h => cu_g h g_m.1 h_m24 hx_m43 h_m43.2⟩) | exact Or.inl ⟨by omega, fun A h => h⟩⟩, by first | exact tk43 | exact tk_r _⟩⟩
      · skip
        refine CV.mono (ct_21   g_m.1 st_274) (by decide) ?_
        rintro m24 ⟨hx_m24, h_m24⟩
        have g_m24 : CIX m0 m24 := CI_note g_m hx_m24 h_m24
        have s24 : rd m24 1 0 = rd m 1 0 := hx_m24.2.1 1 0 rfl
        refine CV.mono (ey_8   g_m24.1 st_274 r_x1 (rd_rg _ _ _) g_m24.2.1.2.1.2 g_m24.2.1.1.1 (by omega) (lsE_P p0 hx_m24)) (by decide) ?_
        rintro m43 ⟨hx_m43, h_m43⟩
        have g_m43 : CIX m0 m43 := CI_sT g_m24 hx_m43 h_m43.1.1
        have s43 : rd m43 1 0 = rd m24 1 0 := hx_m43.2.1 1 0 (sT_no (by omega) (by omega) (by omega))
        have kp43 : kp m m43 := (kp_gx hx_m24 (fun j => rfl) (fun j => rfl) rfl rfl rfl).trans (kp_gx hx_m43 (fun j => sT_no (by omega) (by omega) (by omega)) (fun j => sT_no (by omega) (by omega) (by omega)) (sT_no (by omega) (by omega) (by omega)) (sT_no (by omega) (by omega) (by omega)) (sT_no (by omega) (by omega) (by omega)))
        have tk43 : tkC m m43 := (tk_gx hx_m24 (fun j => rfl) (fun j => rfl)).trans (tk_gx hx_m43 (fun j => sT_no (by omega) (by omega) (by omega)) (fun j => sT_no (by omega) (by omega) (by omega)))
        exact ⟨g_m43, by exact ⟨by exact ⟨by exact ⟨by first | trivial | omega | (refine ⟨?_, ?_⟩ <;> omega), by first | exact kp43 | exact kp_r _⟩, by first | (have u := h_m43; exact Or.inr ⟨by omega, fun A h => cu_g h g_m.1 h_m24 hx_m43 h_m43.2⟩) | exact Or.inl ⟨by omega, fun A h => h⟩⟩, by first | exact tk43 | exact tk_r _⟩⟩
    · intro m_46  hR_46
      obtain ⟨g_m_46, hR_46⟩ := hR_46
      obtain ⟨hR_46, tR_46⟩ := hR_46
      obtain ⟨hR_46, dR_46⟩ := hR_46
      obtain ⟨hR_46, cR_46⟩ := hR_46
      exact ⟨g_m_46, by exact ⟨by exact ⟨by exact ⟨by first | trivial | omega | (refine ⟨?_, ?_⟩ <;> omega), by first | exact cR_46 | exact kp_r _⟩, by first | (have u := dR_46; exact fun A h => cu_g2 h dR_46) | exact fun A h => Or.inl ⟨by omega, h, rfl⟩⟩, by first | exact tR_46 | exact tk_r _⟩⟩
  · skip
    exact ⟨g_m, by exact ⟨by exact ⟨by exact ⟨by first | trivial | omega | (refine ⟨?_, ?_⟩ <;> omega), by first | exact cR_46 | exact kp_r _⟩, by first | (have u := dR_46; exact fun A h => cu_g2 h dR_46) | exact fun A h => Or.inl ⟨by omega, h, rfl⟩⟩, by first | exact tR_46 | exact tk_r _⟩⟩
-- TippedCrates.undo()Z
set_option maxRecDepth 20000 in
theorem fy_132 {m0 m : Mm}   (g_m : CIX m0 m)   : CK 3 132 [.ref 0] m (fun m2 v => CIX m0 m2 ∧ ((((rd m2 1 0 = rd m 1 0) ∧ (kp m m2)) ∧ (∀ A, cA m A → (v = 0 ∧ A.n = 0 ∧ cA m2 A) ∨ (v = 1 ∧ ¬ A.n = 0 ∧ cA m2 (unB A)))) ∧ (tkC m m2))) := by
  refine br_132  ?_
  unfold P_132
  refine CK.mono (ct_22   g_m.1 st_274) (by decide) ?_
  rintro m8 v8 r_v8 ⟨hx_m8, h_m8⟩
  have g_m8 : CIX m0 m8 := CI_back g_m hx_m8 h_m8
  have s8 : rd m8 1 0 = rd m 1 0 := hx_m8.2.1 1 0 rfl
  exact ⟨by omega, ⟨g_m8, by exact ⟨by exact ⟨by exact ⟨by first | trivial | omega | (refine ⟨?_, ?_⟩ <;> omega), by exact (kp_gx hx_m8 (fun j => sPt_no (by omega) (by omega)) (fun j => sPt_no (by omega) (by omega)) (sPt_no (by omega) (by omega)) (sPt_no (by omega) (by omega)) (sPt_no (by omega) (by omega)))⟩, by exact fun A h => cu_un h g_m.1 hx_m8 h_m8⟩, by exact (tk_gx hx_m8 (fun j => sPt_no (by omega) (by omega)) (fun j => sPt_no (by omega) (by omega)))⟩⟩⟩
-- TippedCrates.restore(I)Z
set_option maxRecDepth 20000 in
theorem fy_156 {m0 m : Mm} {x1 : Int}  (g_m : CIX m0 m) (r_x1 : rg x1)  : CK 3 156 [.ref 0, iv x1] m (fun m2 v => CIX m0 m2 ∧ ((((rd m2 1 0 = rd m 1 0) ∧ (kp m m2 ∧ ((v = 1 ∧ (0 ≤ x1 ∧ x1 ≤ 2) ∧ ¬ rd m 58 (Int.toNat x1) = 0) ∨ (v = 0 ∧ ((x1 < 0 ∨ 2 < x1) ∨ rd m 58 (Int.toNat x1) = 0))))) ∧ (∀ A, cA m A → (v = 0 ∧ cA m2 A) ∨ (v = 1 ∧ (0 ≤ x1 ∧ x1 ≤ 2) ∧ ¬ rd m 58 (Int.toNat x1) = 0 ∧ cA m2 (reA A (Int.toNat x1))))) ∧ (tkC m m2))) := by
  refine br_156 r_x1 ?_
  unfold P_156
  refine CK.mono (ct_166   r_x1 (by unfold rg; decide) (by unfold rg; decide)) (by decide) ?_
  rintro m3 v3 r_v3 ⟨e_m3, h_m3⟩
  replace e_m3 := e_m3.symm
  subst e_m3
  refine ⟨fun s0_29 m_29 => CIX m0 m_29 ∧ (((((s0_29 = 0 ∨ s0_29 = 1) ∧ rd m_29 1 0 = rd m 1 0) ∧ (kp m m_29 ∧ ((s0_29 = 1 ∧ (0 ≤ x1 ∧ x1 ≤ 2) ∧ ¬ rd m 58 (Int.toNat x1) = 0) ∨ (s0_29 = 0 ∧ ((x1 < 0 ∨ 2 < x1) ∨ rd m 58 (Int.toNat x1) = 0))))) ∧ (∀ A, cA m A → (s0_29 = 0 ∧ cA m_29 A) ∨ (s0_29 = 1 ∧ (0 ≤ x1 ∧ x1 ≤ 2) ∧ ¬ rd m 58 (Int.toNat x1) = 0 ∧ cA m_29 (reA A (Int.toNat x1))))) ∧ (tkC m m_29)), ?_, ?_⟩
  · skip
    refine ⟨fun m_28 => CIX m0 m_28 ∧ ((((rd m_28 1 0 = rd m 1 0) ∧ (kp m m_28 ∧ ((x1 < 0 ∨ 2 < x1) ∨ rd m 58 (Int.toNat x1) = 0))) ∧ (∀ A, cA m A → cA m_28 A)) ∧ (tkC m m_28)), ?_, ?_⟩
    · skip
      refine ⟨fun hq => ?_, fun hq => ?_⟩
      · skip
        exact ⟨g_m, by exact ⟨by exact ⟨by exact ⟨by first | trivial | omega | (refine ⟨?_, ?_⟩ <;> omega), by first | exact ⟨(kp_gx hx_m18 (fun j => sPt_no (by omega) (by omega)) (fun j => sPt_no (by omega) (by omega)) (sPt_no (by omega) (by omega)) (sPt_no (by omega) (by omega)) (sPt_no (by omega) (by omega))), by omega⟩ | exact ⟨kp_r _, by omega⟩⟩, by first | (have u := h_m18; exact fun A h => cu_r0 h h_m18 (by omega)) | exact fun A h => h⟩, by first | exact (tk_gx hx_m18 (fun j => sPt_no (by omega) (by omega)) (fun j => sPt_no (by omega) (by omega))) | exact tk_r _⟩⟩
      · skip
        refine CK.mono (ct_24   g_m.1 st_274 r_x1 (by omega)) (by decide) ?_
        rintro m18 v18 r_v18 ⟨hx_m18, h_m18⟩
        have g_m18 : CIX m0 m18 := CI_goon g_m hx_m18 h_m18 ⟨by omega, by omega⟩
        have s18 : rd m18 1 0 = rd m 1 0 := hx_m18.2.1 1 0 rfl
        refine ⟨fun hq => ?_, fun hq => ?_⟩
        · skip
          exact ⟨g_m18, by exact ⟨by exact ⟨by exact ⟨by first | trivial | omega | (refine ⟨?_, ?_⟩ <;> omega), by first | exact ⟨(kp_gx hx_m18 (fun j => sPt_no (by omega) (by omega)) (fun j => sPt_no (by omega) (by omega)) (sPt_no (by omega) (by omega)) (sPt_no (by omega) (by omega)) (sPt_no (by omega) (by omega))), by omega⟩ | exact ⟨kp_r _, by omega⟩⟩, by first | (have u := h_m18; exact fun A h => cu_r0 h h_m18 (by omega)) | exact fun A h => h⟩, by first | exact (tk_gx hx_m18 (fun j => sPt_no (by omega) (by omega)) (fun j => sPt_no (by omega) (by omega))) | exact tk_r _⟩⟩
        · skip
          exact ⟨g_m18, by exact ⟨by exact ⟨by exact ⟨by first | trivial | omega | (refine ⟨?_, ?_⟩ <;> omega), by first | exact ⟨(kp_gx hx_m18 (fun j => sPt_no (by omega) (by omega)) (fun j => sPt_no (by omega) (by omega)) (sPt_no (by omega) (by omega)) (sPt_no (by omega) (by omega)) (sPt_no (by omega) (by omega))), Or.inl ⟨rfl, by omega, by omega⟩⟩ | exact ⟨cR_28.1, Or.inr ⟨rfl, cR_28.2⟩⟩⟩, by first | (have u := h_m18; exact fun A h => Or.inr (cu_r1 h (by omega) hx_m18 h_m18 (by omega))) | exact fun A h => Or.inl ⟨rfl, dR_28 A h⟩⟩, by first | exact (tk_gx hx_m18 (fun j => sPt_no (by omega) (by omega)) (fun j => sPt_no (by omega) (by omega))) | exact tR_28⟩⟩
    · intro m_28  hR_28
      obtain ⟨g_m_28, hR_28⟩ := hR_28
      obtain ⟨hR_28, tR_28⟩ := hR_28
      obtain ⟨hR_28, dR_28⟩ := hR_28
      obtain ⟨hR_28, cR_28⟩ := hR_28
      exact ⟨g_m_28, by exact ⟨by exact ⟨by exact ⟨by first | trivial | omega | (refine ⟨?_, ?_⟩ <;> omega), by first | exact ⟨(kp_gx hx_m18 (fun j => sPt_no (by omega) (by omega)) (fun j => sPt_no (by omega) (by omega)) (sPt_no (by omega) (by omega)) (sPt_no (by omega) (by omega)) (sPt_no (by omega) (by omega))), Or.inl ⟨rfl, by omega, by omega⟩⟩ | exact ⟨cR_28.1, Or.inr ⟨rfl, cR_28.2⟩⟩⟩, by first | (have u := h_m18; exact fun A h => Or.inr (cu_r1 h (by omega) hx_m18 h_m18 (by omega))) | exact fun A h => Or.inl ⟨rfl, dR_28 A h⟩⟩, by first | exact (tk_gx hx_m18 (fun j => sPt_no (by omega) (by omega)) (fun j => sPt_no (by omega) (by omega))) | exact tR_28⟩⟩
  · intro s0_29 m_29 r_s0_29 hR_29
    obtain ⟨g_m_29, hR_29⟩ := hR_29
    obtain ⟨hR_29, tR_29⟩ := hR_29
    obtain ⟨hR_29, dR_29⟩ := hR_29
    obtain ⟨hR_29, cR_29⟩ := hR_29
    exact ⟨by omega, ⟨g_m_29, by exact ⟨by exact ⟨by exact ⟨by first | trivial | omega | (refine ⟨?_, ?_⟩ <;> omega), by exact cR_29⟩, by exact dR_29⟩, by exact tR_29⟩⟩⟩
-- TippedCrates.hold(I)Z
set_option maxRecDepth 20000 in
theorem fy_155 {m0 m : Mm} {x1 : Int}  (g_m : CIX m0 m) (r_x1 : rg x1)  : CK 3 155 [.ref 0, iv x1] m (fun m2 v => CIX m0 m2 ∧ ((((rd m2 1 0 = rd m 1 0 ∧ ((v = 1 ∧ 0 ≤ x1 ∧ x1 ≤ 2) ∨ (v = 0 ∧ (x1 < 0 ∨ 2 < x1)))) ∧ (kq m m2 ∧ (((0 ≤ x1 ∧ x1 ≤ 2) ∧ rd m2 58 (Int.toNat x1) = 1 ∧ ∀ j : Nat, ¬ j = Int.toNat x1 → rd m2 58 j = rd m 58 j) ∨ ((x1 < 0 ∨ 2 < x1) ∧ ∀ j, rd m2 58 j = rd m 58 j)))) ∧ (∀ A, cA m A → ((0 ≤ x1 ∧ x1 ≤ 2) → cA m2 (hoA A (Int.toNat x1))) ∧ (¬ (0 ≤ x1 ∧ x1 ≤ 2) → cA m2 A))) ∧ (tkC m m2))) := by
  refine br_155 r_x1 ?_
  unfold P_155
  refine CK.mono (ct_166   r_x1 (by unfold rg; decide) (by unfold rg; decide)) (by decide) ?_
  rintro m3 v3 r_v3 ⟨e_m3, h_m3⟩
  replace e_m3 := e_m3.symm
  subst e_m3
  refine ⟨fun hq => ?_, fun hq => ?_⟩
  · skip
    refine CV.mono (ct_23   g_m.1 st_274 r_x1 (by omega)) (by decide) ?_
    rintro m20 ⟨hx_m20, h_m20⟩
    have g_m20 : CIX m0 m20 := CI_keep g_m hx_m20 h_m20 ⟨by omega, by omega⟩
    have s20 : rd m20 1 0 = rd m 1 0 := hx_m20.2.1 1 0 rfl
    exact ⟨g_m20, by exact ⟨by exact ⟨by exact ⟨by first | trivial | omega | (refine ⟨?_, ?_⟩ <;> omega), by first | exact ⟨kq_gx hx_m20 (fun j => rfl) rfl rfl rfl, Or.inl ⟨by omega, h_m20.2.1, h_m20.2.2.2⟩⟩ | exact ⟨kq_r _, Or.inr ⟨by omega, fun _ => rfl⟩⟩⟩, by first | (have u := h_m20; exact fun A h => ⟨fun _ => cA_ho h (by omega) h_m20, fun w => by omega⟩) | exact fun A h => ⟨fun w => by omega, fun _ => h⟩⟩, by first | exact (tk_gx hx_m20 (fun j => rfl) (fun j => rfl)) | exact tk_r _⟩⟩
  · skip
    exact ⟨g_m, by exact ⟨by exact ⟨by exact ⟨by first | trivial | omega | (refine ⟨?_, ?_⟩ <;> omega), by first | exact ⟨kq_gx hx_m20 (fun j => rfl) rfl rfl rfl, Or.inl ⟨by omega, h_m20.2.1, h_m20.2.2.2⟩⟩ | exact ⟨kq_r _, Or.inr ⟨by omega, fun _ => rfl⟩⟩⟩, by first | (have u := h_m20; exact fun A h => ⟨fun _ => cA_ho h (by omega) h_m20, fun w => by omega⟩) | exact fun A h => ⟨fun w => by omega, fun _ => h⟩⟩, by first | exact (tk_gx hx_m20 (fun j => rfl) (fun j => rfl)) | exact tk_r _⟩⟩
-- TippedCrates.tell(IIZ)I
set_option maxRecDepth 20000 in
theorem fy_151 {m0 m : Mm} {x1 : Int} {x2 : Int} {x3 : Int}  (g_m : CIX m0 m) (r_x1 : rg x1) (r_x2 : rg x2) (r_x3 : rg x3)  : CK 3 151 [.ref 0, iv x1, iv x2, iv x3] m (fun m2 v => CIX m0 m2 ∧ ((((rd m2 1 0 = rd m 1 0) ∧ (kr m m2 ∧ (((1 ≤ x1 ∧ x1 ≤ 5) ∧ (0 ≤ x2 ∧ x2 ≤ 9) ∧ rd m 49 0 < 20 ∧ v = rd m 49 0 ∧ rd m2 49 0 = rd m 49 0 + 1) ∨ (¬ ((1 ≤ x1 ∧ x1 ≤ 5) ∧ (0 ≤ x2 ∧ x2 ≤ 9) ∧ rd m 49 0 < 20) ∧ v = -1 ∧ rd m2 49 0 = rd m 49 0)))) ∧ (∀ A, cA m A → cA m2 A)) ∧ (tkC m m2))) := by
  refine br_151 r_x1 r_x2 r_x3 ?_
  unfold P_151
  refine CK.mono (ct_166   r_x1 (by unfold rg; decide) (by unfold rg; decide)) (by decide) ?_
  rintro m3 v3 r_v3 ⟨e_m3, h_m3⟩
  replace e_m3 := e_m3.symm
  subst e_m3
  refine ⟨fun m_28 => CIX m0 m_28 ∧ ((((rd m_28 1 0 = rd m 1 0) ∧ (kr m m_28 ∧ ¬ ((1 ≤ x1 ∧ x1 ≤ 5) ∧ (0 ≤ x2 ∧ x2 ≤ 9) ∧ rd m 49 0 < 20) ∧ rd m_28 49 0 = rd m 49 0)) ∧ (∀ A, cA m A → cA m_28 A)) ∧ (tkC m m_28)), ?_, ?_⟩
  · skip
    refine ⟨fun hq => ?_, fun hq => ?_⟩
    · skip
      exact ⟨g_m, by exact ⟨by exact ⟨by exact ⟨by first | trivial | omega | (refine ⟨?_, ?_⟩ <;> omega), by exact ⟨kr_r _, by omega, rfl⟩⟩, by exact fun A h => h⟩, by exact tk_r _⟩⟩
    · skip
      refine CK.mono (ct_164   r_x2) (by decide) ?_
      rintro m10 v10 r_v10 ⟨e_m10, h_m10⟩
      replace e_m10 := e_m10.symm
      subst e_m10
      refine ⟨fun hq => ?_, fun hq => ?_⟩
      · skip
        exact ⟨g_m, by exact ⟨by exact ⟨by exact ⟨by first | trivial | omega | (refine ⟨?_, ?_⟩ <;> omega), by exact ⟨kr_r _, by omega, rfl⟩⟩, by exact fun A h => h⟩, by exact tk_r _⟩⟩
      · skip
        have t1 := ty_49_0 g_m.1
        refine ⟨fun hq => ?_, fun hq => ?_⟩
        · skip
          refine CK.mono (cx_56   g_m.1 r_x1 r_x2 r_x3 (by omega)) (by decide) ?_
          rintro m37 v37 r_v37 ⟨hx_m37, h_m37⟩
          have g_m37 : CIX m0 m37 := CI_rw g_m hx_m37
          have s37 : rd m37 1 0 = rd m 1 0 := hx_m37.2.1 1 0 rfl
          exact ⟨g_m37, by exact ⟨by exact ⟨by exact ⟨by first | trivial | omega | (refine ⟨?_, ?_⟩ <;> omega), by first | exact ⟨kr_gx hx_m37 (fun j => rfl) (fun j => rfl) rfl rfl, Or.inl ⟨by omega, by omega, by omega, by omega, by omega⟩⟩ | exact ⟨cR_28.1, Or.inr ⟨cR_28.2.1, rfl, cR_28.2.2⟩⟩⟩, by first | (have u := hx_m37; exact fun A h => cA_fr h (fun i j q => hx_m37.2.1 i j (sRw_no (by unfold cAr at q; omega)))) | exact dR_28⟩, by first | exact (tk_gx hx_m37 (fun j => rfl) (fun j => rfl)) | exact tR_28⟩⟩
        · skip
          exact ⟨g_m, by exact ⟨by exact ⟨by exact ⟨by first | trivial | omega | (refine ⟨?_, ?_⟩ <;> omega), by exact ⟨kr_r _, by omega, rfl⟩⟩, by exact fun A h => h⟩, by exact tk_r _⟩⟩
  · intro m_28  hR_28
    obtain ⟨g_m_28, hR_28⟩ := hR_28
    obtain ⟨hR_28, tR_28⟩ := hR_28
    obtain ⟨hR_28, dR_28⟩ := hR_28
    obtain ⟨hR_28, cR_28⟩ := hR_28
    exact ⟨g_m_28, by exact ⟨by exact ⟨by exact ⟨by first | trivial | omega | (refine ⟨?_, ?_⟩ <;> omega), by first | exact ⟨kr_gx hx_m37 (fun j => rfl) (fun j => rfl) rfl rfl, Or.inl ⟨by omega, by omega, by omega, by omega, by omega⟩⟩ | exact ⟨cR_28.1, Or.inr ⟨cR_28.2.1, rfl, cR_28.2.2⟩⟩⟩, by first | (have u := hx_m37; exact fun A h => cA_fr h (fun i j q => hx_m37.2.1 i j (sRw_no (by unfold cAr at q; omega)))) | exact dR_28⟩, by first | exact (tk_gx hx_m37 (fun j => rfl) (fun j => rfl)) | exact tR_28⟩⟩
-- TippedCrates.forget()I
set_option maxRecDepth 20000 in
theorem fy_152 {m0 m : Mm}   (g_m : CIX m0 m)   : CK 2 152 [.ref 0] m (fun m2 v => CIX m0 m2 ∧ ((((rd m2 1 0 = rd m 1 0) ∧ (kr m m2 ∧ v = rd m 49 0 ∧ rd m2 49 0 = 0)) ∧ (∀ A, cA m A → cA m2 A)) ∧ (tkC m m2))) := by
  refine br_152  ?_
  unfold P_152
  refine CK.mono (cx_57   g_m.1) (by decide) ?_
  rintro m4 v4 r_v4 ⟨hx_m4, h_m4⟩
  have g_m4 : CIX m0 m4 := CI_rw g_m hx_m4
  have s4 : rd m4 1 0 = rd m 1 0 := hx_m4.2.1 1 0 rfl
  exact ⟨g_m4, by exact ⟨by exact ⟨by exact ⟨by first | trivial | omega | (refine ⟨?_, ?_⟩ <;> omega), by exact ⟨kr_gx hx_m4 (fun j => rfl) (fun j => rfl) rfl rfl, h_m4.2⟩⟩, by exact fun A h => cA_fr h (fun i j q => hx_m4.2.1 i j (sRw_no (by unfold cAr at q; omega)))⟩, by exact (tk_gx hx_m4 (fun j => rfl) (fun j => rfl))⟩⟩
set_option maxRecDepth 20000 in
theorem fy_124 {m0 m : Mm} (g_m : CIX m0 m) : CK 41 124 [.ref 0] m (fun m2 v => CIX m0 m2 ∧ (rd m2 1 0 = 0) ∧ rdE m m2 v ∧ rdN m m2 v ∧ tkC m m2) := by
  refine br_124 ?_
  unfold P_124
  refine CK.mono (ez_34 (m0 := m) ⟨g_m.1, fun _ _ _ => rfl, fun _ _ _ _ => rfl⟩ g_m.2.1.1.2.2) (by decide) ?_
  rintro m4 v4 r_v4 ⟨q4, ⟨⟨⟨lt4, h4⟩, tk4, an4⟩, ls4⟩, pd4⟩
  intro m13 e13
  have T13 : Ty m13 := by rw [e13]; exact tw_1_0 q4.1 ⟨by omega, by omega⟩
  have e13' : ∀ i j, ¬ i = 1 → rd m13 i j = rd m4 i j := fun i j h => by rw [e13, rd_wt, if_neg (by omega)]
  have l13 : ∀ i j, ld m13 i j = ld m4 i j := fun i j => by rw [e13]; rfl
  have z13 : rd m13 1 0 = 0 := by rw [e13, rd_wt, if_pos ⟨rfl, rfl⟩]; rfl
  have lt13 : lwOk m13 20 ∧ tkOk m13 := ⟨lwOk_fr lt4.1 (e13' 20 4 (by omega)) (fun j => e13' 22 j (by omega)), by rw [e13]; exact tk_wt lt4.2 (by omega)⟩
  have f4 : ∀ i j, 30 ≤ i → rd m13 i j = rd m i j := fun i j h => (e13' i j (by omega)).trans (q4.2.1 i j (sQ_hi h))
  have fl4 : ∀ i j, 30 ≤ i → ld m13 i j = ld m i j := fun i j h => (l13 i j).trans (q4.2.2 i j (by omega) (by omega))
  have x13 : tX m13 = tX m4 := tX_eq (fun j => e13' 2 j (by omega)) (fun j => e13' 3 j (by omega)) (fun j => l13 4 j)
  have tk13 : tksC (uB m 5) (rd m 1 0) (ld m 6) m13 := tks_X tk4 x13
  have b13 : ∀ j, rd m13 5 j = rd m 5 j := fun j => (e13' 5 j (by omega)).trans (q4.2.1 5 j rfl)
  have w13 : ∀ j, ld m13 6 j = ld m 6 j := fun j => (l13 6 j).trans (q4.2.2 6 j (by decide) (by decide))
  have an13 : ansP (tX m13) (rd m 1 0) v4 (rd m13 19 0) := by rw [x13, e13' 19 0 (by omega)]; exact an4
  refine ⟨fun m_46 => CIX m0 m_46 ∧ rd m_46 1 0 = 0 ∧ rdE m m_46 v4 ∧ rdN m m_46 v4 ∧ tkC m m_46, ?_, fun m_46 h => h⟩
  refine ⟨fun hq => ?_, fun hq => ?_⟩
  · have pl : ∀ i j, (7 ≤ i ∧ i ≤ 18) → rd m13 i j = rd m i j := fun i j h => by
      rcases h4 with w | w
      · exact (e13' i j (by omega)).trans (w.2 i j h)
      · exact absurd w.1 hq
    refine ⟨⟨T13, ?_, fun i j h => ⟨(f4 i j (by omega)).trans (g_m.2.2 i j h).1, (fl4 i j (by omega)).trans (g_m.2.2 i j h).2⟩⟩, z13, ⟨tk13, an13, b13, w13, fun z => absurd z hq, fun _ => ⟨f4 49 0 (by omega), fun s => f4 58 s (by omega)⟩⟩, ⟨fun z => absurd z hq, fun _ A hA => cA_fr hA (fun i j w => by
        by_cases w2 : i ≤ 18
        · exact pl i j (by unfold cAr at w; omega)
        · exact f4 i j (by unfold cAr at w; omega))⟩, fun j => f4 32 j (by omega), fun j => f4 33 j (by omega)⟩
    have c := g_m.2.1
    refine ⟨⟨lwOk_fr c.1.1 (pl 11 4 (by omega)) (fun j => pl 13 j (by omega)), lt13⟩, ?_, ?_, ?_⟩
    · exact okS_fr c.2.1 (pl 7 3 (by omega)) (fun i j h => f4 i j (by omega))
    · intro k hk
      have e0 := f4 55 0 (by omega)
      have e4 := f4 55 4 (by omega)
      have t4 := ty_55_4 g_m.1
      unfold ringC
      rw [e4]
      exact okS_fr (c.2.2.1 k (by omega)) (pl 7 3 (by omega)) (fun i j h => f4 i j (by omega))
    · intro s hs hh
      rw [f4 58 s (by omega)] at hh
      exact okS_fr (c.2.2.2 s hs hh) (pl 7 3 (by omega)) (fun i j h => f4 i j (by omega))
  · have po : planOk m13 := by
      rcases h4 with w | w
      · exact absurd hq w.1
      · have p := w.2
        refine ⟨lwOk_fr p.1 (e13' 11 4 (by omega)) (fun j => e13' 13 j (by omega)), fun c hc => ?_, fun k hk => ?_⟩
        · rw [e13' 7 3 (by omega)] at hc
          rw [e13' 9 c (by omega)]
          exact p.2.1 c hc
        · rw [e13' 7 3 (by omega)] at hk
          rw [e13' 10 k (by omega)]
          exact p.2.2 k hk
    refine CV.mono (ey_75 T13 st_274) (by decide) ?_
    rintro m28 ⟨x28, h28, k28⟩
    have s28 : ∀ i j, ¬ (274 ≤ i ∧ i ≤ 278) → rd m28 i j = rd m13 i j := fun i j h => x28.2.1 i j (sA_no h)
    refine CV.mono (ct_20 x28.1) (by decide) ?_
    rintro m35 ⟨x35, h35⟩
    have s35 : ∀ i j, ¬ i = 55 → ¬ i = 58 → rd m35 i j = rd m28 i j := fun i j h1 h2 => x35.2.1 i j (by unfold sPc; rw [nb_ne h1, nb_ne h2]; rfl)
    refine CK.mono (cx_57 x35.1) (by decide) ?_
    rintro m42 v42 r42 ⟨x42, h42⟩
    have s42 : ∀ i j, ¬ i = 49 → ¬ i = 50 → ¬ i = 51 → ¬ i = 52 → rd m42 i j = rd m35 i j := fun i j h1 h2 h3 h4 => x42.2.1 i j (by unfold sRw; rw [nb_ne h1, nb_ne h2, nb_ne h3, nb_ne h4]; rfl)
    have a : ∀ i j, ¬ (49 ≤ i ∧ i ≤ 52) → ¬ i = 55 → ¬ i = 58 → ¬ (274 ≤ i ∧ i ≤ 278) → rd m42 i j = rd m13 i j := fun i j h1 h2 h3 h4 => (s42 i j (by omega) (by omega) (by omega) (by omega)).trans ((s35 i j h2 h3).trans (s28 i j h4))
    have b : ∀ i j, ld m42 i j = ld m13 i j := fun i j => (x42.2.2 i j).trans ((x35.2.2 i j).trans (x28.2.2 i j))
    have d : ∀ i j, (274 ≤ i ∧ i ≤ 278) → rd m42 i j = rd m28 i j := fun i j h => (s42 i j (by omega) (by omega) (by omega) (by omega)).trans (s35 i j (by omega) (by omega))
    have n0 : rd m42 55 0 = 0 := (s42 55 0 (by omega) (by omega) (by omega) (by omega)).trans h35.1
    have xx : tX m42 = tX m13 := tX_eq (fun j => a 2 j (by omega) (by omega) (by omega) (by omega)) (fun j => a 3 j (by omega) (by omega) (by omega) (by omega)) (fun j => b 4 j)
    refine ⟨⟨x42.1, ?_, fun i j h => ?_⟩, (a 1 0 (by omega) (by omega) (by omega) (by omega)).trans z13, ⟨tks_X tk13 xx, by rw [xx, a 19 0 (by omega) (by omega) (by omega) (by omega)]; exact an13, fun j => (a 5 j (by omega) (by omega) (by omega) (by omega)).trans (b13 j), fun j => (b 6 j).trans (w13 j), fun _ => ⟨h42.2.2, fun s hs => (s42 58 s (by omega) (by omega) (by omega) (by omega)).trans (h35.2 s hs)⟩, fun z => absurd hq z⟩, ⟨fun _ => ?_, fun z => absurd hq z⟩, fun j => (a 32 j (by omega) (by omega) (by omega) (by omega)).trans (f4 32 j (by omega)), fun j => (a 33 j (by omega) (by omega) (by omega) (by omega)).trans (f4 33 j (by omega))⟩
    · refine ⟨⟨lwOk_fr po.1 (a 11 4 (by omega) (by omega) (by omega) (by omega)) (fun j => a 13 j (by omega) (by omega) (by omega) (by omega)), lwOk_fr lt13.1 (a 20 4 (by omega) (by omega) (by omega) (by omega)) (fun j => a 22 j (by omega) (by omega) (by omega) (by omega)), fun i hi hk => ?_⟩, ⟨?_, ?_, ?_⟩, fun k hk => by omega, fun s hs hh => ?_⟩
      · rw [b]
        rw [a 2 i (by omega) (by omega) (by omega) (by omega)] at hk
        exact lt13.2 i hi hk
      · rw [d 274 4 (by omega), h28.1, a 7 3 (by omega) (by omega) (by omega) (by omega)]
      · intro c hc
        have t := ty_7_3 T13
        rw [d 274 4 (by omega), h28.1] at hc
        rw [d 276 c (by omega), h28.2.1 c (by omega)]
        exact po.2.1 c hc
      · intro k hk
        have t := ty_7_3 T13
        rw [d 274 4 (by omega), h28.1] at hk
        rw [d 277 k (by omega), h28.2.2 k (by omega)]
        exact po.2.2 k hk
      · exact absurd ((s42 58 s (by omega) (by omega) (by omega) (by omega)).trans (h35.2 s hs)) hh
    · exact ⟨(a i j (by omega) (by omega) (by omega) (by omega)).trans ((f4 i j (by omega)).trans (g_m.2.2 i j h).1), (b i j).trans ((fl4 i j (by omega)).trans (g_m.2.2 i j h).2)⟩
    · rw [xx, x13]
      have nb : ¬ bydP (pRun (tX m4) 401 ps_0) := ans_n an4 hq
      have t3 := ty_7_3 T13
      have g13 : ∀ i j, 7 ≤ i → rd m13 i j = rd m4 i j := fun i j h => e13' i j (by omega)
      refine bg_C (m4 := m4) (pd4 hq) (ls4 hq) (fun c hc => ?_) nb (fun i j h1 h2 => (a i j (by omega) (by omega) (by omega) (by omega)).trans (g13 i j h1)) ⟨?_, fun j hj => ?_, fun j hj => ?_, fun j hj => ?_, fun j hj => ?_, ?_, ?_⟩ n0 (fun c hc => (s42 58 c (by omega) (by omega) (by omega) (by omega)).trans (h35.2 c hc)) x42.1
      · rcases h4 with w | w
        · exact absurd hq w.1
        · exact w.2.2.1 c hc
      · rw [d 274 4 (by omega), h28.1, g13 7 3 (by omega)]
      · rw [d 275 j (by omega), k28.1 j hj, g13 8 j (by omega)]
      · rw [d 276 j (by omega), h28.2.1 j hj, g13 9 j (by omega)]
      · rw [d 277 j (by omega), h28.2.2 j hj, g13 10 j (by omega)]
      · rw [d 278 j (by omega), k28.2.1 j hj]
      · rw [d 274 5 (by omega), k28.2.2.1]
      · rw [d 274 6 (by omega), k28.2.2.2]
