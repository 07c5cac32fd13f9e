/-- what a text makes of the state -/
def rdN (m m2 : Mm) (v : Int) : Prop := (v = 0 → cA m2 (bgA (pRun (tX m2) 401 ps_0) (qRun (tX m2) 401 ps_0 dE)) ∧ zQ (bgY (pRun (tX m2) 401 ps_0)) (bgR (pRun (tX m2) 401 ps_0))) ∧ (¬ v = 0 → ∀ A, cA m A → cA m2 A)
theorem ans_n {X : Tk} {n v p : Int} (h : ansP X n v p) (z : v = 0) : ¬ bydP (pRun X 401 ps_0) := by
  rcases h with ⟨h1, h2, h3⟩ | ⟨h1, h2, h3, h4⟩ | ⟨h1, h2, h3, h4, h5⟩ | ⟨h1, h2, h3, h4, h5⟩
  · exact absurd (h2.symm.trans z) h1
  · exact absurd (h3.symm.trans z) h2
  · omega
  · exact h3
theorem sRw_no {i j : Nat} (h : ¬ (49 ≤ i ∧ i ≤ 52)) : sRw i j = false := by
  unfold sRw
  rw [nb_ne (by omega : ¬ i = 49), nb_ne (by omega : ¬ i = 50), nb_ne (by omega : ¬ i = 51), nb_ne (by omega : ¬ i = 52)]
  rfl
set_option maxRecDepth 20000 in
theorem ey_124 {m0 m : Mm} (g_m : CIX m0 m) : CK 41 124 [.ref 0] m (fun m2 v => CIX m0 m2 ∧ (rd m2 1 0 = 0) ∧ rdE m m2 v ∧ rdN m m2 v) := by
  refine br_124 ?_
  unfold P_124
  refine CK.mono (ez_34 (m0 := m) ⟨g_m.1, fun _ _ _ => rfl, fun _ _ _ _ => rfl⟩ g_m.2.1.1.2.2) (by decide) ?_
  rintro m4 v4 r_v4 ⟨q4, ⟨⟨⟨lt4, h4⟩, tk4, an4⟩, ls4⟩, pd4⟩
  intro m13 e13
  have T13 : Ty m13 := by rw [e13]; exact tw_1_0 q4.1 ⟨by omega, by omega⟩
  have e13' : ∀ i j, ¬ i = 1 → rd m13 i j = rd m4 i j := fun i j h => by rw [e13, rd_wt, if_neg (by omega)]
  have l13 : ∀ i j, ld m13 i j = ld m4 i j := fun i j => by rw [e13]; rfl
  have z13 : rd m13 1 0 = 0 := by rw [e13, rd_wt, if_pos ⟨rfl, rfl⟩]; rfl
  have lt13 : lwOk m13 20 ∧ tkOk m13 := ⟨lwOk_fr lt4.1 (e13' 20 4 (by omega)) (fun j => e13' 22 j (by omega)), by rw [e13]; exact tk_wt lt4.2 (by omega)⟩
  have f4 : ∀ i j, 30 ≤ i → rd m13 i j = rd m i j := fun i j h => (e13' i j (by omega)).trans (q4.2.1 i j (sQ_hi h))
  have fl4 : ∀ i j, 30 ≤ i → ld m13 i j = ld m i j := fun i j h => (l13 i j).trans (q4.2.2 i j (by omega) (by omega))
  have x13 : tX m13 = tX m4 := tX_eq (fun j => e13' 2 j (by omega)) (fun j => e13' 3 j (by omega)) (fun j => l13 4 j)
  have tk13 : tksC (uB m 5) (rd m 1 0) (ld m 6) m13 := tks_X tk4 x13
  have b13 : ∀ j, rd m13 5 j = rd m 5 j := fun j => (e13' 5 j (by omega)).trans (q4.2.1 5 j rfl)
  have w13 : ∀ j, ld m13 6 j = ld m 6 j := fun j => (l13 6 j).trans (q4.2.2 6 j (by decide) (by decide))
  have an13 : ansP (tX m13) (rd m 1 0) v4 (rd m13 19 0) := by rw [x13, e13' 19 0 (by omega)]; exact an4
  refine ⟨fun m_46 => CIX m0 m_46 ∧ rd m_46 1 0 = 0 ∧ rdE m m_46 v4 ∧ rdN m m_46 v4, ?_, fun m_46 h => h⟩
  refine ⟨fun hq => ?_, fun hq => ?_⟩
  · have pl : ∀ i j, (7 ≤ i ∧ i ≤ 18) → rd m13 i j = rd m i j := fun i j h => by
      rcases h4 with w | w
      · exact (e13' i j (by omega)).trans (w.2 i j h)
      · exact absurd w.1 hq
    refine ⟨⟨T13, ?_, fun i j h => ⟨(f4 i j (by omega)).trans (g_m.2.2 i j h).1, (fl4 i j (by omega)).trans (g_m.2.2 i j h).2⟩⟩, z13, ⟨tk13, an13, b13, w13, fun z => absurd z hq, fun _ => ⟨f4 49 0 (by omega), fun s => f4 58 s (by omega)⟩⟩, fun z => absurd z hq, fun _ A hA => cA_fr hA (fun i j w => by
        by_cases w2 : i ≤ 18
        · exact pl i j (by unfold cAr at w; omega)
        · exact f4 i j (by unfold cAr at w; omega))⟩
    have c := g_m.2.1
    refine ⟨⟨lwOk_fr c.1.1 (pl 11 4 (by omega)) (fun j => pl 13 j (by omega)), lt13⟩, ?_, ?_, ?_⟩
    · exact okS_fr c.2.1 (pl 7 3 (by omega)) (fun i j h => f4 i j (by omega))
    · intro k hk
      have e0 := f4 55 0 (by omega)
      have e4 := f4 55 4 (by omega)
      have t4 := ty_55_4 g_m.1
      unfold ringC
      rw [e4]
      exact okS_fr (c.2.2.1 k (by omega)) (pl 7 3 (by omega)) (fun i j h => f4 i j (by omega))
    · intro s hs hh
      rw [f4 58 s (by omega)] at hh
      exact okS_fr (c.2.2.2 s hs hh) (pl 7 3 (by omega)) (fun i j h => f4 i j (by omega))
  · have po : planOk m13 := by
      rcases h4 with w | w
      · exact absurd hq w.1
      · have p := w.2
        refine ⟨lwOk_fr p.1 (e13' 11 4 (by omega)) (fun j => e13' 13 j (by omega)), fun c hc => ?_, fun k hk => ?_⟩
        · rw [e13' 7 3 (by omega)] at hc
          rw [e13' 9 c (by omega)]
          exact p.2.1 c hc
        · rw [e13' 7 3 (by omega)] at hk
          rw [e13' 10 k (by omega)]
          exact p.2.2 k hk
    refine CV.mono (ey_75 T13 st_274) (by decide) ?_
    rintro m28 ⟨x28, h28, k28⟩
    have s28 : ∀ i j, ¬ (274 ≤ i ∧ i ≤ 278) → rd m28 i j = rd m13 i j := fun i j h => x28.2.1 i j (sA_no h)
    refine CV.mono (ct_20 x28.1) (by decide) ?_
    rintro m35 ⟨x35, h35⟩
    have s35 : ∀ i j, ¬ i = 55 → ¬ i = 58 → rd m35 i j = rd m28 i j := fun i j h1 h2 => x35.2.1 i j (by unfold sPc; rw [nb_ne h1, nb_ne h2]; rfl)
    refine CK.mono (cx_57 x35.1) (by decide) ?_
    rintro m42 v42 r42 ⟨x42, h42⟩
    have s42 : ∀ i j, ¬ i = 49 → ¬ i = 50 → ¬ i = 51 → ¬ i = 52 → rd m42 i j = rd m35 i j := fun i j h1 h2 h3 h4 => x42.2.1 i j (by unfold sRw; rw [nb_ne h1, nb_ne h2, nb_ne h3, nb_ne h4]; rfl)
    have a : ∀ i j, ¬ (49 ≤ i ∧ i ≤ 52) → ¬ i = 55 → ¬ i = 58 → ¬ (274 ≤ i ∧ i ≤ 278) → rd m42 i j = rd m13 i j := fun i j h1 h2 h3 h4 => (s42 i j (by omega) (by omega) (by omega) (by omega)).trans ((s35 i j h2 h3).trans (s28 i j h4))
    have b : ∀ i j, ld m42 i j = ld m13 i j := fun i j => (x42.2.2 i j).trans ((x35.2.2 i j).trans (x28.2.2 i j))
    have d : ∀ i j, (274 ≤ i ∧ i ≤ 278) → rd m42 i j = rd m28 i j := fun i j h => (s42 i j (by omega) (by omega) (by omega) (by omega)).trans (s35 i j (by omega) (by omega))
    have n0 : rd m42 55 0 = 0 := (s42 55 0 (by omega) (by omega) (by omega) (by omega)).trans h35.1
    have xx : tX m42 = tX m13 := tX_eq (fun j => a 2 j (by omega) (by omega) (by omega) (by omega)) (fun j => a 3 j (by omega) (by omega) (by omega) (by omega)) (fun j => b 4 j)
    refine ⟨⟨x42.1, ?_, fun i j h => ?_⟩, (a 1 0 (by omega) (by omega) (by omega) (by omega)).trans z13, ⟨tks_X tk13 xx, by rw [xx, a 19 0 (by omega) (by omega) (by omega) (by omega)]; exact an13, fun j => (a 5 j (by omega) (by omega) (by omega) (by omega)).trans (b13 j), fun j => (b 6 j).trans (w13 j), fun _ => ⟨h42.2.2, fun s hs => (s42 58 s (by omega) (by omega) (by omega) (by omega)).trans (h35.2 s hs)⟩, fun z => absurd hq z⟩, fun _ => ?_, fun z => absurd hq z⟩
    · refine ⟨⟨lwOk_fr po.1 (a 11 4 (by omega) (by omega) (by omega) (by omega)) (fun j => a 13 j (by omega) (by omega) (by omega) (by omega)), lwOk_fr lt13.1 (a 20 4 (by omega) (by omega) (by omega) (by omega)) (fun j => a 22 j (by omega) (by omega) (by omega) (by omega)), fun i hi hk => ?_⟩, ⟨?_, ?_, ?_⟩, fun k hk => by omega, fun s hs hh => ?_⟩
      · rw [b]
        rw [a 2 i (by omega) (by omega) (by omega) (by omega)] at hk
        exact lt13.2 i hi hk
      · rw [d 274 4 (by omega), h28.1, a 7 3 (by omega) (by omega) (by omega) (by omega)]
      · intro c hc
        have t := ty_7_3 T13
        rw [d 274 4 (by omega), h28.1] at hc
        rw [d 276 c (by omega), h28.2.1 c (by omega)]
        exact po.2.1 c hc
      · intro k hk
        have t := ty_7_3 T13
        rw [d 274 4 (by omega), h28.1] at hk
        rw [d 277 k (by omega), h28.2.2 k (by omega)]
        exact po.2.2 k hk
      · exact absurd ((s42 58 s (by omega) (by omega) (by omega) (by omega)).trans (h35.2 s hs)) hh
    · exact ⟨(a i j (by omega) (by omega) (by omega) (by omega)).trans ((f4 i j (by omega)).trans (g_m.2.2 i j h).1), (b i j).trans ((fl4 i j (by omega)).trans (g_m.2.2 i j h).2)⟩
    · rw [xx, x13]
      have nb : ¬ bydP (pRun (tX m4) 401 ps_0) := ans_n an4 hq
      have t3 := ty_7_3 T13
      have g13 : ∀ i j, 7 ≤ i → rd m13 i j = rd m4 i j := fun i j h => e13' i j (by omega)
      refine bg_C (m4 := m4) (pd4 hq) (ls4 hq) (fun c hc => ?_) nb (fun i j h1 h2 => (a i j (by omega) (by omega) (by omega) (by omega)).trans (g13 i j h1)) ⟨?_, fun j hj => ?_, fun j hj => ?_, fun j hj => ?_, fun j hj => ?_, ?_, ?_⟩ n0 (fun c hc => (s42 58 c (by omega) (by omega) (by omega) (by omega)).trans (h35.2 c hc)) x42.1
      · rcases h4 with w | w
        · exact absurd hq w.1
        · exact w.2.2.1 c hc
      · rw [d 274 4 (by omega), h28.1, g13 7 3 (by omega)]
      · rw [d 275 j (by omega), k28.1 j hj, g13 8 j (by omega)]
      · rw [d 276 j (by omega), h28.2.1 j hj, g13 9 j (by omega)]
      · rw [d 277 j (by omega), h28.2.2 j hj, g13 10 j (by omega)]
      · rw [d 278 j (by omega), k28.2.1 j hj]
      · rw [d 274 5 (by omega), k28.2.2.1]
      · rw [d 274 6 (by omega), k28.2.2.2]
-- TippedCrates.back(I)I
set_option maxRecDepth 20000 in
theorem ey_123 {m0 m : Mm} {x1 : Int}  (g_m : CIX m0 m) (r_x1 : rg x1)  : CK 1 123 [.ref 0, iv x1] m (fun m2 v => CIX m0 m2 ∧ ((((0 ≤ x1 ∧ x1 ≤ rd m 1 0 ∧ v = rd m 1 0 - x1 ∧ rd m2 1 0 = rd m 1 0 - x1) ∨ (¬ (0 ≤ x1 ∧ x1 ≤ rd m 1 0) ∧ v = -1 ∧ rd m2 1 0 = rd m 1 0)) ∧ (ks m m2)) ∧ (∀ A, cA m A → cA m2 A))) := by
  refine br_123 r_x1 ?_
  unfold P_123
  have t1 := ty_1_0 g_m.1
  refine ⟨¬ (0 ≤ x1 ∧ x1 ≤ rd m 1 0), ?_, ?_⟩
  · skip
    refine ⟨fun hq => ?_, fun hq => ?_⟩
    · skip
      (first | trivial | omega | (refine ⟨?_, ?_⟩ <;> omega))
    · skip
      have t1 := ty_1_0 g_m.1
      refine ⟨fun hq => ?_, fun hq => ?_⟩
      · skip
        try have w2 : wr ((rd m 1 0) - x1) = (rd m 1 0) - x1 := wr_id (by omega) (by omega)
        intro m27 e_m27
        have g_m27 : CIX m0 m27 := by rw [e_m27]; exact CI_10 g_m ⟨by omega, by omega⟩
        have n27 : rd m27 1 0 = rd m 1 0 - x1 := by rw [e_m27, rd_wt, if_pos ⟨rfl, rfl⟩, wr_i (wr_rg _), wr_id (by omega) (by omega)]
        have t3 := ty_1_0 g_m27.1
        exact ⟨g_m27, by exact ⟨by exact ⟨by first | trivial | omega | (refine ⟨?_, ?_⟩ <;> omega), by first | exact ks_wt e_m27 | exact ks_r _⟩, by first | (have u := e_m27; exact fun A h => cA_fr h (fun i j q => by rw [e_m27, rd_wt, if_neg (by unfold cAr at q; omega)])) | exact fun A h => h⟩⟩
      · skip
        (first | trivial | omega | (refine ⟨?_, ?_⟩ <;> omega))
  · intro   hR_15
    exact ⟨g_m, by exact ⟨by exact ⟨by first | trivial | omega | (refine ⟨?_, ?_⟩ <;> omega), by first | exact ks_wt e_m27 | exact ks_r _⟩, by first | (have u := e_m27; exact fun A h => cA_fr h (fun i j q => by rw [e_m27, rd_wt, if_neg (by unfold cAr at q; omega)])) | exact fun A h => h⟩⟩
-- TippedCrates.tell(IIZ)I
set_option maxRecDepth 20000 in
theorem ey_151 {m0 m : Mm} {x1 : Int} {x2 : Int} {x3 : Int}  (g_m : CIX m0 m) (r_x1 : rg x1) (r_x2 : rg x2) (r_x3 : rg x3)  : CK 3 151 [.ref 0, iv x1, iv x2, iv x3] m (fun m2 v => CIX m0 m2 ∧ (((rd m2 1 0 = rd m 1 0) ∧ (kr m m2 ∧ (((1 ≤ x1 ∧ x1 ≤ 5) ∧ (0 ≤ x2 ∧ x2 ≤ 9) ∧ rd m 49 0 < 20 ∧ v = rd m 49 0 ∧ rd m2 49 0 = rd m 49 0 + 1) ∨ (¬ ((1 ≤ x1 ∧ x1 ≤ 5) ∧ (0 ≤ x2 ∧ x2 ≤ 9) ∧ rd m 49 0 < 20) ∧ v = -1 ∧ rd m2 49 0 = rd m 49 0)))) ∧ (∀ A, cA m A → cA m2 A))) := by
  refine br_151 r_x1 r_x2 r_x3 ?_
  unfold P_151
  refine CK.mono (ct_166   r_x1 (by unfold rg; decide) (by unfold rg; decide)) (by decide) ?_
  rintro m3 v3 r_v3 ⟨e_m3, h_m3⟩
  replace e_m3 := e_m3.symm
  subst e_m3
  refine ⟨fun m_28 => CIX m0 m_28 ∧ (((rd m_28 1 0 = rd m 1 0) ∧ (kr m m_28 ∧ ¬ ((1 ≤ x1 ∧ x1 ≤ 5) ∧ (0 ≤ x2 ∧ x2 ≤ 9) ∧ rd m 49 0 < 20) ∧ rd m_28 49 0 = rd m 49 0)) ∧ (∀ A, cA m A → cA m_28 A)), ?_, ?_⟩
  · skip
    refine ⟨fun hq => ?_, fun hq => ?_⟩
    · skip
      exact ⟨g_m, by exact ⟨by exact ⟨by first | trivial | omega | (refine ⟨?_, ?_⟩ <;> omega), by exact ⟨kr_r _, by omega, rfl⟩⟩, by exact fun A h => h⟩⟩
    · skip
      refine CK.mono (ct_164   r_x2) (by decide) ?_
      rintro m10 v10 r_v10 ⟨e_m10, h_m10⟩
      replace e_m10 := e_m10.symm
      subst e_m10
      refine ⟨fun hq => ?_, fun hq => ?_⟩
      · skip
        exact ⟨g_m, by exact ⟨by exact ⟨by first | trivial | omega | (refine ⟨?_, ?_⟩ <;> omega), by exact ⟨kr_r _, by omega, rfl⟩⟩, by exact fun A h => h⟩⟩
      · skip
        have t1 := ty_49_0 g_m.1
        refine ⟨fun hq => ?_, fun hq => ?_⟩
        · skip
          refine CK.mono (cx_56   g_m.1 r_x1 r_x2 r_x3 (by omega)) (by decide) ?_
          rintro m37 v37 r_v37 ⟨hx_m37, h_m37⟩
          have g_m37 : CIX m0 m37 := CI_rw g_m hx_m37
          have s37 : rd m37 1 0 = rd m 1 0 := hx_m37.2.1 1 0 rfl
          exact ⟨g_m37, by exact ⟨by exact ⟨by first | trivial | omega | (refine ⟨?_, ?_⟩ <;> omega), by first | exact ⟨kr_gx hx_m37 (fun j => rfl) (fun j => rfl) rfl rfl, Or.inl ⟨by omega, by omega, by omega, by omega, by omega⟩⟩ | exact ⟨cR_28.1, Or.inr ⟨cR_28.2.1, rfl, cR_28.2.2⟩⟩⟩, by first | (have u := hx_m37; exact fun A h => cA_fr h (fun i j q => hx_m37.2.1 i j (sRw_no (by unfold cAr at q; omega)))) | exact dR_28⟩⟩
        · skip
          exact ⟨g_m, by exact ⟨by exact ⟨by first | trivial | omega | (refine ⟨?_, ?_⟩ <;> omega), by exact ⟨kr_r _, by omega, rfl⟩⟩, by exact fun A h => h⟩⟩
  · intro m_28  hR_28
    obtain ⟨g_m_28, hR_28⟩ := hR_28
    obtain ⟨hR_28, dR_28⟩ := hR_28
    obtain ⟨hR_28, cR_28⟩ := hR_28
    exact ⟨g_m_28, by exact ⟨by exact ⟨by first | trivial | omega | (refine ⟨?_, ?_⟩ <;> omega), by first | exact ⟨kr_gx hx_m37 (fun j => rfl) (fun j => rfl) rfl rfl, Or.inl ⟨by omega, by omega, by omega, by omega, by omega⟩⟩ | exact ⟨cR_28.1, Or.inr ⟨cR_28.2.1, rfl, cR_28.2.2⟩⟩⟩, by first | (have u := hx_m37; exact fun A h => cA_fr h (fun i j q => hx_m37.2.1 i j (sRw_no (by unfold cAr at q; omega)))) | exact dR_28⟩⟩
-- TippedCrates.forget()I
set_option maxRecDepth 20000 in
theorem ey_152 {m0 m : Mm}   (g_m : CIX m0 m)   : CK 2 152 [.ref 0] m (fun m2 v => CIX m0 m2 ∧ (((rd m2 1 0 = rd m 1 0) ∧ (kr m m2 ∧ v = rd m 49 0 ∧ rd m2 49 0 = 0)) ∧ (∀ A, cA m A → cA m2 A))) := by
  refine br_152  ?_
  unfold P_152
  refine CK.mono (cx_57   g_m.1) (by decide) ?_
  rintro m4 v4 r_v4 ⟨hx_m4, h_m4⟩
  have g_m4 : CIX m0 m4 := CI_rw g_m hx_m4
  have s4 : rd m4 1 0 = rd m 1 0 := hx_m4.2.1 1 0 rfl
  exact ⟨g_m4, by exact ⟨by exact ⟨by first | trivial | omega | (refine ⟨?_, ?_⟩ <;> omega), by exact ⟨kr_gx hx_m4 (fun j => rfl) (fun j => rfl) rfl rfl, h_m4.2⟩⟩, by exact fun A h => cA_fr h (fun i j q => hx_m4.2.1 i j (sRw_no (by unfold cAr at q; omega)))⟩⟩
