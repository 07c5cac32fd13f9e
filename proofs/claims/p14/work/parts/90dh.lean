theorem shB_cg {w : Int} {F G F2 G2 : Nat → Int} : ∀ {n : Nat}, (∀ k : Nat, k < n → F k = F2 k ∧ G k = G2 k) → shB w F G n = shB w F2 G2 n
  | 0, _ => rfl
  | n + 1, h => by
    show orI (shB w F G n) (slI 1 (w * G n + F n)) = orI (shB w F2 G2 n) (slI 1 (w * G2 n + F2 n))
    rw [shB_cg (fun k q => h k (by omega)), (h n (by omega)).1, (h n (by omega)).2]
theorem mkB_cg {w : Int} {F G H F2 G2 H2 : Nat → Int} {j : Nat} : ∀ {n : Nat}, (∀ k : Nat, k < n → F k = F2 k ∧ G k = G2 k ∧ H k = H2 k) → mkB w F G H n j = mkB w F2 G2 H2 n j
  | 0, _ => rfl
  | n + 1, h => by
    show (if j = Int.toNat (w * G n + F n) then H n else mkB w F G H n j) = (if j = Int.toNat (w * G2 n + F2 n) then H2 n else mkB w F2 G2 H2 n j)
    rw [mkB_cg (fun k q => h k (by omega)), (h n (by omega)).1, (h n (by omega)).2.1, (h n (by omega)).2.2]
/-- the plan is the one that s tells -/
def pdC (m : Mm) (s : Ps) : Prop := (rd m 7 0 = s 0 5 ∧ rd m 7 1 = s 0 6 ∧ rd m 7 2 = s 0 7 ∧ rd m 7 3 = s 0 10) ∧ (∀ x y : Int, 0 ≤ x → x < s 0 5 → 0 ≤ y → y < s 0 6 → lyX m (s 0 5) (s 0 6) x y) ∧ rd m 7 4 = shB (s 0 5) (s 1) (s 2) (Int.toNat (s 0 8)) ∧ (∀ j : Nat, j < 25 → rd m 8 j = mkB (s 0 5) (s 3) (s 4) (s 5) (Int.toNat (s 0 9)) j) ∧ (∀ c : Nat, c < 3 → rd m 9 c = if (c : Int) < s 0 10 then s 0 5 * s 7 c + s 6 c else -1) ∧ (∀ k : Nat, k < 18 → (k : Int) < 6 * s 0 10 → rd m 10 k = s 8 k) ∧ ∀ c : Nat, (c : Int) < s 0 10 → 0 ≤ s 6 c ∧ 0 ≤ s 7 c
theorem pd_C {m m2 : Mm} {s : Ps} (d : dC s m) (p : pfD m m2) (T : Ty m) : pdC m2 s := by
  obtain ⟨⟨d5, d6, d7, d8, d9, d10⟩, h2, h3, h4, h5⟩ := d
  obtain ⟨⟨p0, p1, p2, p3⟩, l, sh, mk, fl_, fa⟩ := p
  rw [d5, d6] at l
  rw [d5, d8] at sh
  refine ⟨⟨p0.trans d5, p1.trans d6, p2.trans d7, p3.trans d10⟩, l, ?_, fun j hj => ?_, fun c hc => ?_, fun k hk hk2 => ?_, fun c hc => ⟨by rw [← (h4 c hc).1]; exact (ty_27 T _).1, by rw [← (h4 c hc).2.1]; exact (ty_27 T _).1⟩⟩
  · rw [sh]
    exact shB_cg (fun k q => h2 k (by omega))
  · rw [mk j hj, d5, d9]
    exact mkB_cg (fun k q => h3 k (by omega))
  · rw [fl_ c hc, d10]
    by_cases q : (c : Int) < s 0 10
    · rw [if_pos q, if_pos q, d5, (h4 c q).1, (h4 c q).2.1]
    · rw [if_neg q, if_neg q]
  · rw [fa k hk]
    exact h5 k hk2
-- TippedCrates$Reader.readTape()I
set_option maxRecDepth 20000 in
theorem ez_34 {m0 m : Mm}   (g_m : QX m0 m)  (p0 : tkOk m) : CK 36 34 [.ref 19] m (fun m2 v => QX m0 m2 ∧ (((((lwOk m2 20 ∧ tkOk m2) ∧ ((¬ v = 0 ∧ ∀ i j, (7 ≤ i ∧ i ≤ 18) → rd m2 i j = rd m i j) ∨ (v = 0 ∧ planOk m2))) ∧ (tksC (uB m 5) (rd m 1 0) (ld m 6) m2 ∧ ansP (tX m2) (rd m 1 0) v (rd m2 19 0))) ∧ (v = 0 → LSd m2 11 (qRun (tX m2) 401 ps_0 dE))) ∧ (v = 0 → pdC m2 (pRun (tX m2) 401 ps_0)))) := by
  refine br_34  ?_
  unfold P_34
  refine CV.mono (ex_35   g_m (by omega)) (by decide) ?_
  rintro m1 ⟨g_m1, h_m1⟩
  obtain ⟨h_m1, u_m1⟩ := h_m1
  have hb1 := h_m1.2
  replace h_m1 := h_m1.1
  have r1 := RX_rfl g_m1.1 h_m1.1
  refine ⟨fun x1_6 m_6 => QX m0 m_6 ∧ ((((0 ≤ x1_6 ∧ x1_6 ≤ 401) ∧ RX m1 m_6) ∧ (∃ s2 : Ps, RC s2 m_6 ∧ pRun (tX m1) (Int.toNat (401 - x1_6)) s2 = (pRun (tX m1) 401 ps_0))) ∧ (quI (tX m1) (pRun (tX m1) 401 ps_0) (qRun (tX m1) 401 ps_0 dE) m_6 (Int.toNat (401 - x1_6)))), fun x1_6 m_6 => Int.toNat (401 - x1_6), ?_, ?_⟩
  · exact ⟨g_m1, by exact ⟨by exact ⟨by exact ⟨by omega, r1⟩, by exact ⟨ps_0, hb1.1, rfl⟩⟩, by exact ⟨ps_0, dE, hb1.1, rfl, rfl, fun _ => ⟨by have := u_m1.2; have := ty_19_4 g_m1.1; omega, u_m1.1⟩⟩⟩⟩
  · intro x1_6 m_6 r_x1_6 hI_6
    obtain ⟨g_m_6, hI_6⟩ := hI_6
    obtain ⟨hI_6, dI_6⟩ := hI_6
    obtain ⟨hI_6, cI_6⟩ := hI_6
    refine ⟨fun m_39 => QX m0 m_39 ∧ (((RX m1 m_39) ∧ (RC (pRun (tX m1) 401 ps_0) m_39)) ∧ (rd m_39 19 5 = 0 → LSd m_39 20 (qRun (tX m1) 401 ps_0 dE))), ?_, ?_⟩
    · skip
      refine ⟨fun hq => ?_, fun hq => ?_⟩
      · skip
        exact ⟨g_m_6, by exact ⟨by exact ⟨by exact hI_6.2, by exact ru_R cI_6 (tX_rx hI_6.2) (by omega)⟩, by exact qu_R dI_6 (tX_rx hI_6.2) (by omega)⟩⟩
      · skip
        refine ⟨fun hq => ?_, fun hq => ?_⟩
        · skip
          exact ⟨g_m_6, by exact ⟨by exact ⟨by exact hI_6.2, by exact ru_R cI_6 (tX_rx hI_6.2) (by omega)⟩, by exact qu_R dI_6 (tX_rx hI_6.2) (by omega)⟩⟩
        · skip
          refine CK.mono (ct_36   g_m_6.1) (by decide) ?_
          rintro m21 v21 r_v21 ⟨e_m21, h_m21⟩
          replace e_m21 := e_m21.symm
          subst e_m21
          refine ⟨fun hq => ?_, fun hq => ?_⟩
          · skip
            exact ⟨g_m_6, by exact ⟨by exact ⟨by exact hI_6.2, by exact ru_R cI_6 (tX_rx hI_6.2) (by omega)⟩, by exact qu_R dI_6 (tX_rx hI_6.2) (by omega)⟩⟩
          · skip
            refine CV.mono (ey_41   hI_6.2) (by decide) ?_
            rintro m30 ⟨hc_m30, h_m30⟩
            have g_m30 : QX m0 m30 := QX.rx g_m1 hc_m30
            obtain ⟨h_m30, l_m30⟩ := h_m30
            try have w2 : wr (x1_6 + 1) = x1_6 + 1 := wr_id (by omega) (by omega)
            intro z1_33 e_z1_33
            have r_z1_33 : rg z1_33 := by rw [e_z1_33]; exact wr_rg _
            exact ⟨⟨g_m30, by exact ⟨by exact ⟨by exact ⟨by omega, hc_m30⟩, by exact ru_B cI_6 (tX_rx hI_6.2) (by omega) (by omega) (by omega) h_m30.2⟩, by exact qu_B dI_6 (tX_rx hI_6.2) (by omega) (by omega) (by omega) h_m30.2 l_m30 (ty_lw4 g_m_6.1 lw_20)⟩⟩, by (try dsimp only); omega⟩
    · intro m_39  hR_39
      obtain ⟨g_m_39, hR_39⟩ := hR_39
      obtain ⟨hR_39, dR_39⟩ := hR_39
      obtain ⟨hR_39, cR_39⟩ := hR_39
      have pl39 : ∀ i j, (7 ≤ i ∧ i ≤ 18) → rd m_39 i j = rd m i j := fun i j h => (hR_39.2.2.2.2.1 i j (sRd_f (by omega))).trans (h_m1.2 i j h)
      refine ⟨fun m_69 => QX m0 m_69 ∧ (((((lwOk m_69 20 ∧ tkOk m_69) ∧ (∀ i j, (7 ≤ i ∧ i ≤ 18) → rd m_69 i j = rd m i j) ∧ (rd m_69 19 5 = 0 → vOk m_69 ∧ rd m_69 19 6 = 0)) ∧ (tX m_69 = tX m1 ∧ a69 (pRun (tX m1) 401 ps_0) m_69)) ∧ (rd m_69 19 5 = 0 → LSd m_69 20 (qRun (tX m1) 401 ps_0 dE))) ∧ (rd m_69 19 5 = 0 → dC (pRun (tX m1) 401 ps_0) m_69)), ?_, ?_⟩
      · skip
        refine ⟨fun hq => ?_, fun hq => ?_⟩
        · skip
          exact ⟨g_m_39, by exact ⟨by exact ⟨by exact ⟨by first | exact ⟨⟨hR_39.2.1, hR_39.2.2.2.1⟩, pl39, fun h => absurd h hq⟩ | exact ⟨⟨hR_39.2.1, hR_39.2.2.2.1⟩, pl39, fun h => ⟨hR_39.2.2.1, hq⟩⟩ | exact ⟨lt66, fun i j h => (q66 i j (by omega)).trans (pl39 i j h), fun h => by omega⟩, by first | exact ⟨tX_rx hR_39, a69_f cR_39 hq⟩ | exact ⟨tX_rx hR_39, a69_0 cR_39 (by omega) (by omega)⟩ | exact ⟨x66, a69_l cR_39 (by omega) (by omega) e_m58 e_m66⟩⟩, by first | exact dR_39 | exact fun z => absurd z (by omega)⟩, by first | (have u := e_m66; exact fun z => absurd z (by omega)) | exact fun z => (cR_39.2 (cR_39.1.1.symm.trans z)).2⟩⟩
        · skip
          refine ⟨fun hq => ?_, fun hq => ?_⟩
          · skip
            exact ⟨g_m_39, by exact ⟨by exact ⟨by exact ⟨by first | exact ⟨⟨hR_39.2.1, hR_39.2.2.2.1⟩, pl39, fun h => absurd h hq⟩ | exact ⟨⟨hR_39.2.1, hR_39.2.2.2.1⟩, pl39, fun h => ⟨hR_39.2.2.1, hq⟩⟩ | exact ⟨lt66, fun i j h => (q66 i j (by omega)).trans (pl39 i j h), fun h => by omega⟩, by first | exact ⟨tX_rx hR_39, a69_f cR_39 hq⟩ | exact ⟨tX_rx hR_39, a69_0 cR_39 (by omega) (by omega)⟩ | exact ⟨x66, a69_l cR_39 (by omega) (by omega) e_m58 e_m66⟩⟩, by first | exact dR_39 | exact fun z => absurd z (by omega)⟩, by first | (have u := e_m66; exact fun z => absurd z (by omega)) | exact fun z => (cR_39.2 (cR_39.1.1.symm.trans z)).2⟩⟩
          · skip
            intro m58 e_m58
            have g_m58 : QX m0 m58 := by rw [e_m58]; exact QX.wt g_m_39 (tw_19_5 g_m_39.1 (rd_rg _ _ _)) (Eq.refl true)
            intro m66 e_m66
            have g_m66 : QX m0 m66 := by rw [e_m66]; exact QX.wt g_m58 (tw_19_0 g_m58.1 (rd_rg _ _ _)) (Eq.refl true)
            have z66 : rd m66 19 5 = rd m_39 19 6 := by rw [e_m66, rd_wt, if_neg (by omega), e_m58, rd_wt, if_pos ⟨rfl, rfl⟩, wr_i (rd_rg _ _ _)]
            have q66 : ∀ i j, ¬ i = 19 → rd m66 i j = rd m_39 i j := fun i j h => by rw [e_m66, rd_wt, if_neg (by omega), e_m58, rd_wt, if_neg (by omega)]
            have lt66 : (lwOk m66 20 ∧ tkOk m66) := ⟨lwOk_fr hR_39.2.1 (q66 20 4 (by omega)) (fun j => q66 22 j (by omega)), by rw [e_m66, e_m58]; exact tk_wt (tk_wt hR_39.2.2.2.1 (by omega)) (by omega)⟩
            have x66 : tX m66 = tX m1 := (tX_eq (fun j => q66 2 j (by omega)) (fun j => q66 3 j (by omega)) (fun j => by rw [e_m66, e_m58]; rfl)).trans (tX_rx hR_39)
            exact ⟨g_m66, by exact ⟨by exact ⟨by exact ⟨by first | exact ⟨⟨hR_39.2.1, hR_39.2.2.2.1⟩, pl39, fun h => absurd h hq⟩ | exact ⟨⟨hR_39.2.1, hR_39.2.2.2.1⟩, pl39, fun h => ⟨hR_39.2.2.1, hq⟩⟩ | exact ⟨lt66, fun i j h => (q66 i j (by omega)).trans (pl39 i j h), fun h => by omega⟩, by first | exact ⟨tX_rx hR_39, a69_f cR_39 hq⟩ | exact ⟨tX_rx hR_39, a69_0 cR_39 (by omega) (by omega)⟩ | exact ⟨x66, a69_l cR_39 (by omega) (by omega) e_m58 e_m66⟩⟩, by first | exact dR_39 | exact fun z => absurd z (by omega)⟩, by first | (have u := e_m66; exact fun z => absurd z (by omega)) | exact fun z => (cR_39.2 (cR_39.1.1.symm.trans z)).2⟩⟩
      · intro m_69  hR_69
        obtain ⟨g_m_69, hR_69⟩ := hR_69
        obtain ⟨hR_69, eR_69⟩ := hR_69
        obtain ⟨hR_69, dR_69⟩ := hR_69
        obtain ⟨hR_69, cR_69⟩ := hR_69
        refine ⟨fun m_100 => QX m0 m_100 ∧ (((((lwOk m_100 20 ∧ tkOk m_100) ∧ (∀ i j, (7 ≤ i ∧ i ≤ 18) → rd m_100 i j = rd m i j) ∧ (rd m_100 19 5 = 0 → fpOk m_100)) ∧ (tX m_100 = tX m1 ∧ ansP (tX m1) (rd m 1 0) (rd m_100 19 5) (rd m_100 19 0))) ∧ (rd m_100 19 5 = 0 → LSd m_100 20 (qRun (tX m1) 401 ps_0 dE))) ∧ (rd m_100 19 5 = 0 → dC (pRun (tX m1) 401 ps_0) m_100)), ?_, ?_⟩
        · skip
          refine ⟨fun hq => ?_, fun hq => ?_⟩
          · skip
            exact ⟨g_m_69, by exact ⟨by exact ⟨by exact ⟨by first | exact ⟨hR_69.1, hR_69.2.1, fun h => absurd h hq⟩ | exact ⟨lt97, fun i j h => (q97 i j (by omega)).trans (hR_69.2.1 i j h), fun h => by omega⟩ | exact ⟨hR_69.1, hR_69.2.1, fun h => fp_of (hR_69.2.2 h).1 h (hR_69.2.2 h).2 (h_m77.2 (by omega))⟩, by first | exact ⟨cR_69.1, an_f cR_69.2 hq⟩ | exact ⟨x97.trans cR_69.1, an_6 cR_69.2 (by omega) g_m_69.1 (hb77.1 (by omega)) ((g_m_69.2.1 1 0 rfl).trans (g_m.2.1 1 0 rfl).symm) e_m86 e_m97⟩ | exact ⟨cR_69.1, an_0 cR_69.2 (by omega) g_m_69.1 (hb77.2 (by omega))⟩⟩, by first | exact dR_69 | exact fun z => absurd z (by omega)⟩, by first | (have u := e_m97; exact fun z => absurd z (by omega)) | exact eR_69⟩⟩
          · skip
            refine CK.mono (cx_51   g_m_69.1) (by decide) ?_
            rintro m77 v77 r_v77 ⟨e_m77, h_m77⟩
            replace e_m77 := e_m77.symm
            subst e_m77
            have hb77 := h_m77.2
            replace h_m77 := h_m77.1
            refine ⟨fun hq => ?_, fun hq => ?_⟩
            · skip
              exact ⟨g_m_69, by exact ⟨by exact ⟨by exact ⟨by first | exact ⟨hR_69.1, hR_69.2.1, fun h => absurd h hq⟩ | exact ⟨lt97, fun i j h => (q97 i j (by omega)).trans (hR_69.2.1 i j h), fun h => by omega⟩ | exact ⟨hR_69.1, hR_69.2.1, fun h => fp_of (hR_69.2.2 h).1 h (hR_69.2.2 h).2 (h_m77.2 (by omega))⟩, by first | exact ⟨cR_69.1, an_f cR_69.2 hq⟩ | exact ⟨x97.trans cR_69.1, an_6 cR_69.2 (by omega) g_m_69.1 (hb77.1 (by omega)) ((g_m_69.2.1 1 0 rfl).trans (g_m.2.1 1 0 rfl).symm) e_m86 e_m97⟩ | exact ⟨cR_69.1, an_0 cR_69.2 (by omega) g_m_69.1 (hb77.2 (by omega))⟩⟩, by first | exact dR_69 | exact fun z => absurd z (by omega)⟩, by first | (have u := e_m97; exact fun z => absurd z (by omega)) | exact eR_69⟩⟩
            · skip
              intro m86 e_m86
              have g_m86 : QX m0 m86 := by rw [e_m86]; exact QX.wt g_m_69 (tw_19_5 g_m_69.1 (by first | assumption | omega)) (Eq.refl true)
              have t7 := ty_1_0 g_m86.1
              intro m97 e_m97
              have g_m97 : QX m0 m97 := by rw [e_m97]; exact QX.wt g_m86 (tw_19_0 g_m86.1 (rd_rg _ _ _)) (Eq.refl true)
              have z97 : rd m97 19 5 = 6 := by rw [e_m97, rd_wt, if_neg (by omega), e_m86, rd_wt, if_pos ⟨rfl, rfl⟩]; rfl
              have q97 : ∀ i j, ¬ i = 19 → rd m97 i j = rd m_69 i j := fun i j h => by rw [e_m97, rd_wt, if_neg (by omega), e_m86, rd_wt, if_neg (by omega)]
              have lt97 : (lwOk m97 20 ∧ tkOk m97) := ⟨lwOk_fr hR_69.1.1 (q97 20 4 (by omega)) (fun j => q97 22 j (by omega)), by rw [e_m97, e_m86]; exact tk_wt (tk_wt hR_69.1.2 (by omega)) (by omega)⟩
              have x97 : tX m97 = tX m_69 := tX_eq (fun j => q97 2 j (by omega)) (fun j => q97 3 j (by omega)) (fun j => by rw [e_m97, e_m86]; rfl)
              exact ⟨g_m97, by exact ⟨by exact ⟨by exact ⟨by first | exact ⟨hR_69.1, hR_69.2.1, fun h => absurd h hq⟩ | exact ⟨lt97, fun i j h => (q97 i j (by omega)).trans (hR_69.2.1 i j h), fun h => by omega⟩ | exact ⟨hR_69.1, hR_69.2.1, fun h => fp_of (hR_69.2.2 h).1 h (hR_69.2.2 h).2 (h_m77.2 (by omega))⟩, by first | exact ⟨cR_69.1, an_f cR_69.2 hq⟩ | exact ⟨x97.trans cR_69.1, an_6 cR_69.2 (by omega) g_m_69.1 (hb77.1 (by omega)) ((g_m_69.2.1 1 0 rfl).trans (g_m.2.1 1 0 rfl).symm) e_m86 e_m97⟩ | exact ⟨cR_69.1, an_0 cR_69.2 (by omega) g_m_69.1 (hb77.2 (by omega))⟩⟩, by first | exact dR_69 | exact fun z => absurd z (by omega)⟩, by first | (have u := e_m97; exact fun z => absurd z (by omega)) | exact eR_69⟩⟩
        · intro m_100  hR_100
          obtain ⟨g_m_100, hR_100⟩ := hR_100
          obtain ⟨hR_100, eR_100⟩ := hR_100
          obtain ⟨hR_100, dR_100⟩ := hR_100
          obtain ⟨hR_100, cR_100⟩ := hR_100
          refine ⟨fun m_111 => QX m0 m_111 ∧ (((((lwOk m_111 20 ∧ tkOk m_111) ∧ ((¬ rd m_111 19 5 = 0 ∧ ∀ i j, (7 ≤ i ∧ i ≤ 18) → rd m_111 i j = rd m i j) ∨ (rd m_111 19 5 = 0 ∧ planOk m_111))) ∧ (tX m_111 = tX m1 ∧ ansP (tX m1) (rd m 1 0) (rd m_111 19 5) (rd m_111 19 0))) ∧ (rd m_111 19 5 = 0 → LSd m_111 11 (qRun (tX m1) 401 ps_0 dE))) ∧ (rd m_111 19 5 = 0 → pdC m_111 (pRun (tX m1) 401 ps_0))), ?_, ?_⟩
          · skip
            refine ⟨fun hq => ?_, fun hq => ?_⟩
            · skip
              exact ⟨g_m_100, by exact ⟨by exact ⟨by exact ⟨by first | exact ⟨hR_100.1, Or.inl ⟨hq, hR_100.2.1⟩⟩ | exact ⟨lt108, Or.inr ⟨by omega, po108⟩⟩, by first | exact cR_100 | exact ⟨x108.trans cR_100.1, by rw [hx_m108.2.1 19 5 rfl, hx_m108.2.1 19 0 rfl]; exact cR_100.2⟩⟩, by first | exact fun z => L_m108 _ (dR_100 (by omega)) | exact fun z => absurd z (by omega)⟩, by first | (have u := P_m108; exact fun z => pd_C (eR_100 (by omega)) P_m108 g_m_100.1) | exact fun z => absurd z (by omega)⟩⟩
            · skip
              have fp := hR_100.2.2 hq
              refine CV.mono (ez_54   g_m_100.1 fp.1 fp.2.1 fp.2.2.1 fp.2.2.2.1 fp.2.2.2.2.1 fp.2.2.2.2.2.1 fp.2.2.2.2.2.2 hR_100.1.1) (by decide) ?_
              rintro m108 ⟨hx_m108, h_m108⟩
              have g_m108 : QX m0 m108 := QX.fp g_m_100 hx_m108
              obtain ⟨h_m108, P_m108⟩ := h_m108
              obtain ⟨h_m108, L_m108⟩ := h_m108
              have z108 : rd m108 19 5 = rd m_100 19 5 := hx_m108.2.1 19 5 rfl
              have lt108 : (lwOk m108 20 ∧ tkOk m108) := ⟨lwOk_fr hR_100.1.1 (hx_m108.2.1 20 4 rfl) (fun j => hx_m108.2.1 22 j rfl), fun i hi hk => by rw [hx_m108.2.2]; rw [hx_m108.2.1 2 i rfl] at hk; exact hR_100.1.2 i hi hk⟩
              have po108 : planOk m108 := ⟨h_m108.2.1, fun c hc => h_m108.2.2.1 c (by omega), fun k hk => h_m108.2.2.2 k (by omega)⟩
              have x108 : tX m108 = tX m_100 := tX_eq (fun j => hx_m108.2.1 2 j rfl) (fun j => hx_m108.2.1 3 j rfl) (fun j => hx_m108.2.2 4 j)
              exact ⟨g_m108, by exact ⟨by exact ⟨by exact ⟨by first | exact ⟨hR_100.1, Or.inl ⟨hq, hR_100.2.1⟩⟩ | exact ⟨lt108, Or.inr ⟨by omega, po108⟩⟩, by first | exact cR_100 | exact ⟨x108.trans cR_100.1, by rw [hx_m108.2.1 19 5 rfl, hx_m108.2.1 19 0 rfl]; exact cR_100.2⟩⟩, by first | exact fun z => L_m108 _ (dR_100 (by omega)) | exact fun z => absurd z (by omega)⟩, by first | (have u := P_m108; exact fun z => pd_C (eR_100 (by omega)) P_m108 g_m_100.1) | exact fun z => absurd z (by omega)⟩⟩
          · intro m_111  hR_111
            obtain ⟨g_m_111, hR_111⟩ := hR_111
            obtain ⟨hR_111, eR_111⟩ := hR_111
            obtain ⟨hR_111, dR_111⟩ := hR_111
            obtain ⟨hR_111, cR_111⟩ := hR_111
            exact ⟨g_m_111, by exact ⟨by exact ⟨by exact ⟨by exact hR_111, by exact ⟨tks_X hb1.2 cR_111.1, by rw [cR_111.1]; exact cR_111.2⟩⟩, by exact fun z => by rw [cR_111.1]; exact dR_111 z⟩, by exact fun z => by rw [cR_111.1]; exact eR_111 z⟩⟩
