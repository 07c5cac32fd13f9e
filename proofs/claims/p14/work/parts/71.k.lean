theorem sRd_f {i j : Nat} (h : i < 19) : sRd i j = false := by
  unfold sRd
  rw [nble_f h]
  rfl
/-- what the plan tells of crates, of laws -/
def planOk (m : Mm) : Prop := lwOk m 11 ∧ (∀ c : Nat, (c : Int) < rd m 7 3 → 0 ≤ rd m 9 c) ∧ ∀ k : Nat, (k : Int) < 6 * rd m 7 3 → rd m 10 k ≤ 9
def inYd (m : Mm) (x y : Int) : Prop := 0 ≤ x ∧ x ≤ rd m 19 8 - 1 ∧ 0 ≤ y ∧ y ≤ rd m 19 9 - 1
def fpOk (m : Mm) : Prop := (2 ≤ rd m 19 8 ∧ rd m 19 8 ≤ 5) ∧ (2 ≤ rd m 19 9 ∧ rd m 19 9 ≤ 5) ∧ (∀ k : Nat, (k : Int) < rd m 19 11 → inYd m (rd m 25 (2 * k)) (rd m 25 (2 * k + 1))) ∧ (∀ k : Nat, (k : Int) < rd m 19 12 → inYd m (rd m 26 (3 * k)) (rd m 26 (3 * k + 1))) ∧ (∀ k : Nat, (k : Int) < rd m 19 13 → inYd m (rd m 27 (2 * k)) (rd m 27 (2 * k + 1))) ∧ (∀ k : Nat, (k : Int) < rd m 19 12 → rd m 26 (3 * k + 2) ≤ 9) ∧ ∀ k : Nat, (k : Int) < 6 * rd m 19 13 → rd m 28 k ≤ 9
theorem fp_of {m : Mm} (h : vOk m) (h5 : rd m 19 5 = 0) (h6 : rd m 19 6 = 0) (y : (∀ k : Nat, (k : Int) < rd m 19 11 → inYd m (rd m 25 (2 * k)) (rd m 25 (2 * k + 1))) ∧ (∀ k : Nat, (k : Int) < rd m 19 12 → inYd m (rd m 26 (3 * k)) (rd m 26 (3 * k + 1))) ∧ ∀ k : Nat, (k : Int) < rd m 19 13 → inYd m (rd m 27 (2 * k)) (rd m 27 (2 * k + 1))) : fpOk m := by
  have v := h h5 h6
  exact ⟨v.1, v.2.1, y.1, y.2.1, y.2.2, v.2.2.1, v.2.2.2⟩
-- TippedCrates$Reader.readTape()I
set_option maxRecDepth 20000 in
theorem ct_34 {m0 m : Mm}   (g_m : QX m0 m)  (p0 : tkOk m) : CK 36 34 [.ref 19] m (fun m2 v => QX m0 m2 ∧ ((lwOk m2 20 ∧ tkOk m2) ∧ ((¬ v = 0 ∧ ∀ i j, (7 ≤ i ∧ i ≤ 18) → rd m2 i j = rd m i j) ∨ (v = 0 ∧ planOk m2)))) := by
  refine br_34  ?_
  unfold P_34
  refine CV.mono (ct_35   g_m (by omega)) (by decide) ?_
  rintro m1 ⟨g_m1, h_m1⟩
  have r1 := RX_rfl g_m1.1 h_m1.1
  refine ⟨fun x1_6 m_6 => QX m0 m_6 ∧ ((0 ≤ x1_6 ∧ x1_6 ≤ 401) ∧ RX m1 m_6), fun x1_6 m_6 => Int.toNat (401 - x1_6), ?_, ?_⟩
  · exact ⟨g_m1, by exact ⟨by omega, r1⟩⟩
  · intro x1_6 m_6 r_x1_6 hI_6
    obtain ⟨g_m_6, hI_6⟩ := hI_6
    refine ⟨fun m_39 => QX m0 m_39 ∧ (RX m1 m_39), ?_, ?_⟩
    · skip
      refine ⟨fun hq => ?_, fun hq => ?_⟩
      · skip
        exact ⟨g_m_6, by exact hI_6.2⟩
      · skip
        refine ⟨fun hq => ?_, fun hq => ?_⟩
        · skip
          exact ⟨g_m_6, by exact hI_6.2⟩
        · skip
          refine CK.mono (ct_36   g_m_6.1) (by decide) ?_
          rintro m21 v21 r_v21 ⟨e_m21, h_m21⟩
          replace e_m21 := e_m21.symm
          subst e_m21
          refine ⟨fun hq => ?_, fun hq => ?_⟩
          · skip
            exact ⟨g_m_6, by exact hI_6.2⟩
          · skip
            refine CV.mono (ct_41   hI_6.2) (by decide) ?_
            rintro m30 ⟨hc_m30, h_m30⟩
            have g_m30 : QX m0 m30 := QX.rx g_m1 hc_m30
            try have w2 : wr (x1_6 + 1) = x1_6 + 1 := wr_id (by omega) (by omega)
            intro z1_33 e_z1_33
            have r_z1_33 : rg z1_33 := by rw [e_z1_33]; exact wr_rg _
            exact ⟨⟨g_m30, by exact ⟨by omega, hc_m30⟩⟩, by (try dsimp only); omega⟩
    · intro m_39  hR_39
      obtain ⟨g_m_39, hR_39⟩ := hR_39
      have pl39 : ∀ i j, (7 ≤ i ∧ i ≤ 18) → rd m_39 i j = rd m i j := fun i j h => (hR_39.2.2.2.2.1 i j (sRd_f (by omega))).trans (h_m1.2 i j h)
      refine ⟨fun m_69 => QX m0 m_69 ∧ ((lwOk m_69 20 ∧ tkOk m_69) ∧ (∀ i j, (7 ≤ i ∧ i ≤ 18) → rd m_69 i j = rd m i j) ∧ (rd m_69 19 5 = 0 → vOk m_69 ∧ rd m_69 19 6 = 0)), ?_, ?_⟩
      · skip
        refine ⟨fun hq => ?_, fun hq => ?_⟩
        · skip
          exact ⟨g_m_39, by first | exact ⟨⟨hR_39.2.1, hR_39.2.2.2.1⟩, pl39, fun h => absurd h hq⟩ | exact ⟨⟨hR_39.2.1, hR_39.2.2.2.1⟩, pl39, fun h => ⟨hR_39.2.2.1, hq⟩⟩ | exact ⟨lt66, fun i j h => (q66 i j (by omega)).trans (pl39 i j h), fun h => by omega⟩⟩
        · skip
          refine ⟨fun hq => ?_, fun hq => ?_⟩
          · skip
            exact ⟨g_m_39, by first | exact ⟨⟨hR_39.2.1, hR_39.2.2.2.1⟩, pl39, fun h => absurd h hq⟩ | exact ⟨⟨hR_39.2.1, hR_39.2.2.2.1⟩, pl39, fun h => ⟨hR_39.2.2.1, hq⟩⟩ | exact ⟨lt66, fun i j h => (q66 i j (by omega)).trans (pl39 i j h), fun h => by omega⟩⟩
          · skip
            intro m58 e_m58
            have g_m58 : QX m0 m58 := by rw [e_m58]; exact QX.wt g_m_39 (tw_19_5 g_m_39.1 (rd_rg _ _ _)) (Eq.refl true)
            intro m66 e_m66
            have g_m66 : QX m0 m66 := by rw [e_m66]; exact QX.wt g_m58 (tw_19_0 g_m58.1 (rd_rg _ _ _)) (Eq.refl true)
            have z66 : rd m66 19 5 = rd m_39 19 6 := by rw [e_m66, rd_wt, if_neg (by omega), e_m58, rd_wt, if_pos ⟨rfl, rfl⟩, wr_i (rd_rg _ _ _)]
            have q66 : ∀ i j, ¬ i = 19 → rd m66 i j = rd m_39 i j := fun i j h => by rw [e_m66, rd_wt, if_neg (by omega), e_m58, rd_wt, if_neg (by omega)]
            have lt66 : (lwOk m66 20 ∧ tkOk m66) := ⟨lwOk_fr hR_39.2.1 (q66 20 4 (by omega)) (fun j => q66 22 j (by omega)), by rw [e_m66, e_m58]; exact tk_wt (tk_wt hR_39.2.2.2.1 (by omega)) (by omega)⟩
            exact ⟨g_m66, by first | exact ⟨⟨hR_39.2.1, hR_39.2.2.2.1⟩, pl39, fun h => absurd h hq⟩ | exact ⟨⟨hR_39.2.1, hR_39.2.2.2.1⟩, pl39, fun h => ⟨hR_39.2.2.1, hq⟩⟩ | exact ⟨lt66, fun i j h => (q66 i j (by omega)).trans (pl39 i j h), fun h => by omega⟩⟩
      · intro m_69  hR_69
        obtain ⟨g_m_69, hR_69⟩ := hR_69
        refine ⟨fun m_100 => QX m0 m_100 ∧ ((lwOk m_100 20 ∧ tkOk m_100) ∧ (∀ i j, (7 ≤ i ∧ i ≤ 18) → rd m_100 i j = rd m i j) ∧ (rd m_100 19 5 = 0 → fpOk m_100)), ?_, ?_⟩
        · skip
          refine ⟨fun hq => ?_, fun hq => ?_⟩
          · skip
            exact ⟨g_m_69, by first | exact ⟨hR_69.1, hR_69.2.1, fun h => absurd h hq⟩ | exact ⟨lt97, fun i j h => (q97 i j (by omega)).trans (hR_69.2.1 i j h), fun h => by omega⟩ | exact ⟨hR_69.1, hR_69.2.1, fun h => fp_of (hR_69.2.2 h).1 h (hR_69.2.2 h).2 (h_m77.2 (by omega))⟩⟩
          · skip
            refine CK.mono (ct_51   g_m_69.1) (by decide) ?_
            rintro m77 v77 r_v77 ⟨e_m77, h_m77⟩
            replace e_m77 := e_m77.symm
            subst e_m77
            refine ⟨fun hq => ?_, fun hq => ?_⟩
            · skip
              exact ⟨g_m_69, by first | exact ⟨hR_69.1, hR_69.2.1, fun h => absurd h hq⟩ | exact ⟨lt97, fun i j h => (q97 i j (by omega)).trans (hR_69.2.1 i j h), fun h => by omega⟩ | exact ⟨hR_69.1, hR_69.2.1, fun h => fp_of (hR_69.2.2 h).1 h (hR_69.2.2 h).2 (h_m77.2 (by omega))⟩⟩
            · skip
              intro m86 e_m86
              have g_m86 : QX m0 m86 := by rw [e_m86]; exact QX.wt g_m_69 (tw_19_5 g_m_69.1 (by first | assumption | omega)) (Eq.refl true)
              have t7 := ty_1_0 g_m86.1
              intro m97 e_m97
              have g_m97 : QX m0 m97 := by rw [e_m97]; exact QX.wt g_m86 (tw_19_0 g_m86.1 (rd_rg _ _ _)) (Eq.refl true)
              have z97 : rd m97 19 5 = 6 := by rw [e_m97, rd_wt, if_neg (by omega), e_m86, rd_wt, if_pos ⟨rfl, rfl⟩]; rfl
              have q97 : ∀ i j, ¬ i = 19 → rd m97 i j = rd m_69 i j := fun i j h => by rw [e_m97, rd_wt, if_neg (by omega), e_m86, rd_wt, if_neg (by omega)]
              have lt97 : (lwOk m97 20 ∧ tkOk m97) := ⟨lwOk_fr hR_69.1.1 (q97 20 4 (by omega)) (fun j => q97 22 j (by omega)), by rw [e_m97, e_m86]; exact tk_wt (tk_wt hR_69.1.2 (by omega)) (by omega)⟩
              exact ⟨g_m97, by first | exact ⟨hR_69.1, hR_69.2.1, fun h => absurd h hq⟩ | exact ⟨lt97, fun i j h => (q97 i j (by omega)).trans (hR_69.2.1 i j h), fun h => by omega⟩ | exact ⟨hR_69.1, hR_69.2.1, fun h => fp_of (hR_69.2.2 h).1 h (hR_69.2.2 h).2 (h_m77.2 (by omega))⟩⟩
        · intro m_100  hR_100
          obtain ⟨g_m_100, hR_100⟩ := hR_100
          refine ⟨fun m_111 => QX m0 m_111 ∧ ((lwOk m_111 20 ∧ tkOk m_111) ∧ ((¬ rd m_111 19 5 = 0 ∧ ∀ i j, (7 ≤ i ∧ i ≤ 18) → rd m_111 i j = rd m i j) ∨ (rd m_111 19 5 = 0 ∧ planOk m_111))), ?_, ?_⟩
          · skip
            refine ⟨fun hq => ?_, fun hq => ?_⟩
            · skip
              exact ⟨g_m_100, by first | exact ⟨hR_100.1, Or.inl ⟨hq, hR_100.2.1⟩⟩ | exact ⟨lt108, Or.inr ⟨by omega, po108⟩⟩⟩
            · skip
              have fp := hR_100.2.2 hq
              refine CV.mono (ct_54   g_m_100.1 fp.1 fp.2.1 fp.2.2.1 fp.2.2.2.1 fp.2.2.2.2.1 fp.2.2.2.2.2.1 fp.2.2.2.2.2.2 hR_100.1.1) (by decide) ?_
              rintro m108 ⟨hx_m108, h_m108⟩
              have g_m108 : QX m0 m108 := QX.fp g_m_100 hx_m108
              have z108 : rd m108 19 5 = rd m_100 19 5 := hx_m108.2.1 19 5 rfl
              have lt108 : (lwOk m108 20 ∧ tkOk m108) := ⟨lwOk_fr hR_100.1.1 (hx_m108.2.1 20 4 rfl) (fun j => hx_m108.2.1 22 j rfl), fun i hi hk => by rw [hx_m108.2.2]; rw [hx_m108.2.1 2 i rfl] at hk; exact hR_100.1.2 i hi hk⟩
              have po108 : planOk m108 := ⟨h_m108.2.1, fun c hc => h_m108.2.2.1 c (by omega), fun k hk => h_m108.2.2.2 k (by omega)⟩
              exact ⟨g_m108, by first | exact ⟨hR_100.1, Or.inl ⟨hq, hR_100.2.1⟩⟩ | exact ⟨lt108, Or.inr ⟨by omega, po108⟩⟩⟩
          · intro m_111  hR_111
            obtain ⟨g_m_111, hR_111⟩ := hR_111
            exact ⟨g_m_111, by exact hR_111⟩
