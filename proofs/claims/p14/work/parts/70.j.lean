/-- regions of a text that is read -/
def sFp (i _j : Nat) : Bool := Nat.ble 7 i && Nat.ble i 18
theorem sFp_w {i j : Nat} (h : 7 ≤ i ∧ i ≤ 18) : sFp i j = true := by
  unfold sFp
  rw [Nat.ble_eq_true_of_le h.1, Nat.ble_eq_true_of_le h.2]
  rfl
theorem sPl_in {i j : Nat} (h : sPl i j = true) : 7 ≤ i ∧ i ≤ 18 := by
  unfold sPl at h
  rw [Bool.or_eq_true, Bool.or_eq_true, Bool.or_eq_true, Bool.or_eq_true, Bool.or_eq_true] at h
  rcases h with ((((h | h) | h) | h) | h) | h <;> (have := nb_eq h; omega)
theorem in_sPl_sFp (i j : Nat) (h : sPl i j = true) : sFp i j = true := sFp_w (sPl_in h)
theorem in_sL_sFp (i j : Nat) (h : sL 11 i j = true) : sFp i j = true := sFp_w (by have := sL_in h; omega)
def sQ (i j : Nat) : Bool := (Nat.ble 7 i && Nat.ble i 29) || Nat.beq i 2 || Nat.beq i 3 || (Nat.beq i 1 && Nat.beq j 6)
theorem sQ_w {i j : Nat} (h : 7 ≤ i ∧ i ≤ 29) : sQ i j = true := by
  unfold sQ
  rw [Nat.ble_eq_true_of_le h.1, Nat.ble_eq_true_of_le h.2]
  rfl
theorem sQ_ct {i j : Nat} (h : sQ i j = false) : sCt i j = false := by
  unfold sQ at h
  unfold sCt
  cases h1 : Nat.beq i 2 <;> cases h2 : Nat.beq i 3 <;> cases h3 : (Nat.beq i 1 && Nat.beq j 6) <;> simp [h1, h2, h3] at h ⊢
theorem sQ_no {i j : Nat} (h : sQ i j = false) : ¬ (7 ≤ i ∧ i ≤ 29) := fun w => by rw [sQ_w w] at h; cases h
theorem sCt_in {i j : Nat} (h : sCt i j = true) : i ≤ 3 := by
  unfold sCt at h
  rw [Bool.or_eq_true, Bool.or_eq_true, Bool.and_eq_true] at h
  rcases h with (h | h) | h
  · have := nb_eq h; omega
  · have := nb_eq h; omega
  · have := nb_eq h.1; omega
theorem sCt_no {i j : Nat} (h : 3 < i) : sCt i j = false := by
  cases q : sCt i j with
  | false => rfl
  | true => have := sCt_in q; omega
def QX (m0 m : Mm) : Prop := Ty m ∧ (∀ i j, sQ i j = false → rd m i j = rd m0 i j) ∧ ∀ i j, ¬ i = 4 → ¬ i = 29 → ld m i j = ld m0 i j
theorem QX.wt {m0 m : Mm} {i j : Nat} {v : Int} (h : QX m0 m) (ht : Ty (wt m i j v)) (hs : sQ i j = true) : QX m0 (wt m i j v) := by
  refine ⟨ht, fun a b e => ?_, h.2.2⟩
  rw [rd_wt, if_neg (fun q => by rw [q.1, q.2, hs] at e; cases e)]
  exact h.2.1 a b e
theorem sL20 {m m2 : Mm} (h : GX (sL 20) m m2) (i j : Nat) (hi : ¬ (20 ≤ i ∧ i ≤ 23)) : rd m2 i j = rd m i j := h.2.1 i j (by
  cases q : sL 20 i j with
  | false => rfl
  | true => have := sL_in q; omega)
theorem QX.lw {m0 m m2 : Mm} (g : QX m0 m) (h : GX (sL 20) m m2) : QX m0 m2 :=
  ⟨h.1, fun i j e => (sL20 h i j (by have := sQ_no e; omega)).trans (g.2.1 i j e), fun i j e1 e2 => (h.2.2 i j).trans (g.2.2 i j e1 e2)⟩
theorem QX.fp {m0 m m2 : Mm} (g : QX m0 m) (h : GX sFp m m2) : QX m0 m2 :=
  ⟨h.1, fun i j e => (h.2.1 i j (by
    cases q : sFp i j with
    | false => rfl
    | true =>
      have := sQ_no e
      unfold sFp at q
      rw [Bool.and_eq_true] at q
      have a := Nat.le_of_ble_eq_true q.1
      have b := Nat.le_of_ble_eq_true q.2
      omega)).trans (g.2.1 i j e), fun i j e1 e2 => (h.2.2 i j).trans (g.2.2 i j e1 e2)⟩
theorem CX_rfl {m : Mm} (T : Ty m) : CX m m := ⟨T, fun _ _ _ => rfl, fun _ _ _ => rfl⟩
theorem QX.cx {m0 m m2 : Mm} (g : QX m0 m) (h : CX m m2) : QX m0 m2 :=
  ⟨h.1, fun i j e => (h.2.1 i j (sQ_ct e)).trans (g.2.1 i j e), fun i j e1 e2 => (h.2.2 i j e1).trans (g.2.2 i j e1 e2)⟩
theorem QX.rx {m0 m m2 : Mm} (g : QX m0 m) (h : RX m m2) : QX m0 m2 :=
  ⟨h.1, fun i j e => (h.2.2.2.2.1 i j (by
    cases q : sRd i j with
    | false => rfl
    | true =>
      have := sQ_no e
      unfold sRd at q
      rw [Bool.and_eq_true] at q
      have a := Nat.le_of_ble_eq_true q.1
      have b := Nat.le_of_ble_eq_true q.2
      omega)).trans (g.2.1 i j e), fun i j e1 e2 => (h.2.2.2.2.2 i j e2).trans (g.2.2 i j e1 e2)⟩
theorem RX_rfl {m : Mm} (T : Ty m) (h : lwOk m 20 ∧ vOk m ∧ tkOk m) : RX m m := ⟨T, h.1, h.2.1, h.2.2, fun _ _ _ => rfl, fun _ _ _ => rfl⟩
-- TippedCrates$Reader.fillPlan()V
set_option maxRecDepth 20000 in
theorem ct_54 {m : Mm}   (T_m : Ty m)  (p0 : 2 ≤ rd m 19 8 ∧ rd m 19 8 ≤ 5) (p1 : 2 ≤ rd m 19 9 ∧ rd m 19 9 ≤ 5) (p2 : ∀ k : Nat, (k : Int) < rd m 19 11 → (0 ≤ rd m 25 (2 * k) ∧ rd m 25 (2 * k) ≤ rd m 19 8 - 1 ∧ 0 ≤ rd m 25 (2 * k + 1) ∧ rd m 25 (2 * k + 1) ≤ rd m 19 9 - 1)) (p3 : ∀ k : Nat, (k : Int) < rd m 19 12 → (0 ≤ rd m 26 (3 * k) ∧ rd m 26 (3 * k) ≤ rd m 19 8 - 1 ∧ 0 ≤ rd m 26 (3 * k + 1) ∧ rd m 26 (3 * k + 1) ≤ rd m 19 9 - 1)) (p4 : ∀ k : Nat, (k : Int) < rd m 19 13 → (0 ≤ rd m 27 (2 * k) ∧ rd m 27 (2 * k) ≤ rd m 19 8 - 1 ∧ 0 ≤ rd m 27 (2 * k + 1) ∧ rd m 27 (2 * k + 1) ≤ rd m 19 9 - 1)) (p5 : ∀ k : Nat, (k : Int) < rd m 19 12 → rd m 26 (3 * k + 2) ≤ 9) (p6 : ∀ k : Nat, (k : Int) < 6 * rd m 19 13 → rd m 28 k ≤ 9) (p7 : lwOk m 20) : CV 4 54 [.ref 19] m (fun m2 => GX sFp m m2 ∧ (rd m2 7 3 = rd m 19 13 ∧ lwOk m2 11 ∧ (∀ c : Nat, (c : Int) < rd m 19 13 → 0 ≤ rd m2 9 c) ∧ ∀ k : Nat, (k : Int) < 6 * rd m 19 13 → rd m2 10 k ≤ 9)) := by
  refine br_54  ?_
  unfold P_54
  have g_m : GX sFp m m := ⟨T_m, fun _ _ _ => rfl, fun _ _ => rfl⟩
  have u11 := ty_19_11 T_m
  have u12 := ty_19_12 T_m
  have u13 := ty_19_13 T_m
  have t1 := ty_19_8 T_m
  have t2 := ty_19_9 T_m
  refine CV.mono (ct_27   T_m (rd_rg _ _ _) (rd_rg _ _ _) (by omega) (by omega)) (by decide) ?_
  rintro m12 ⟨hx_m12, h_m12⟩
  have g_m12 : GX sFp m m12 := gx_in g_m hx_m12 in_sPl_sFp
  intro m23 e_m23
  have g_m23 : GX sFp m m23 := by rw [e_m23]; exact GX.wt g_m12 (tw_7_2 g_m12.1 (rd_rg _ _ _)) (Eq.refl true)
  have a23 : rd m23 19 13 = rd m 19 13 := g_m23.2.1 19 13 rfl
  have t4 := ty_19_13 g_m23.1
  intro m34 e_m34
  have g_m34 : GX sFp m m34 := by rw [e_m34]; exact GX.wt g_m23 (tw_7_3 g_m23.1 ⟨by omega, by omega⟩) (Eq.refl true)
  have b0 : rd m34 7 0 = rd m 19 8 := by rw [e_m34, rd_wt, if_neg (by omega), e_m23, rd_wt, if_neg (by omega)]; exact h_m12.1
  have b3 : rd m34 7 3 = rd m 19 13 := by rw [e_m34, rd_wt, if_pos ⟨rfl, rfl⟩, wr_i (rd_rg _ _ _), a23]
  have l34 : lwOk m34 20 := lwOk_fr p7 (g_m34.2.1 20 4 rfl) (fun j => g_m34.2.1 22 j rfl)
  refine CV.mono (ct_17   g_m34.1 lw_11 lw_20 ⟨rfl, rfl⟩) (by decide) ?_
  rintro m48 ⟨hx_m48, h_m48⟩
  have g_m48 : GX sFp m m48 := gx_in g_m34 hx_m48 in_sL_sFp
  have d0 : rd m48 7 0 = rd m 19 8 := (hx_m48.2.1 7 0 rfl).trans b0
  have d3 : rd m48 7 3 = rd m 19 13 := (hx_m48.2.1 7 3 rfl).trans b3
  have l48 := h_m48 l34
  refine ⟨fun x1_53 m_53 => GX sFp m m_53 ∧ ((0 ≤ x1_53 ∧ x1_53 ≤ 8) ∧ rd m_53 7 0 = rd m 19 8 ∧ rd m_53 7 3 = rd m 19 13 ∧ lwOk m_53 11), fun x1_53 m_53 => Int.toNat (8 - x1_53), ?_, ?_⟩
  · exact ⟨g_m48, by exact ⟨by omega, d0, d3, l48⟩⟩
  · intro x1_53 m_53 r_x1_53 hI_53
    obtain ⟨g_m_53, hI_53⟩ := hI_53
    have q11 : rd m_53 19 11 = rd m 19 11 := g_m_53.2.1 19 11 rfl
    have t5 := ty_19_11 g_m_53.1
    refine ⟨fun hq => ?_, fun hq => ?_⟩
    · skip
      refine ⟨fun x1_108 m_108 => GX sFp m m_108 ∧ ((0 ≤ x1_108 ∧ x1_108 ≤ 10) ∧ rd m_108 7 0 = rd m 19 8 ∧ rd m_108 7 3 = rd m 19 13 ∧ lwOk m_108 11), fun x1_108 m_108 => Int.toNat (10 - x1_108), ?_, ?_⟩
      · exact ⟨g_m_53, by exact ⟨by omega, hI_53.2⟩⟩
      · intro x1_108 m_108 r_x1_108 hI_108
        obtain ⟨g_m_108, hI_108⟩ := hI_108
        have q12 : rd m_108 19 12 = rd m 19 12 := g_m_108.2.1 19 12 rfl
        have t6 := ty_19_12 g_m_108.1
        refine ⟨fun hq => ?_, fun hq => ?_⟩
        · skip
          refine ⟨fun x1_167 m_167 => GX sFp m m_167 ∧ ((0 ≤ x1_167 ∧ x1_167 ≤ 3) ∧ rd m_167 7 0 = rd m 19 8 ∧ rd m_167 7 3 = rd m 19 13 ∧ lwOk m_167 11 ∧ ∀ c : Nat, (c : Int) < x1_167 → 0 ≤ rd m_167 9 c), fun x1_167 m_167 => Int.toNat (3 - x1_167), ?_, ?_⟩
          · exact ⟨g_m_108, by exact ⟨by omega, hI_108.2.1, hI_108.2.2.1, hI_108.2.2.2, fun c hc => by omega⟩⟩
          · intro x1_167 m_167 r_x1_167 hI_167
            obtain ⟨g_m_167, hI_167⟩ := hI_167
            have q13 : rd m_167 19 13 = rd m 19 13 := g_m_167.2.1 19 13 rfl
            have t7 := ty_19_13 g_m_167.1
            refine ⟨fun hq => ?_, fun hq => ?_⟩
            · skip
              intro m233 e_m233
              have g_m233 : GX sFp m m233 := by rw [e_m233]; exact GX.cp g_m_167 (g_m_167.1.cp (fun j _ _ => ty_28 g_m_167.1 _)) (fun _ => rfl)
              exact ⟨g_m233, by exact ⟨by rw [e_m233, rd_cpm, if_neg (by omega)]; exact hI_167.2.2.1, lwOk_fr hI_167.2.2.2.1 (by rw [e_m233, rd_cpm, if_neg (by omega)]) (fun j => by rw [e_m233, rd_cpm, if_neg (by omega)]), fun c hc => by rw [e_m233, rd_cpm, if_neg (by omega)]; exact hI_167.2.2.2.2 c (by omega), fun k hk => by rw [e_m233, rd_cpm, if_pos (by omega), show k - 0 + 0 = k by omega, g_m_167.2.1 28 k rfl]; exact p6 k hk⟩⟩
            · skip
              try have w8 : wr (x1_167 * 2) = x1_167 * 2 := wr_id (by omega) (by omega)
              refine ⟨⟨by omega, by omega⟩, ?_⟩
              try have w9 : wr ((wr (x1_167 * 2)) + 1) = (wr (x1_167 * 2)) + 1 := wr_id (by omega) (by omega)
              refine ⟨⟨by omega, by omega⟩, ?_⟩
              have t10 := ty_27 g_m_167.1 (Int.toNat (wr (x1_167 * 2)))
              have t11 := ty_27 g_m_167.1 (Int.toNat (wr ((wr (x1_167 * 2)) + 1)))
              have i1 : rd m_167 27 (Int.toNat (wr (x1_167 * 2))) = rd m 27 (2 * Int.toNat x1_167) := (g_m_167.2.1 27 _ rfl).trans (congrArg (rd m 27) (by omega))
              have i2 : rd m_167 27 (Int.toNat (wr ((wr (x1_167 * 2)) + 1))) = rd m 27 (2 * Int.toNat x1_167 + 1) := (g_m_167.2.1 27 _ rfl).trans (congrArg (rd m 27) (by omega))
              have yd := p4 (Int.toNat x1_167) (by omega)
              have fb := fl_b p0 p1 (x := rd m 27 (2 * Int.toNat x1_167)) (y := rd m 27 (2 * Int.toNat x1_167 + 1)) (by omega) (by omega)
              refine CK.mono (ct_29   g_m_167.1 (rd_rg _ _ _) (rd_rg _ _ _) (by omega) (by omega)) (by decide) ?_
              rintro m205 v205 r_v205 ⟨e_m205, h_m205⟩
              replace e_m205 := e_m205.symm
              subst e_m205
              rw [hI_167.2.1, i1, i2] at h_m205
              refine ⟨⟨by omega, by omega⟩, ?_⟩
              intro m208 e_m208
              have g_m208 : GX sFp m m208 := by rw [e_m208]; exact GX.wt g_m_167 (tw_9 g_m_167.1 ⟨by omega, by omega⟩) (Eq.refl true)
              have k208 : rd m208 7 0 = rd m 19 8 ∧ rd m208 7 3 = rd m 19 13 ∧ lwOk m208 11 := ⟨by rw [e_m208, rd_wt, if_neg (by omega)]; exact hI_167.2.1, by rw [e_m208, rd_wt, if_neg (by omega)]; exact hI_167.2.2.1, lwOk_fr hI_167.2.2.2.1 (by rw [e_m208, rd_wt, if_neg (by omega)]) (fun j => by rw [e_m208, rd_wt, if_neg (by omega)])⟩
              have c208 : ∀ c : Nat, (c : Int) < x1_167 + 1 → 0 ≤ rd m208 9 c := fun c hc => by
                rw [e_m208, rd_wt]
                split
                · rw [wr_id (by omega) (by omega)]; omega
                · exact hI_167.2.2.2.2 c (by omega)
              try have w12 : wr (x1_167 + 1) = x1_167 + 1 := wr_id (by omega) (by omega)
              intro z1_209 e_z1_209
              have r_z1_209 : rg z1_209 := by rw [e_z1_209]; exact wr_rg _
              exact ⟨⟨g_m208, by exact ⟨by omega, k208.1, k208.2.1, k208.2.2, fun c hc => c208 c (by omega)⟩⟩, by (try dsimp only); omega⟩
        · skip
          try have w13 : wr (x1_108 * 3) = x1_108 * 3 := wr_id (by omega) (by omega)
          refine ⟨⟨by omega, by omega⟩, ?_⟩
          try have w14 : wr ((wr (x1_108 * 3)) + 1) = (wr (x1_108 * 3)) + 1 := wr_id (by omega) (by omega)
          refine ⟨⟨by omega, by omega⟩, ?_⟩
          have t15 := ty_26 g_m_108.1 (Int.toNat (wr (x1_108 * 3)))
          have t16 := ty_26 g_m_108.1 (Int.toNat (wr ((wr (x1_108 * 3)) + 1)))
          have i1 : rd m_108 26 (Int.toNat (wr (x1_108 * 3))) = rd m 26 (3 * Int.toNat x1_108) := (g_m_108.2.1 26 _ rfl).trans (congrArg (rd m 26) (by omega))
          have i2 : rd m_108 26 (Int.toNat (wr ((wr (x1_108 * 3)) + 1))) = rd m 26 (3 * Int.toNat x1_108 + 1) := (g_m_108.2.1 26 _ rfl).trans (congrArg (rd m 26) (by omega))
          have yd := p3 (Int.toNat x1_108) (by omega)
          have fb := fl_b p0 p1 (x := rd m 26 (3 * Int.toNat x1_108)) (y := rd m 26 (3 * Int.toNat x1_108 + 1)) (by omega) (by omega)
          refine CK.mono (ct_29   g_m_108.1 (rd_rg _ _ _) (rd_rg _ _ _) (by omega) (by omega)) (by decide) ?_
          rintro m145 v145 r_v145 ⟨e_m145, h_m145⟩
          replace e_m145 := e_m145.symm
          subst e_m145
          rw [hI_108.2.1, i1, i2] at h_m145
          have pm := p5 (Int.toNat x1_108) (by omega)
          try have w17 : wr ((wr (x1_108 * 3)) + 2) = (wr (x1_108 * 3)) + 2 := wr_id (by omega) (by omega)
          refine ⟨⟨by omega, by omega⟩, ?_⟩
          refine ⟨⟨by omega, by omega⟩, ?_⟩
          have t18 := ty_26 g_m_108.1 (Int.toNat (wr ((wr (x1_108 * 3)) + 2)))
          intro m158 e_m158
          have g_m158 : GX sFp m m158 := by rw [e_m158]; exact GX.wt g_m_108 (tw_8 g_m_108.1 ⟨(ty_26 g_m_108.1 _).1, by rw [show rd m_108 26 (Int.toNat (wr ((wr (x1_108 * 3)) + 2))) = rd m 26 (3 * Int.toNat x1_108 + 2) from (g_m_108.2.1 26 _ rfl).trans (congrArg (rd m 26) (by omega))]; exact pm⟩) (Eq.refl true)
          have k158 : rd m158 7 0 = rd m 19 8 ∧ rd m158 7 3 = rd m 19 13 ∧ lwOk m158 11 := ⟨by rw [e_m158, rd_wt, if_neg (by omega)]; exact hI_108.2.1, by rw [e_m158, rd_wt, if_neg (by omega)]; exact hI_108.2.2.1, lwOk_fr hI_108.2.2.2 (by rw [e_m158, rd_wt, if_neg (by omega)]) (fun j => by rw [e_m158, rd_wt, if_neg (by omega)])⟩
          try have w19 : wr (x1_108 + 1) = x1_108 + 1 := wr_id (by omega) (by omega)
          intro z1_159 e_z1_159
          have r_z1_159 : rg z1_159 := by rw [e_z1_159]; exact wr_rg _
          exact ⟨⟨g_m158, by exact ⟨by omega, k158⟩⟩, by (try dsimp only); omega⟩
    · skip
      try have w20 : wr (x1_53 * 2) = x1_53 * 2 := wr_id (by omega) (by omega)
      refine ⟨⟨by omega, by omega⟩, ?_⟩
      try have w21 : wr ((wr (x1_53 * 2)) + 1) = (wr (x1_53 * 2)) + 1 := wr_id (by omega) (by omega)
      refine ⟨⟨by omega, by omega⟩, ?_⟩
      have t22 := ty_25 g_m_53.1 (Int.toNat (wr (x1_53 * 2)))
      have t23 := ty_25 g_m_53.1 (Int.toNat (wr ((wr (x1_53 * 2)) + 1)))
      refine CK.mono (ct_29   g_m_53.1 (rd_rg _ _ _) (rd_rg _ _ _) (by omega) (by omega)) (by decide) ?_
      rintro m92 v92 r_v92 ⟨e_m92, h_m92⟩
      replace e_m92 := e_m92.symm
      subst e_m92
      intro m97 e_m97
      have g_m97 : GX sFp m m97 := by rw [e_m97]; exact GX.wt g_m_53 (tw_7_4 g_m_53.1 (io_rg _ _ _)) (Eq.refl true)
      have k97 : rd m97 7 0 = rd m 19 8 ∧ rd m97 7 3 = rd m 19 13 ∧ lwOk m97 11 := ⟨by rw [e_m97, rd_wt, if_neg (by omega)]; exact hI_53.2.1, by rw [e_m97, rd_wt, if_neg (by omega)]; exact hI_53.2.2.1, lwOk_fr hI_53.2.2.2 (by rw [e_m97, rd_wt, if_neg (by omega)]) (fun j => by rw [e_m97, rd_wt, if_neg (by omega)])⟩
      try have w25 : wr (x1_53 + 1) = x1_53 + 1 := wr_id (by omega) (by omega)
      intro z1_100 e_z1_100
      have r_z1_100 : rg z1_100 := by rw [e_z1_100]; exact wr_rg _
      exact ⟨⟨g_m97, by exact ⟨by omega, k97⟩⟩, by (try dsimp only); omega⟩
-- TippedCrates$Reader.begin()V
set_option maxRecDepth 20000 in
theorem ct_35 {m0 m : Mm}   (g_m : QX m0 m)  (p0 : tkOk m) : CV 7 35 [.ref 19] m (fun m2 => QX m0 m2 ∧ ((lwOk m2 20 ∧ vOk m2 ∧ tkOk m2) ∧ ∀ i j, (7 ≤ i ∧ i ≤ 18) → rd m2 i j = rd m i j)) := by
  refine br_35  ?_
  unfold P_35
  intro m2 e_m2
  have g_m2 : QX m0 m2 := by rw [e_m2]; exact QX.wt g_m (tw_19_5 g_m.1 (by first | assumption | omega)) (Eq.refl true)
  intro m7 e_m7
  have g_m7 : QX m0 m7 := by rw [e_m7]; exact QX.wt g_m2 (tw_19_0 g_m2.1 (by first | assumption | omega)) (Eq.refl true)
  intro m12 e_m12
  have g_m12 : QX m0 m12 := by rw [e_m12]; exact QX.wt g_m7 (tw_19_6 g_m7.1 (by first | assumption | omega)) (Eq.refl true)
  intro m17 e_m17
  have g_m17 : QX m0 m17 := by rw [e_m17]; exact QX.wt g_m12 (tw_19_7 g_m12.1 (by first | assumption | omega)) (Eq.refl true)
  intro m22 e_m22
  have g_m22 : QX m0 m22 := by rw [e_m22]; exact QX.wt g_m17 (tw_19_8 g_m17.1 ⟨by omega, by omega⟩) (Eq.refl true)
  intro m27 e_m27
  have g_m27 : QX m0 m27 := by rw [e_m27]; exact QX.wt g_m22 (tw_19_9 g_m22.1 ⟨by omega, by omega⟩) (Eq.refl true)
  intro m32 e_m32
  have g_m32 : QX m0 m32 := by rw [e_m32]; exact QX.wt g_m27 (tw_19_10 g_m27.1 (by first | assumption | omega)) (Eq.refl true)
  intro m37 e_m37
  have g_m37 : QX m0 m37 := by rw [e_m37]; exact QX.wt g_m32 (tw_19_11 g_m32.1 ⟨by omega, by omega⟩) (Eq.refl true)
  intro m42 e_m42
  have g_m42 : QX m0 m42 := by rw [e_m42]; exact QX.wt g_m37 (tw_19_12 g_m37.1 ⟨by omega, by omega⟩) (Eq.refl true)
  intro m47 e_m47
  have g_m47 : QX m0 m47 := by rw [e_m47]; exact QX.wt g_m42 (tw_19_13 g_m42.1 ⟨by omega, by omega⟩) (Eq.refl true)
  have z5 : rd m47 19 5 = 0 := by rw [e_m47, rd_wt, if_neg (by omega), e_m42, rd_wt, if_neg (by omega), e_m37, rd_wt, if_neg (by omega), e_m32, rd_wt, if_neg (by omega), e_m27, rd_wt, if_neg (by omega), e_m22, rd_wt, if_neg (by omega), e_m17, rd_wt, if_neg (by omega), e_m12, rd_wt, if_neg (by omega), e_m7, rd_wt, if_neg (by omega), e_m2, rd_wt, if_pos ⟨rfl, rfl⟩]; rfl
  have z6 : rd m47 19 6 = 0 := by rw [e_m47, rd_wt, if_neg (by omega), e_m42, rd_wt, if_neg (by omega), e_m37, rd_wt, if_neg (by omega), e_m32, rd_wt, if_neg (by omega), e_m27, rd_wt, if_neg (by omega), e_m22, rd_wt, if_neg (by omega), e_m17, rd_wt, if_neg (by omega), e_m12, rd_wt, if_pos ⟨rfl, rfl⟩]; rfl
  have z8 : rd m47 19 8 = 4 := by rw [e_m47, rd_wt, if_neg (by omega), e_m42, rd_wt, if_neg (by omega), e_m37, rd_wt, if_neg (by omega), e_m32, rd_wt, if_neg (by omega), e_m27, rd_wt, if_neg (by omega), e_m22, rd_wt, if_pos ⟨rfl, rfl⟩]; rfl
  have z9 : rd m47 19 9 = 4 := by rw [e_m47, rd_wt, if_neg (by omega), e_m42, rd_wt, if_neg (by omega), e_m37, rd_wt, if_neg (by omega), e_m32, rd_wt, if_neg (by omega), e_m27, rd_wt, if_pos ⟨rfl, rfl⟩]; rfl
  have z12 : rd m47 19 12 = 0 := by rw [e_m47, rd_wt, if_neg (by omega), e_m42, rd_wt, if_pos ⟨rfl, rfl⟩]; rfl
  have z13 : rd m47 19 13 = 0 := by rw [e_m47, rd_wt, if_pos ⟨rfl, rfl⟩]; rfl
  have k47 : tkOk m47 := by rw [e_m47, e_m42, e_m37, e_m32, e_m27, e_m22, e_m17, e_m12, e_m7, e_m2]; exact tk_wt (tk_wt (tk_wt (tk_wt (tk_wt (tk_wt (tk_wt (tk_wt (tk_wt (tk_wt p0 (by omega)) (by omega)) (by omega)) (by omega)) (by omega)) (by omega)) (by omega)) (by omega)) (by omega)) (by omega)
  have pl47 : ∀ i j, ¬ i = 19 → rd m47 i j = rd m i j := fun i j h => by rw [e_m47, rd_wt, if_neg (by omega), e_m42, rd_wt, if_neg (by omega), e_m37, rd_wt, if_neg (by omega), e_m32, rd_wt, if_neg (by omega), e_m27, rd_wt, if_neg (by omega), e_m22, rd_wt, if_neg (by omega), e_m17, rd_wt, if_neg (by omega), e_m12, rd_wt, if_neg (by omega), e_m7, rd_wt, if_neg (by omega), e_m2, rd_wt, if_neg (by omega)]
  refine CV.mono (ct_13   g_m47.1 lw_20) (by decide) ?_
  rintro m54 ⟨hx_m54, h_m54⟩
  have g_m54 : QX m0 m54 := QX.lw g_m47 hx_m54
  have s54 : ∀ i j, ¬ (20 ≤ i ∧ i ≤ 23) → rd m54 i j = rd m47 i j := sL20 hx_m54
  have k54 : tkOk m54 := fun i hi hk => by rw [hx_m54.2.2]; rw [s54 2 i (by omega)] at hk; exact k47 i hi hk
  refine CV.mono (ct_87   (CX_rfl g_m54.1) k54) (by decide) ?_
  rintro m61 ⟨hc_m61, h_m61⟩
  have g_m61 : QX m0 m61 := QX.cx g_m54 hc_m61
  have s61 : ∀ i j, sCt i j = false → rd m61 i j = rd m54 i j := hc_m61.2.1
  intro m66 e_m66
  have g_m66 : QX m0 m66 := by rw [e_m66]; exact QX.wt g_m61 (tw_19_4 g_m61.1 ⟨by omega, by omega⟩) (Eq.refl true)
  have y5 : rd m66 19 5 = 0 := by rw [e_m66, rd_wt, if_neg (by omega), s61 19 5 rfl, s54 19 5 (by omega)]; exact z5
  have y6 : rd m66 19 6 = 0 := by rw [e_m66, rd_wt, if_neg (by omega), s61 19 6 rfl, s54 19 6 (by omega)]; exact z6
  have y8 : rd m66 19 8 = 4 := by rw [e_m66, rd_wt, if_neg (by omega), s61 19 8 rfl, s54 19 8 (by omega)]; exact z8
  have y9 : rd m66 19 9 = 4 := by rw [e_m66, rd_wt, if_neg (by omega), s61 19 9 rfl, s54 19 9 (by omega)]; exact z9
  have y12 : rd m66 19 12 = 0 := by rw [e_m66, rd_wt, if_neg (by omega), s61 19 12 rfl, s54 19 12 (by omega)]; exact z12
  have y13 : rd m66 19 13 = 0 := by rw [e_m66, rd_wt, if_neg (by omega), s61 19 13 rfl, s54 19 13 (by omega)]; exact z13
  have l66 : lwOk m66 20 := lwOk_fr h_m54 (by rw [e_m66, rd_wt, if_neg (by omega)]; exact s61 20 4 rfl) (fun j => by rw [e_m66, rd_wt, if_neg (by omega)]; exact s61 22 j rfl)
  have k66 : tkOk m66 := by rw [e_m66]; exact tk_wt h_m61 (by omega)
  have v66 : vOk m66 := fun _ _ => ⟨by omega, by omega, fun k hk => by omega, fun k hk => by omega⟩
  have pl66 : ∀ i j, (7 ≤ i ∧ i ≤ 18) → rd m66 i j = rd m i j := fun i j h => by rw [e_m66, rd_wt, if_neg (by omega), s61 i j (sCt_no (by omega)), s54 i j (by omega)]; exact pl47 i j (by omega)
  exact ⟨g_m66, by exact ⟨⟨l66, v66, k66⟩, pl66⟩⟩
