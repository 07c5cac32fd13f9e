/-- a State's own cells -/
def sA (a i _j : Nat) : Bool := Nat.ble a i && Nat.ble i (a + 4)
theorem sA_w {a i j : Nat} (h : a ≤ i ∧ i ≤ a + 4) : sA a i j = true := by
  unfold sA
  rw [Nat.ble_eq_true_of_le h.1, Nat.ble_eq_true_of_le h.2]
  rfl
theorem nble_f {a b : Nat} (h : b < a) : Nat.ble a b = false := by
  cases q : Nat.ble a b with
  | false => rfl
  | true => exact absurd (Nat.le_of_ble_eq_true q) (by omega)
theorem sA_no {a i j : Nat} (h : ¬ (a ≤ i ∧ i ≤ a + 4)) : sA a i j = false := by
  unfold sA
  by_cases h1 : i < a
  · rw [nble_f h1]; rfl
  · rw [nble_f (by omega : a + 4 < i), Bool.and_false]
theorem sA_in {a i j : Nat} (h : sA a i j = true) : a ≤ i ∧ i ≤ a + 4 := by
  by_cases q : a ≤ i ∧ i ≤ a + 4
  · exact q
  · rw [sA_no q] at h; cases h
theorem GX.cp {S : Nat → Nat → Bool} {m0 m : Mm} {b sp d dp n : Nat} (h : GX S m0 m) (ht : Ty (cpm m b sp d dp n)) (hs : ∀ j, S d j = true) : GX S m0 (cpm m b sp d dp n) := by
  refine ⟨ht, fun x y e => ?_, h.2.2⟩
  rw [rd_cpm, if_neg (fun q => by rw [q.1, hs] at e; cases e)]
  exact h.2.1 x y e
theorem GX_flT {S : Nat → Nat → Bool} {m0 m : Mm} {a : Nat} (h : GX S m0 m) (ha : isSt a) (hs : ∀ j, S (a + 4) j = true) : GX S m0 (flm m (a + 4) 3 0) := by
  refine ⟨fun i j => ?_, fun x y e => ?_, h.2.2⟩
  · rw [rd_flm]
    by_cases q : i = a + 4 ∧ j < 3
    · rw [if_pos q, q.1, (tyB_st ha j).2.2.2.2]; exact wr_rg 0
    · rw [if_neg q]; exact h.1 i j
  · rw [rd_flm, if_neg (fun q => by rw [q.1, hs] at e; cases e)]
    exact h.2.1 x y e
section TCP
variable {m : Mm} {a b sp dp n : Nat}
theorem tcp_M (h : Ty m) (ha : isSt a) (hb : isSt b) : Ty (cpm m (b + 1) sp (a + 1) dp n) := h.cp (fun j _ _ => by rw [(tyB_st ha j).2.1]; exact ty_sM h hb _)
theorem tcp_F (h : Ty m) (ha : isSt a) (hb : isSt b) : Ty (cpm m (b + 2) sp (a + 2) dp n) := h.cp (fun j _ _ => by rw [(tyB_st ha j).2.2.1]; exact ty_sF h hb _)
theorem tcp_C (h : Ty m) (ha : isSt a) (hb : isSt b) : Ty (cpm m (b + 3) sp (a + 3) dp n) := h.cp (fun j _ _ => by rw [(tyB_st ha j).2.2.2.1]; exact ty_sC h hb _)
theorem tcp_T (h : Ty m) (ha : isSt a) (_hb : isSt b) : Ty (cpm m (b + 4) sp (a + 4) dp n) := h.cp (fun j _ _ => by rw [(tyB_st ha j).2.2.2.2]; exact rd_rg _ _ _)
theorem tcs_M (h : Ty m) (ha : isSt a) : Ty (cpm m 8 sp (a + 1) dp n) := h.cp (fun j _ _ => by rw [(tyB_st ha j).2.1]; exact ty_8 h _)
theorem tcs_F (h : Ty m) (ha : isSt a) : Ty (cpm m 9 sp (a + 2) dp n) := h.cp (fun j _ _ => by rw [(tyB_st ha j).2.2.1]; exact ty_9 h _)
theorem tcs_C (h : Ty m) (ha : isSt a) : Ty (cpm m 10 sp (a + 3) dp n) := h.cp (fun j _ _ => by rw [(tyB_st ha j).2.2.2.1]; exact ty_10 h _)
end TCP
/-- one State is as another was -/
def stEq (m2 : Mm) (a : Nat) (m : Mm) (b : Nat) : Prop := (∀ j : Nat, j < 25 → rd m2 (a + 1) j = rd m (b + 1) j) ∧ (∀ j : Nat, j < 3 → rd m2 (a + 2) j = rd m (b + 2) j) ∧ (∀ j : Nat, j < 18 → rd m2 (a + 3) j = rd m (b + 3) j) ∧ (∀ j : Nat, j < 3 → rd m2 (a + 4) j = rd m (b + 4) j) ∧ rd m2 a 4 = rd m b 4 ∧ rd m2 a 5 = rd m b 5 ∧ rd m2 a 6 = rd m b 6
theorem stEq_fr {m m2 m3 : Mm} {a b : Nat} (h : stEq m2 a m b) (e : ∀ i j, (a ≤ i ∧ i ≤ a + 4) → rd m3 i j = rd m2 i j) : stEq m3 a m b :=
  ⟨fun j hj => (e _ j (by omega)).trans (h.1 j hj), fun j hj => (e _ j (by omega)).trans (h.2.1 j hj), fun j hj => (e _ j (by omega)).trans (h.2.2.1 j hj), fun j hj => (e _ j (by omega)).trans (h.2.2.2.1 j hj), (e _ 4 (by omega)).trans h.2.2.2.2.1, (e _ 5 (by omega)).trans h.2.2.2.2.2.1, (e _ 6 (by omega)).trans h.2.2.2.2.2.2⟩
theorem stEq_src {m m2 m3 : Mm} {a b : Nat} (h : stEq m2 a m b) (e : ∀ i j, (b ≤ i ∧ i ≤ b + 4) → rd m i j = rd m3 i j) : stEq m2 a m3 b :=
  ⟨fun j hj => (h.1 j hj).trans (e _ j (by omega)), fun j hj => (h.2.1 j hj).trans (e _ j (by omega)), fun j hj => (h.2.2.1 j hj).trans (e _ j (by omega)), fun j hj => (h.2.2.2.1 j hj).trans (e _ j (by omega)), h.2.2.2.2.1.trans (e _ 4 (by omega)), h.2.2.2.2.2.1.trans (e _ 5 (by omega)), h.2.2.2.2.2.2.trans (e _ 6 (by omega))⟩
theorem nz0 : wr (nz 0) = 0 := by decide
theorem nz1 : wr (nz 1) = 1 := by decide
/-- the past's region: cleared; noted; taken back or gone on from; kept -/
def sPc (i j : Nat) : Bool := (Nat.beq i 55 && Nat.beq j 0) || Nat.beq i 58
def sPn (i _j : Nat) : Bool := Nat.beq i 55 || (Nat.ble 59 i && Nat.ble i 258)
def sPt (a i j : Nat) : Bool := Nat.beq i 55 || sA a i j
def sPk (i _j : Nat) : Bool := Nat.beq i 58 || (Nat.ble 259 i && Nat.ble i 273)
theorem in_sA_sPn {a : Nat} (h : 59 ≤ a ∧ a ≤ 254) (i j : Nat) (e : sA a i j = true) : sPn i j = true := by
  have q := sA_in e
  unfold sPn
  rw [Nat.ble_eq_true_of_le (by omega : 59 ≤ i), Nat.ble_eq_true_of_le (by omega : i ≤ 258)]
  simp
theorem in_sA_sPk {a : Nat} (h : 259 ≤ a ∧ a ≤ 269) (i j : Nat) (e : sA a i j = true) : sPk i j = true := by
  have q := sA_in e
  unfold sPk
  rw [Nat.ble_eq_true_of_le (by omega : 259 ≤ i), Nat.ble_eq_true_of_le (by omega : i ≤ 273)]
  simp
theorem in_sA_sPt {a : Nat} (i j : Nat) (e : sA a i j = true) : sPt a i j = true := by unfold sPt; rw [e]; simp
-- TippedCrates$State.copyOf(LTippedCrates$State;)V
set_option maxRecDepth 20000 in
theorem ct_76 {m : Mm} {a : Nat} {b : Nat}  (T_m : Ty m) (h_a : isSt a) (h_b : isSt b)  : CV 1 76 [.ref a, .ref b] m (fun m2 => GX (sA a) m m2 ∧ (stEq m2 a m b)) := by
  refine br_76 h_a h_b ?_
  unfold P_76
  have g_m : GX (sA a) m m := ⟨T_m, fun _ _ _ => rfl, fun _ _ => rfl⟩
  have ha2 := h_a
  have hb2 := h_b
  unfold isSt at ha2 hb2
  intro m12 e_m12
  have g_m12 : GX (sA a) m m12 := by rw [e_m12]; exact GX.cp g_m (tcp_M T_m h_a h_b) (fun _ => sA_w (by omega))
  intro m26 e_m26
  have g_m26 : GX (sA a) m m26 := by rw [e_m26]; exact GX.cp g_m12 (tcp_F g_m12.1 h_a h_b) (fun _ => sA_w (by omega))
  intro m44 e_m44
  have g_m44 : GX (sA a) m m44 := by rw [e_m44]; exact GX.cp g_m26 (tcp_C g_m26.1 h_a h_b) (fun _ => sA_w (by omega))
  intro m58 e_m58
  have g_m58 : GX (sA a) m m58 := by rw [e_m58]; exact GX.cp g_m44 (tcp_T g_m44.1 h_a h_b) (fun _ => sA_w (by omega))
  have t1 := ty_s4 g_m58.1 h_b
  intro m66 e_m66
  have g_m66 : GX (sA a) m m66 := by rw [e_m66]; exact GX.wt g_m58 (tw_s4 g_m58.1 h_a ⟨by omega, by omega⟩) (sA_w (by omega))
  intro m74 e_m74
  have g_m74 : GX (sA a) m m74 := by rw [e_m74]; exact GX.wt g_m66 (tw_s5 g_m66.1 h_a (rd_rg _ _ _)) (sA_w (by omega))
  intro m82 e_m82
  have g_m82 : GX (sA a) m m82 := by rw [e_m82]; exact GX.wt g_m74 (tw_s6 g_m74.1 h_a (rd_rg _ _ _)) (sA_w (by omega))
  exact ⟨g_m82, by exact ⟨fun j hj => (by rw [e_m82, rd_wt, if_neg (by omega), e_m74, rd_wt, if_neg (by omega), e_m66, rd_wt, if_neg (by omega), e_m58, rd_cpm, if_neg (by omega), e_m44, rd_cpm, if_neg (by omega), e_m26, rd_cpm, if_neg (by omega), e_m12, rd_cpm, if_pos (by omega)]; rfl), fun j hj => (by rw [e_m82, rd_wt, if_neg (by omega), e_m74, rd_wt, if_neg (by omega), e_m66, rd_wt, if_neg (by omega), e_m58, rd_cpm, if_neg (by omega), e_m44, rd_cpm, if_neg (by omega), e_m26, rd_cpm, if_pos (by omega), e_m12, rd_cpm, if_neg (by omega)]; rfl), fun j hj => (by rw [e_m82, rd_wt, if_neg (by omega), e_m74, rd_wt, if_neg (by omega), e_m66, rd_wt, if_neg (by omega), e_m58, rd_cpm, if_neg (by omega), e_m44, rd_cpm, if_pos (by omega), e_m26, rd_cpm, if_neg (by omega), e_m12, rd_cpm, if_neg (by omega)]; rfl), fun j hj => (by rw [e_m82, rd_wt, if_neg (by omega), e_m74, rd_wt, if_neg (by omega), e_m66, rd_wt, if_neg (by omega), e_m58, rd_cpm, if_pos (by omega), e_m44, rd_cpm, if_neg (by omega), e_m26, rd_cpm, if_neg (by omega), e_m12, rd_cpm, if_neg (by omega)]; rfl), (by rw [e_m82, rd_wt, if_neg (by omega), e_m74, rd_wt, if_neg (by omega), e_m66, rd_wt, if_pos ⟨rfl, rfl⟩, wr_i (rd_rg _ _ _), e_m58, rd_cpm, if_neg (by omega), e_m44, rd_cpm, if_neg (by omega), e_m26, rd_cpm, if_neg (by omega), e_m12, rd_cpm, if_neg (by omega)]), (by rw [e_m82, rd_wt, if_neg (by omega), e_m74, rd_wt, if_pos ⟨rfl, rfl⟩, wr_i (rd_rg _ _ _), e_m66, rd_wt, if_neg (by omega), e_m58, rd_cpm, if_neg (by omega), e_m44, rd_cpm, if_neg (by omega), e_m26, rd_cpm, if_neg (by omega), e_m12, rd_cpm, if_neg (by omega)]), (by rw [e_m82, rd_wt, if_pos ⟨rfl, rfl⟩, wr_i (rd_rg _ _ _), e_m74, rd_wt, if_neg (by omega), e_m66, rd_wt, if_neg (by omega), e_m58, rd_cpm, if_neg (by omega), e_m44, rd_cpm, if_neg (by omega), e_m26, rd_cpm, if_neg (by omega), e_m12, rd_cpm, if_neg (by omega)])⟩⟩
-- TippedCrates$State.start(LTippedCrates$Plan;)V
set_option maxRecDepth 20000 in
theorem ct_75 {m : Mm} {a : Nat}  (T_m : Ty m) (h_a : isSt a)  : CV 2 75 [.ref a, .ref 7] m (fun m2 => GX (sA a) m m2 ∧ (rd m2 a 4 = rd m 7 3 ∧ (∀ j : Nat, j < 3 → rd m2 (a + 2) j = rd m 9 j) ∧ ∀ j : Nat, j < 18 → rd m2 (a + 3) j = rd m 10 j)) := by
  refine br_75 h_a ?_
  unfold P_75
  have g_m : GX (sA a) m m := ⟨T_m, fun _ _ _ => rfl, fun _ _ => rfl⟩
  have ha2 := h_a
  unfold isSt at ha2
  intro m12 e_m12
  have g_m12 : GX (sA a) m m12 := by rw [e_m12]; exact GX.cp g_m (tcs_M T_m h_a) (fun _ => sA_w (by omega))
  intro m26 e_m26
  have g_m26 : GX (sA a) m m26 := by rw [e_m26]; exact GX.cp g_m12 (tcs_F g_m12.1 h_a) (fun _ => sA_w (by omega))
  intro m44 e_m44
  have g_m44 : GX (sA a) m m44 := by rw [e_m44]; exact GX.cp g_m26 (tcs_C g_m26.1 h_a) (fun _ => sA_w (by omega))
  refine CV.mono (ct_299   (st_4 h_a) (by unfold rg; decide)) (by decide) ?_
  rintro m52 ⟨hx_m52, h_m52⟩
  have g_m52 : GX (sA a) m m52 := by rw [hx_m52]; exact GX_flT g_m44 h_a (fun _ => sA_w (by omega))
  have t1 := ty_7_3 g_m52.1
  intro m60 e_m60
  have g_m60 : GX (sA a) m m60 := by rw [e_m60]; exact GX.wt g_m52 (tw_s4 g_m52.1 h_a ⟨by omega, by omega⟩) (sA_w (by omega))
  intro m65 e_m65
  have g_m65 : GX (sA a) m m65 := by rw [e_m65]; exact GX.wt g_m60 (tw_s5 g_m60.1 h_a (by first | assumption | omega)) (sA_w (by omega))
  intro m70 e_m70
  have g_m70 : GX (sA a) m m70 := by rw [e_m70]; exact GX.wt g_m65 (tw_s6 g_m65.1 h_a (by first | assumption | omega)) (sA_w (by omega))
  exact ⟨g_m70, by exact ⟨(by rw [e_m70, rd_wt, if_neg (by omega), e_m65, rd_wt, if_neg (by omega), e_m60, rd_wt, if_pos ⟨rfl, rfl⟩, wr_i (rd_rg _ _ _), hx_m52, rd_flm, if_neg (by omega), e_m44, rd_cpm, if_neg (by omega), e_m26, rd_cpm, if_neg (by omega), e_m12, rd_cpm, if_neg (by omega)]), fun j hj => (by rw [e_m70, rd_wt, if_neg (by omega), e_m65, rd_wt, if_neg (by omega), e_m60, rd_wt, if_neg (by omega), hx_m52, rd_flm, if_neg (by omega), e_m44, rd_cpm, if_neg (by omega), e_m26, rd_cpm, if_pos (by omega), e_m12, rd_cpm, if_neg (by omega)]; rfl), fun j hj => (by rw [e_m70, rd_wt, if_neg (by omega), e_m65, rd_wt, if_neg (by omega), e_m60, rd_wt, if_neg (by omega), hx_m52, rd_flm, if_neg (by omega), e_m44, rd_cpm, if_pos (by omega), e_m26, rd_cpm, if_neg (by omega), e_m12, rd_cpm, if_neg (by omega)]; rfl)⟩⟩
-- TippedCrates$Past.clear()V
set_option maxRecDepth 20000 in
theorem ct_20 {m : Mm}   (T_m : Ty m)   : CV 1 20 [.ref 55] m (fun m2 => GX sPc m m2 ∧ (rd m2 55 0 = 0 ∧ ∀ c : Nat, c < 3 → rd m2 58 c = 0)) := by
  refine br_20  ?_
  unfold P_20
  have g_m : GX sPc m m := ⟨T_m, fun _ _ _ => rfl, fun _ _ => rfl⟩
  intro m2 e_m2
  have g_m2 : GX sPc m m2 := by rw [e_m2]; exact GX.wt g_m (tw_55_0 T_m ⟨by omega, by omega⟩) (Eq.refl true)
  refine ⟨fun x1_7 m_7 => GX sPc m m_7 ∧ ((0 ≤ x1_7 ∧ x1_7 ≤ 3) ∧ rd m_7 55 0 = 0 ∧ ∀ c : Nat, (c : Int) < x1_7 → rd m_7 58 c = 0), fun x1_7 m_7 => Int.toNat (3 - x1_7), ?_, ?_⟩
  · exact ⟨g_m2, by exact ⟨by omega, by rw [e_m2, rd_wt, if_pos ⟨rfl, rfl⟩]; rfl, fun c hc => by omega⟩⟩
  · intro x1_7 m_7 r_x1_7 hI_7
    obtain ⟨g_m_7, hI_7⟩ := hI_7
    refine ⟨fun hq => ?_, fun hq => ?_⟩
    · skip
      exact ⟨g_m_7, by exact ⟨hI_7.2.1, fun c hc => hI_7.2.2 c (by omega)⟩⟩
    · skip
      refine ⟨⟨by omega, by omega⟩, ?_⟩
      intro m18 e_m18
      have g_m18 : GX sPc m m18 := by rw [e_m18]; exact GX.wt g_m_7 (tw_58 g_m_7.1 (nz_rg _)) (Eq.refl true)
      try have w1 : wr (x1_7 + 1) = x1_7 + 1 := wr_id (by omega) (by omega)
      intro z1_19 e_z1_19
      have r_z1_19 : rg z1_19 := by rw [e_z1_19]; exact wr_rg _
      exact ⟨⟨g_m18, by exact ⟨by omega, by rw [e_m18, rd_wt, if_neg (by omega)]; exact hI_7.2.1, fun c hc => by rw [e_m18, rd_wt]; split; exact nz0; exact hI_7.2.2 c (by omega)⟩⟩, by (try dsimp only); omega⟩
-- TippedCrates$Past.slotsHeld()I
set_option maxRecDepth 20000 in
theorem ct_25 {m : Mm}   (T_m : Ty m)   : CK 1 25 [.ref 55] m (fun m2 v => m2 = m ∧ (True)) := by
  refine br_25  ?_
  unfold P_25
  refine ⟨fun x1_13 x4_13 => 0 ≤ x4_13 ∧ x4_13 ≤ 3, fun x1_13 x4_13 => Int.toNat (3 - x4_13), ?_, ?_⟩
  · (first | omega | (refine ⟨?_, ?_⟩ <;> omega) | trivial)
  · intro x1_13 x4_13 r_x1_13 r_x4_13 hI_13
    refine ⟨fun hq => ?_, fun hq => ?_⟩
    · skip
      exact ⟨rfl, by first | trivial | omega | (refine ⟨?_, ?_⟩ <;> omega)⟩
    · skip
      refine ⟨⟨by omega, by omega⟩, ?_⟩
      intro z5_23 e_z5_23
      have r_z5_23 : rg z5_23 := by rw [e_z5_23]; exact (rd_rg _ _ _)
      refine ⟨fun s1_36 => (s1_36 = 0 ∨ s1_36 = 1), ?_, ?_⟩
      · skip
        refine ⟨fun hq => ?_, fun hq => ?_⟩
        · skip
          (first | trivial | omega | (refine ⟨?_, ?_⟩ <;> omega))
        · skip
          (first | trivial | omega | (refine ⟨?_, ?_⟩ <;> omega))
      · intro s1_36 r_s1_36 hR_36
        try have w2 : wr (x1_13 + s1_36) = x1_13 + s1_36 := wr_id (by omega) (by omega)
        intro z1_37 e_z1_37
        have r_z1_37 : rg z1_37 := by rw [e_z1_37]; exact (wr_rg _)
        try have w3 : wr (x4_13 + 1) = x4_13 + 1 := wr_id (by omega) (by omega)
        intro z4_38 e_z4_38
        have r_z4_38 : rg z4_38 := by rw [e_z4_38]; exact wr_rg _
        exact ⟨by first | omega | (refine ⟨?_, ?_⟩ <;> omega) | trivial, by (try dsimp only); omega⟩
-- TippedCrates$Past.note(LTippedCrates$State;)V
set_option maxRecDepth 20000 in
theorem ct_21 {m : Mm} {a : Nat}  (T_m : Ty m) (h_a : isSt a)  : CV 2 21 [.ref 55, .ref a] m (fun m2 => GX sPn m m2 ∧ (stEq m2 (59 + 5 * Int.toNat (rd m 55 4)) m a ∧ rd m2 55 4 = (if rd m 55 4 + 1 < 40 then rd m 55 4 + 1 else 0) ∧ rd m2 55 0 = min (rd m 55 0 + 1) 40 ∧ ∀ i j, ¬ i = 55 → ¬ (59 + 5 * Int.toNat (rd m 55 4) ≤ i ∧ i ≤ 63 + 5 * Int.toNat (rd m 55 4)) → rd m2 i j = rd m i j)) := by
  refine br_21 h_a ?_
  unfold P_21
  have g_m : GX sPn m m := ⟨T_m, fun _ _ _ => rfl, fun _ _ => rfl⟩
  have tn := ty_55_4 T_m
  have t1 := ty_55_4 T_m
  refine ⟨⟨by omega, by omega⟩, ?_⟩
  refine CV.mono (ct_76   T_m (st_ring ⟨by omega, by omega⟩) h_a) (by decide) ?_
  rintro m10 ⟨hx_m10, h_m10⟩
  have g_m10 : GX sPn m m10 := gx_in g_m hx_m10 (in_sA_sPn (by omega))
  have n10 : rd m10 55 4 = rd m 55 4 := hx_m10.2.1 55 4 (sA_no (by omega))
  have n0 : rd m10 55 0 = rd m 55 0 := hx_m10.2.1 55 0 (sA_no (by omega))
  have t2 := ty_55_4 g_m10.1
  try have w3 : wr ((rd m10 55 4) + 1) = (rd m10 55 4) + 1 := wr_id (by omega) (by omega)
  refine ⟨fun s1_35 => s1_35 = (if rd m 55 4 + 1 < 40 then rd m 55 4 + 1 else 0), ?_, ?_⟩
  · skip
    refine ⟨fun hq => ?_, fun hq => ?_⟩
    · skip
      ((split <;> omega))
    · skip
      ((split <;> omega))
  · intro s1_35 r_s1_35 hR_35
    have b35 : 0 ≤ s1_35 ∧ s1_35 ≤ 39 := by rw [hR_35]; split <;> omega
    intro m35 e_m35
    have g_m35 : GX sPn m m35 := by rw [e_m35]; exact GX.wt g_m10 (tw_55_4 g_m10.1 ⟨by omega, by omega⟩) (Eq.refl true)
    have z35 : rd m35 55 0 = rd m10 55 0 := by rw [e_m35, rd_wt, if_neg (by omega)]
    have ts := ty_55_0 T_m
    have mn : wr (rd m35 55 0 + 1) = rd m35 55 0 + 1 := wr_id (by omega) (by omega)
    have t4 := ty_55_0 g_m35.1
    try have w5 : wr ((rd m35 55 0) + 1) = (rd m35 55 0) + 1 := wr_id (by omega) (by omega)
    intro m50 e_m50
    have g_m50 : GX sPn m m50 := by rw [e_m50]; exact GX.wt g_m35 (tw_55_0 g_m35.1 ⟨by omega, by omega⟩) (Eq.refl true)
    exact ⟨g_m50, by exact ⟨stEq_fr h_m10 (fun i j hi => by rw [e_m50, rd_wt, if_neg (by omega), e_m35, rd_wt, if_neg (by omega)]), by rw [e_m50, rd_wt, if_neg (by omega), e_m35, rd_wt, if_pos ⟨rfl, rfl⟩, wr_id (by omega) (by omega)]; exact hR_35, by rw [e_m50, rd_wt, if_pos ⟨rfl, rfl⟩, mn, wr_id (by omega) (by omega), z35, n0], fun i j h1 h2 => by rw [e_m50, rd_wt, if_neg (by omega), e_m35, rd_wt, if_neg (by omega)]; exact hx_m10.2.1 i j (sA_no (by omega))⟩⟩
-- TippedCrates$Past.takeBack(LTippedCrates$State;)Z
set_option maxRecDepth 20000 in
theorem ct_22 {m : Mm} {a : Nat}  (T_m : Ty m) (h_a : isSt a)  : CK 2 22 [.ref 55, .ref a] m (fun m2 v => GX (sPt a) m m2 ∧ ((v = 0 ∧ rd m 55 0 = 0 ∧ m2 = m) ∨ (v = 1 ∧ 0 < rd m 55 0 ∧ rd m2 55 0 = rd m 55 0 - 1 ∧ rd m2 55 4 = (if 0 < rd m 55 4 then rd m 55 4 - 1 else 39) ∧ stEq m2 a m (59 + 5 * Int.toNat (if 0 < rd m 55 4 then rd m 55 4 - 1 else 39))))) := by
  refine br_22 h_a ?_
  unfold P_22
  have g_m : GX (sPt a) m m := ⟨T_m, fun _ _ _ => rfl, fun _ _ => rfl⟩
  have tn := ty_55_4 T_m
  have ts := ty_55_0 T_m
  have ha2 := h_a
  unfold isSt at ha2
  have t1 := ty_55_0 T_m
  refine ⟨fun hq => ?_, fun hq => ?_⟩
  · skip
    try have w2 : wr ((rd m 55 0) - 1) = (rd m 55 0) - 1 := wr_id (by omega) (by omega)
    intro m16 e_m16
    have g_m16 : GX (sPt a) m m16 := by rw [e_m16]; exact GX.wt g_m (tw_55_0 T_m ⟨by omega, by omega⟩) (Eq.refl true)
    have n16 : rd m16 55 4 = rd m 55 4 := by rw [e_m16, rd_wt, if_neg (by omega)]
    have t3 := ty_55_4 g_m16.1
    refine ⟨fun s1_38 => s1_38 = (if 0 < rd m 55 4 then rd m 55 4 - 1 else 39), ?_, ?_⟩
    · skip
      refine ⟨fun hq => ?_, fun hq => ?_⟩
      · skip
        have n16 : rd m16 55 4 = rd m 55 4 := by rw [e_m16, rd_wt, if_neg (by omega)]
        ((split <;> omega))
      · skip
        try have w4 : wr ((rd m16 55 4) - 1) = (rd m16 55 4) - 1 := wr_id (by omega) (by omega)
        have n16 : rd m16 55 4 = rd m 55 4 := by rw [e_m16, rd_wt, if_neg (by omega)]
        ((split <;> omega))
    · intro s1_38 r_s1_38 hR_38
      have b38 : 0 ≤ s1_38 ∧ s1_38 ≤ 39 := by rw [hR_38]; split <;> omega
      intro m38 e_m38
      have g_m38 : GX (sPt a) m m38 := by rw [e_m38]; exact GX.wt g_m16 (tw_55_4 g_m16.1 ⟨by omega, by omega⟩) (Eq.refl true)
      have n38 : rd m38 55 4 = s1_38 := by rw [e_m38, rd_wt, if_pos ⟨rfl, rfl⟩, wr_id (by omega) (by omega)]
      have t5 := ty_55_4 g_m38.1
      refine ⟨⟨by omega, by omega⟩, ?_⟩
      refine CV.mono (ct_76   g_m38.1 h_a (st_ring ⟨by omega, by omega⟩)) (by decide) ?_
      rintro m51 ⟨hx_m51, h_m51⟩
      have g_m51 : GX (sPt a) m m51 := gx_in g_m38 hx_m51 in_sA_sPt
      exact ⟨g_m51, by first | exact Or.inl ⟨rfl, hq, rfl⟩ | exact Or.inr ⟨rfl, by omega, by rw [hx_m51.2.1 55 0 (sA_no (by omega)), e_m38, rd_wt, if_neg (by omega), e_m16, rd_wt, if_pos ⟨rfl, rfl⟩, wr_id (by omega) (by omega), wr_id (by omega) (by omega)], by rw [hx_m51.2.1 55 4 (sA_no (by omega)), n38]; exact hR_38, by rw [n38, hR_38] at h_m51; exact stEq_src h_m51 (fun i j hi => by rw [e_m38, rd_wt, if_neg (by omega), e_m16, rd_wt, if_neg (by omega)])⟩⟩
  · skip
    exact ⟨g_m, by first | exact Or.inl ⟨rfl, hq, rfl⟩ | exact Or.inr ⟨rfl, by omega, by rw [hx_m51.2.1 55 0 (sA_no (by omega)), e_m38, rd_wt, if_neg (by omega), e_m16, rd_wt, if_pos ⟨rfl, rfl⟩, wr_id (by omega) (by omega), wr_id (by omega) (by omega)], by rw [hx_m51.2.1 55 4 (sA_no (by omega)), n38]; exact hR_38, by rw [n38, hR_38] at h_m51; exact stEq_src h_m51 (fun i j hi => by rw [e_m38, rd_wt, if_neg (by omega), e_m16, rd_wt, if_neg (by omega)])⟩⟩
-- TippedCrates$Past.keep(LTippedCrates$State;I)V
set_option maxRecDepth 20000 in
theorem ct_23 {m : Mm} {a : Nat} {x2 : Int}  (T_m : Ty m) (h_a : isSt a) (r_x2 : rg x2) (p0 : 0 ≤ x2 ∧ x2 ≤ 2) : CV 2 23 [.ref 55, .ref a, iv x2] m (fun m2 => GX sPk m m2 ∧ (stEq m2 (259 + 5 * Int.toNat x2) m a ∧ rd m2 58 (Int.toNat x2) = 1 ∧ (∀ i j, ¬ i = 58 → ¬ (259 + 5 * Int.toNat x2 ≤ i ∧ i ≤ 263 + 5 * Int.toNat x2) → rd m2 i j = rd m i j) ∧ ∀ j : Nat, ¬ j = Int.toNat x2 → rd m2 58 j = rd m 58 j)) := by
  refine br_23 h_a r_x2 ?_
  unfold P_23
  have g_m : GX sPk m m := ⟨T_m, fun _ _ _ => rfl, fun _ _ => rfl⟩
  refine ⟨⟨by omega, by omega⟩, ?_⟩
  refine CV.mono (ct_76   T_m (st_slot ⟨by omega, by omega⟩) h_a) (by decide) ?_
  rintro m7 ⟨hx_m7, h_m7⟩
  have g_m7 : GX sPk m m7 := gx_in g_m hx_m7 (in_sA_sPk (by omega))
  refine ⟨⟨by omega, by omega⟩, ?_⟩
  intro m16 e_m16
  have g_m16 : GX sPk m m16 := by rw [e_m16]; exact GX.wt g_m7 (tw_58 g_m7.1 (nz_rg _)) (Eq.refl true)
  exact ⟨g_m16, by exact ⟨stEq_fr h_m7 (fun i j hi => by rw [e_m16, rd_wt, if_neg (by omega)]), by rw [e_m16, rd_wt, if_pos ⟨rfl, rfl⟩]; exact nz1, fun i j h1 h2 => by rw [e_m16, rd_wt, if_neg (by omega)]; exact hx_m7.2.1 i j (sA_no (by omega)), fun j h1 => by rw [e_m16, rd_wt, if_neg (by omega)]; exact hx_m7.2.1 58 j (sA_no (by omega))⟩⟩
-- TippedCrates$Past.goOnFrom(LTippedCrates$State;I)Z
set_option maxRecDepth 20000 in
theorem ct_24 {m : Mm} {a : Nat} {x2 : Int}  (T_m : Ty m) (h_a : isSt a) (r_x2 : rg x2) (p0 : 0 ≤ x2 ∧ x2 ≤ 2) : CK 2 24 [.ref 55, .ref a, iv x2] m (fun m2 v => GX (sPt a) m m2 ∧ ((v = 0 ∧ rd m 58 (Int.toNat x2) = 0 ∧ m2 = m) ∨ (v = 1 ∧ ¬ rd m 58 (Int.toNat x2) = 0 ∧ rd m2 55 0 = 0 ∧ rd m2 55 4 = rd m 55 4 ∧ stEq m2 a m (259 + 5 * Int.toNat x2)))) := by
  refine br_24 h_a r_x2 ?_
  unfold P_24
  have g_m : GX (sPt a) m m := ⟨T_m, fun _ _ _ => rfl, fun _ _ => rfl⟩
  have ha2 := h_a
  unfold isSt at ha2
  refine ⟨⟨by omega, by omega⟩, ?_⟩
  refine ⟨fun hq => ?_, fun hq => ?_⟩
  · skip
    refine ⟨⟨by omega, by omega⟩, ?_⟩
    refine CV.mono (ct_76   T_m h_a (st_slot ⟨by omega, by omega⟩)) (by decide) ?_
    rintro m18 ⟨hx_m18, h_m18⟩
    have g_m18 : GX (sPt a) m m18 := gx_in g_m hx_m18 in_sA_sPt
    intro m23 e_m23
    have g_m23 : GX (sPt a) m m23 := by rw [e_m23]; exact GX.wt g_m18 (tw_55_0 g_m18.1 ⟨by omega, by omega⟩) (Eq.refl true)
    exact ⟨g_m23, by first | exact Or.inl ⟨rfl, hq, rfl⟩ | exact Or.inr ⟨rfl, hq, by rw [e_m23, rd_wt, if_pos ⟨rfl, rfl⟩]; rfl, by rw [e_m23, rd_wt, if_neg (by omega)]; exact hx_m18.2.1 55 4 (sA_no (by omega)), stEq_fr h_m18 (fun i j hi => by rw [e_m23, rd_wt, if_neg (by omega)])⟩⟩
  · skip
    exact ⟨g_m, by first | exact Or.inl ⟨rfl, hq, rfl⟩ | exact Or.inr ⟨rfl, hq, by rw [e_m23, rd_wt, if_pos ⟨rfl, rfl⟩]; rfl, by rw [e_m23, rd_wt, if_neg (by omega)]; exact hx_m18.2.1 55 4 (sA_no (by omega)), stEq_fr h_m18 (fun i j hi => by rw [e_m23, rd_wt, if_neg (by omega)])⟩⟩
