/-- what the cutting writes -/
def sDt (i j : Nat) : Bool := Nat.beq i 287 || Nat.beq i 288 || Nat.beq i 289 || (Nat.beq i 284 && Nat.beq j 10)
def DX (m0 m : Mm) : Prop := Ty m ∧ (∀ i j, sDt i j = false → rd m i j = rd m0 i j) ∧ ∀ i j, ¬ i = 290 → ld m i j = ld m0 i j
theorem DX.wt {m0 m : Mm} {i j : Nat} {v : Int} (h : DX m0 m) (ht : Ty (wt m i j v)) (hs : sDt i j = true) : DX m0 (wt m i j v) := by
  refine ⟨ht, fun a b e => ?_, h.2.2⟩
  rw [rd_wt, if_neg (fun q => by rw [q.1, q.2, hs] at e; cases e)]
  exact h.2.1 a b e
theorem DX.wl {m0 m : Mm} {j : Nat} {v : Int} (h : DX m0 m) : DX m0 (wl m 290 j v) :=
  ⟨h.1, h.2.1, fun a b e => by rw [ld_wl, if_neg (fun q => e q.1)]; exact h.2.2 a b e⟩
-- TippedCratesModel.token(IIIJ)V
set_option maxRecDepth 20000 in
theorem ct_177 {m0 m : Mm} {x1 : Int} {x2 : Int} {x3 : Int} {x4 : Int}  (g_m : DX m0 m) (r_x1 : rg x1) (r_x2 : rg x2) (r_x3 : rg x3) (r_x4 : rgl x4) (p0 : 0 ≤ x1 ∧ x1 ≤ 40) (p1 : 0 ≤ x3 ∧ x3 ≤ 9999) (p2 : rd m 284 10 ≤ 401) : CV 1 177 [.ref 284, iv x1, iv x2, iv x3, lv x4] m (fun m2 => DX m0 m2 ∧ (rd m2 284 10 = rd m 284 10 + 1)) := by
  refine br_177 r_x1 r_x2 r_x3 r_x4 ?_
  unfold P_177
  have tt := ty_284_10 g_m.1
  have t1 := ty_284_10 g_m.1
  refine ⟨⟨by omega, by omega⟩, ?_⟩
  intro m9 e_m9
  have g_m9 : DX m0 m9 := by rw [e_m9]; exact DX.wt g_m (tw_287 g_m.1 ⟨by omega, by omega⟩) (Eq.refl true)
  have n9 : rd m9 284 10 = rd m 284 10 := by rw [e_m9, rd_wt, if_neg (by omega)]
  have t2 := ty_284_10 g_m9.1
  refine ⟨⟨by omega, by omega⟩, ?_⟩
  intro m19 e_m19
  have g_m19 : DX m0 m19 := by rw [e_m19]; exact DX.wt g_m9 (tw_288 g_m9.1 (by first | assumption | omega)) (Eq.refl true)
  have n19 : rd m19 284 10 = rd m9 284 10 := by rw [e_m19, rd_wt, if_neg (by omega)]
  have t3 := ty_284_10 g_m19.1
  refine ⟨⟨by omega, by omega⟩, ?_⟩
  intro m29 e_m29
  have g_m29 : DX m0 m29 := by rw [e_m29]; exact DX.wt g_m19 (tw_289 g_m19.1 ⟨by omega, by omega⟩) (Eq.refl true)
  have n29 : rd m29 284 10 = rd m19 284 10 := by rw [e_m29, rd_wt, if_neg (by omega)]
  have t4 := ty_284_10 g_m29.1
  refine ⟨⟨by omega, by omega⟩, ?_⟩
  intro m40 e_m40
  have g_m40 : DX m0 m40 := by rw [e_m40]; exact DX.wl g_m29
  have n40 : rd m40 284 10 = rd m29 284 10 := by rw [e_m40, rd_wl]
  have t5 := ty_284_10 g_m40.1
  try have w6 : wr ((rd m40 284 10) + 1) = (rd m40 284 10) + 1 := wr_id (by omega) (by omega)
  intro m48 e_m48
  have g_m48 : DX m0 m48 := by rw [e_m48]; exact DX.wt g_m40 (tw_284_10 g_m40.1 ⟨by omega, by omega⟩) (Eq.refl true)
  have n48 : rd m48 284 10 = rd m 284 10 + 1 := by rw [e_m48, rd_wt, if_pos ⟨rfl, rfl⟩, wr_i (wr_rg _), wr_id (by omega) (by omega)]; omega
  exact ⟨g_m48, by first | trivial | omega | (refine ⟨?_, ?_⟩ <;> omega)⟩
-- TippedCratesModel.sign(III)I
set_option maxRecDepth 20000 in
theorem ct_179 {m0 m : Mm} {x1 : Int} {x2 : Int} {x3 : Int}  (g_m : DX m0 m) (r_x1 : rg x1) (r_x2 : rg x2) (r_x3 : rg x3) (p0 : rd m 284 10 ≤ 401) : CK 2 179 [.ref 284, iv x1, iv x2, iv x3] m (fun m2 v => DX m0 m2 ∧ (v = 1 ∧ rd m2 284 10 = rd m 284 10 + 1)) := by
  refine br_179 r_x1 r_x2 r_x3 ?_
  unfold P_179
  refine ⟨fun s0_43 => (s0_43 = 3 ∨ s0_43 = 4 ∨ s0_43 = 5 ∨ s0_43 = 6 ∨ s0_43 = 7), ?_, ?_⟩
  · skip
    refine ⟨fun hq => ?_, fun hq => ?_⟩
    · skip
      refine ⟨fun hq => ?_, fun hq => ?_⟩
      · skip
        refine ⟨fun hq => ?_, fun hq => ?_⟩
        · skip
          refine ⟨fun hq => ?_, fun hq => ?_⟩
          · skip
            (first | trivial | omega | (refine ⟨?_, ?_⟩ <;> omega))
          · skip
            (first | trivial | omega | (refine ⟨?_, ?_⟩ <;> omega))
        · skip
          (first | trivial | omega | (refine ⟨?_, ?_⟩ <;> omega))
      · skip
        (first | trivial | omega | (refine ⟨?_, ?_⟩ <;> omega))
    · skip
      (first | trivial | omega | (refine ⟨?_, ?_⟩ <;> omega))
  · intro s0_43 r_s0_43 hR_43
    refine ⟨fun y4_55 => 0 ≤ y4_55 ∧ y4_55 ≤ 15, ?_, ?_⟩
    · skip
      refine ⟨fun hq => ?_, fun hq => ?_⟩
      · skip
        (first | trivial | omega | (refine ⟨?_, ?_⟩ <;> omega))
      · skip
        (first | trivial | omega | (refine ⟨?_, ?_⟩ <;> omega))
    · intro y4_55 r_y4_55 hR_55
      refine ⟨fun y4_65 => 0 ≤ y4_65 ∧ y4_65 ≤ 15, ?_, ?_⟩
      · skip
        refine ⟨fun hq => ?_, fun hq => ?_⟩
        · skip
          (first | trivial | omega | (refine ⟨?_, ?_⟩ <;> omega))
        · skip
          (first | trivial | omega | (refine ⟨?_, ?_⟩ <;> omega))
      · intro y4_65 r_y4_65 hR_65
        refine ⟨fun y4_75 => 0 ≤ y4_75 ∧ y4_75 ≤ 15, ?_, ?_⟩
        · skip
          refine ⟨fun hq => ?_, fun hq => ?_⟩
          · skip
            (first | trivial | omega | (refine ⟨?_, ?_⟩ <;> omega))
          · skip
            (first | trivial | omega | (refine ⟨?_, ?_⟩ <;> omega))
        · intro y4_75 r_y4_75 hR_75
          refine ⟨fun y4_85 => 0 ≤ y4_85 ∧ y4_85 ≤ 15, ?_, ?_⟩
          · skip
            refine ⟨fun hq => ?_, fun hq => ?_⟩
            · skip
              (first | trivial | omega | (refine ⟨?_, ?_⟩ <;> omega))
            · skip
              (first | trivial | omega | (refine ⟨?_, ?_⟩ <;> omega))
          · intro y4_85 r_y4_85 hR_85
            refine ⟨fun y4_95 => 0 ≤ y4_95 ∧ y4_95 ≤ 15, ?_, ?_⟩
            · skip
              refine ⟨fun hq => ?_, fun hq => ?_⟩
              · skip
                (first | trivial | omega | (refine ⟨?_, ?_⟩ <;> omega))
              · skip
                (first | trivial | omega | (refine ⟨?_, ?_⟩ <;> omega))
            · intro y4_95 r_y4_95 hR_95
              refine CV.mono (ct_177   g_m r_y4_95 r_x1 (by unfold rg; decide) (by unfold rgl; decide) (by omega) (by omega) (by omega)) (by decide) ?_
              rintro m101 ⟨g_m101, h_m101⟩
              exact ⟨g_m101, by first | trivial | omega | (refine ⟨?_, ?_⟩ <;> omega)⟩
