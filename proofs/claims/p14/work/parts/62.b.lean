/-- Arrays.fill -/
def flm (m : Mm) (b n : Nat) (v : Int) : Mm := (fun i j => if i = b ∧ j < n then Int32.ofInt v else m.1 i j, m.2)
theorem rd_flm (m : Mm) (b n : Nat) (v : Int) (i j : Nat) : rd (flm m b n v) i j = if i = b ∧ j < n then wr v else rd m i j := by
  unfold rd flm
  by_cases h : i = b ∧ j < n
  · simp only [h, and_self, if_true]; exact to_of v
  · simp only [h, if_false]
theorem ld_flm (m : Mm) (b n : Nat) (v : Int) (i j : Nat) : ld (flm m b n v) i j = ld m i j := rfl
/-- what is changed lies within a region -/
def GX (S : Nat → Nat → Bool) (m0 m : Mm) : Prop := Ty m ∧ (∀ i j, S i j = false → rd m i j = rd m0 i j) ∧ ∀ i j, ld m i j = ld m0 i j
theorem GX.wt {S : Nat → Nat → Bool} {m0 m : Mm} {i j : Nat} {v : Int} (h : GX S m0 m) (ht : Ty (wt m i j v)) (hs : S i j = true) : GX S m0 (wt m i j v) := by
  refine ⟨ht, fun a b e => ?_, h.2.2⟩
  rw [rd_wt, if_neg (fun q => by rw [q.1, q.2, hs] at e; cases e)]
  exact h.2.1 a b e
theorem gx_in {S S2 : Nat → Nat → Bool} {m0 m m2 : Mm} (g : GX S2 m0 m) (h : GX S m m2) (hi : ∀ i j, S i j = true → S2 i j = true) : GX S2 m0 m2 := by
  refine ⟨h.1, fun i j e => ?_, fun i j => (h.2.2 i j).trans (g.2.2 i j)⟩
  refine (h.2.1 i j ?_).trans (g.2.1 i j e)
  cases q : S i j with
  | false => rfl
  | true => rw [hi i j q] at e; cases e
theorem tw_wk {m : Mm} {i j : Nat} {v : Int} (h : Ty m) (hi : i = 44 ∨ i = 45) (hv : rg v) : Ty (wt m i j v) := by
  rcases hi with rfl | rfl
  · exact tw_44 h hv
  · exact tw_45 h hv
theorem rg_wk {i j : Nat} (hi : i = 44 ∨ i = 45) : scr i j = true := by rcases hi with rfl | rfl <;> rfl
theorem G.fl {m0 m : Mm} {b n : Nat} {v : Int} (h : G m0 m) (hs : ∀ j, scr b j = true) (hr : rg v) (hb : ∀ j, (tyB b j).1 ≤ v ∧ v ≤ (tyB b j).2) : G m0 (flm m b n v) := by
  refine ⟨fun i j => ?_, fun i j e => ?_, h.2.2⟩
  · rw [rd_flm]
    by_cases q : i = b ∧ j < n
    · rw [if_pos q, wr_i hr, q.1]; exact hb j
    · rw [if_neg q]; exact h.1 i j
  · rw [rd_flm, if_neg (fun q => by rw [q.1, hs] at e; cases e)]
    exact h.2.1 i j e
theorem gf_41 {m0 m : Mm} {n : Nat} {v : Int} (h : G m0 m) (hv : rg v) : G m0 (flm m 41 n v) := h.fl (fun _ => rfl) hv (fun _ => hv)
theorem gf_46 {m0 m : Mm} {n : Nat} {v : Int} (h : G m0 m) (hv : -1 ≤ v ∧ v ≤ 599) : G m0 (flm m 46 n v) := h.fl (fun _ => rfl) ⟨by omega, by omega⟩ (fun _ => hv)
theorem gf_54 {m0 m : Mm} {n : Nat} {v : Int} (h : G m0 m) (hv : rg v) : G m0 (flm m 54 n v) := h.fl (fun _ => rfl) hv (fun _ => hv)
theorem gf_wk {m0 m : Mm} {b n : Nat} {v : Int} (h : G m0 m) (hb : b = 44 ∨ b = 45) (hv : rg v) : G m0 (flm m b n v) := by
  rcases hb with rfl | rfl
  · exact h.fl (fun _ => rfl) hv (fun _ => hv)
  · exact h.fl (fun _ => rfl) hv (fun _ => hv)
theorem g_cp38 {m0 m : Mm} {a sp : Nat} (h : G m0 m) (ha : isSt a) (hf : ∀ k : Nat, k < 6 → rd m (a + 3) (sp + k) ≤ 9) : G m0 (cpm m (a + 3) sp 38 0 6) :=
  ⟨h.1.cp (fun j _ hj => ⟨(ty_sC h.1 ha _).1, by have := hf j (by omega); rw [show j - 0 + sp = sp + j by omega]; exact this⟩), h.2.cp (fun _ => Eq.refl true)⟩
set_option maxRecDepth 20000 in
theorem ct_299 {m : Mm} {b n : Nat} {x1 : Int} (h_b : isR n b) (r_x1 : rg x1) : CV 1 299 [.ref b, iv x1] m (fun m2 => m2 = flm m b n x1 ∧ True) := by
  refine br_299 h_b r_x1 ?_
  unfold P_299
  have hn := h_b.2.1
  rintro z rfl
  refine ⟨fun x m2 => (0 ≤ x ∧ x ≤ n) ∧ m2 = flm m b (Int.toNat x) x1, fun x m2 => Int.toNat (n - x), ?_, ?_⟩
  · refine ⟨by omega, ?_⟩
    apply mm_ext
    · intro i j; rw [rd_flm, if_neg (by omega)]
    · intro i j; rfl
  · rintro x m2 r_x ⟨hx, rfl⟩
    refine ⟨fun hq => ?_, fun hq => ?_⟩
    · have e : Int.toNat x = n := by omega
      rw [e]
      exact ⟨rfl, trivial⟩
    · refine ⟨⟨by omega, by omega⟩, ?_⟩
      rintro m3 rfl z2 rfl
      have w : wr (x + 1) = x + 1 := wr_id (by omega) (by omega)
      refine ⟨⟨by omega, ?_⟩, by (try dsimp only); omega⟩
      have e : Int.toNat (wr (x + 1)) = Int.toNat x + 1 := by omega
      rw [e]
      apply mm_ext
      · intro i j
        rw [rd_wt, rd_flm, rd_flm]
        by_cases h1 : i = b ∧ j = Int.toNat x
        · rw [if_pos h1, if_pos ⟨h1.1, by omega⟩]
        · rw [if_neg h1]
          by_cases h2 : i = b ∧ j < Int.toNat x
          · rw [if_pos h2, if_pos ⟨h2.1, by omega⟩]
          · rw [if_neg h2, if_neg (by omega)]
      · intro i j; rfl
-- TippedCrates$Turns.lookOf([III)I
set_option maxRecDepth 20000 in
theorem ct_98 {m : Mm} {b n : Nat} {x2 : Int} {x3 : Int}  (T_m : Ty m) (h_b : isR n b) (r_x2 : rg x2) (r_x3 : rg x3) (p0 : 0 ≤ x2 ∧ x2 ≤ 2) (p1 : 0 ≤ x3 ∧ x3 ≤ 23) (p2 : n = 18) : CK 1 98 [.ref 31, .ref b, iv x2, iv x3] m (fun m2 v => m2 = m ∧ (True)) := by
  refine br_98 h_b r_x2 r_x3 ?_
  unfold P_98
  subst p2
  refine ⟨fun x4_6 x5_6 => 0 ≤ x5_6 ∧ x5_6 ≤ 6, fun x4_6 x5_6 => Int.toNat (6 - x5_6), ?_, ?_⟩
  · (first | omega | (refine ⟨?_, ?_⟩ <;> omega) | trivial)
  · intro x4_6 x5_6 r_x4_6 r_x5_6 hI_6
    refine ⟨fun hq => ?_, fun hq => ?_⟩
    · skip
      exact ⟨rfl, by first | trivial | omega | (refine ⟨?_, ?_⟩ <;> omega)⟩
    · skip
      try have w1 : wr (x3 * 6) = x3 * 6 := wr_id (by omega) (by omega)
      try have w2 : wr ((wr (x3 * 6)) + x5_6) = (wr (x3 * 6)) + x5_6 := wr_id (by omega) (by omega)
      refine ⟨⟨by omega, by omega⟩, ?_⟩
      try have w3 : wr (x2 * 6) = x2 * 6 := wr_id (by omega) (by omega)
      have t4 := ty_32 T_m (Int.toNat (wr ((wr (x3 * 6)) + x5_6)))
      try have w5 : wr ((wr (x2 * 6)) + (rd m 32 (Int.toNat (wr ((wr (x3 * 6)) + x5_6))))) = (wr (x2 * 6)) + (rd m 32 (Int.toNat (wr ((wr (x3 * 6)) + x5_6)))) := wr_id (by omega) (by omega)
      refine ⟨⟨by omega, by omega⟩, ?_⟩
      try have w6 : wr (x4_6 * 10) = x4_6 * 10 := wr_id (by omega) (by omega)
      try have w8 : wr ((wr (x4_6 * 10)) + (rd m b (Int.toNat (wr ((wr (x2 * 6)) + (rd m 32 (Int.toNat (wr ((wr (x3 * 6)) + x5_6))))))))) = (wr (x4_6 * 10)) + (rd m b (Int.toNat (wr ((wr (x2 * 6)) + (rd m 32 (Int.toNat (wr ((wr (x3 * 6)) + x5_6)))))))) := wr_id (by omega) (by omega)
      intro z4_38 e_z4_38
      have r_z4_38 : rg z4_38 := by rw [e_z4_38]; exact (wr_rg _)
      try have w9 : wr (x5_6 + 1) = x5_6 + 1 := wr_id (by omega) (by omega)
      intro z5_40 e_z5_40
      have r_z5_40 : rg z5_40 := by rw [e_z5_40]; exact wr_rg _
      exact ⟨by first | omega | (refine ⟨?_, ?_⟩ <;> omega) | trivial, by (try dsimp only); omega⟩
-- TippedCrates$Turns.mirroredLook([II)I
set_option maxRecDepth 20000 in
theorem ct_99 {m : Mm} {b n : Nat} {x2 : Int}  (T_m : Ty m) (h_b : isR n b) (r_x2 : rg x2) (p0 : 0 ≤ x2 ∧ x2 ≤ 2) (p1 : n = 18) : CK 1 99 [.ref 31, .ref b, iv x2] m (fun m2 v => m2 = m ∧ (True)) := by
  refine br_99 h_b r_x2 ?_
  unfold P_99
  subst p1
  refine ⟨fun x3_5 x4_5 => 0 ≤ x4_5 ∧ x4_5 ≤ 4, fun x3_5 x4_5 => Int.toNat (4 - x4_5), ?_, ?_⟩
  · (first | omega | (refine ⟨?_, ?_⟩ <;> omega) | trivial)
  · intro x3_5 x4_5 r_x3_5 r_x4_5 hI_5
    refine ⟨fun hq => ?_, fun hq => ?_⟩
    · skip
      try have w1 : wr (x2 * 6) = x2 * 6 := wr_id (by omega) (by omega)
      try have w2 : wr ((wr (x2 * 6)) + 5) = (wr (x2 * 6)) + 5 := wr_id (by omega) (by omega)
      refine ⟨⟨by omega, by omega⟩, ?_⟩
      try have w3 : wr (x3_5 * 10) = x3_5 * 10 := wr_id (by omega) (by omega)
      try have w5 : wr ((wr (x3_5 * 10)) + (rd m b (Int.toNat (wr ((wr (x2 * 6)) + 5))))) = (wr (x3_5 * 10)) + (rd m b (Int.toNat (wr ((wr (x2 * 6)) + 5)))) := wr_id (by omega) (by omega)
      intro z3_45 e_z3_45
      have r_z3_45 : rg z3_45 := by rw [e_z3_45]; exact (wr_rg _)
      try have w6 : wr ((wr (x2 * 6)) + 4) = (wr (x2 * 6)) + 4 := wr_id (by omega) (by omega)
      refine ⟨⟨by omega, by omega⟩, ?_⟩
      try have w7 : wr (z3_45 * 10) = z3_45 * 10 := wr_id (by omega) (by omega)
      try have w9 : wr ((wr (z3_45 * 10)) + (rd m b (Int.toNat (wr ((wr (x2 * 6)) + 4))))) = (wr (z3_45 * 10)) + (rd m b (Int.toNat (wr ((wr (x2 * 6)) + 4)))) := wr_id (by omega) (by omega)
      exact ⟨rfl, by first | trivial | omega | (refine ⟨?_, ?_⟩ <;> omega)⟩
    · skip
      try have w10 : wr (x2 * 6) = x2 * 6 := wr_id (by omega) (by omega)
      try have w11 : wr ((wr (x2 * 6)) + x4_5) = (wr (x2 * 6)) + x4_5 := wr_id (by omega) (by omega)
      refine ⟨⟨by omega, by omega⟩, ?_⟩
      try have w12 : wr (x3_5 * 10) = x3_5 * 10 := wr_id (by omega) (by omega)
      try have w14 : wr ((wr (x3_5 * 10)) + (rd m b (Int.toNat (wr ((wr (x2 * 6)) + x4_5))))) = (wr (x3_5 * 10)) + (rd m b (Int.toNat (wr ((wr (x2 * 6)) + x4_5)))) := wr_id (by omega) (by omega)
      intro z3_25 e_z3_25
      have r_z3_25 : rg z3_25 := by rw [e_z3_25]; exact (wr_rg _)
      try have w15 : wr (x4_5 + 1) = x4_5 + 1 := wr_id (by omega) (by omega)
      intro z4_26 e_z4_26
      have r_z4_26 : rg z4_26 := by rw [e_z4_26]; exact wr_rg _
      exact ⟨by first | omega | (refine ⟨?_, ?_⟩ <;> omega) | trivial, by (try dsimp only); omega⟩
-- TippedCrates$Turns.lookRound([II)V
set_option maxRecDepth 20000 in
theorem ct_100 {m0 m : Mm} {b n : Nat} {x2 : Int}  (g_m : G m0 m) (h_b : isR n b) (r_x2 : rg x2) (p0 : 0 ≤ x2 ∧ x2 ≤ 2) (p1 : n = 18) : CV 2 100 [.ref 31, .ref b, iv x2] m (fun m2 => G m0 m2 ∧ (True)) := by
  refine br_100 h_b r_x2 ?_
  unfold P_100
  refine ⟨fun x3_2 m_2 => G m0 m_2 ∧ (0 ≤ x3_2 ∧ x3_2 ≤ 24), fun x3_2 m_2 => Int.toNat (24 - x3_2), ?_, ?_⟩
  · exact ⟨g_m, by first | omega | (refine ⟨?_, ?_⟩ <;> omega) | trivial⟩
  · intro x3_2 m_2 r_x3_2 hI_2
    obtain ⟨g_m_2, hI_2⟩ := hI_2
    refine ⟨fun hq => ?_, fun hq => ?_⟩
    · skip
      exact ⟨g_m_2, by first | trivial | omega | (refine ⟨?_, ?_⟩ <;> omega)⟩
    · skip
      refine CK.mono (ct_98   g_m_2.1 h_b r_x2 r_x3_2 (by omega) (by omega) (by omega)) (by decide) ?_
      rintro m17 v17 r_v17 ⟨e_m17, h_m17⟩
      replace e_m17 := e_m17.symm
      subst e_m17
      refine ⟨⟨by omega, by omega⟩, ?_⟩
      intro m20 e_m20
      have g_m20 : G m0 m20 := by rw [e_m20]; exact GX.wt g_m_2 (tw_35 g_m_2.1 (by first | assumption | omega)) (Eq.refl true)
      try have w1 : wr (x3_2 + 1) = x3_2 + 1 := wr_id (by omega) (by omega)
      intro z3_21 e_z3_21
      have r_z3_21 : rg z3_21 := by rw [e_z3_21]; exact wr_rg _
      exact ⟨⟨g_m20, by first | omega | (refine ⟨?_, ?_⟩ <;> omega) | trivial⟩, by (try dsimp only); omega⟩
-- TippedCrates$Turns.seenBefore(II)Z
set_option maxRecDepth 20000 in
theorem ct_103 {m : Mm} {x1 : Int} {x2 : Int}  (T_m : Ty m) (r_x1 : rg x1) (r_x2 : rg x2) (p0 : x2 ≤ 24) : CK 1 103 [.ref 31, iv x1, iv x2] m (fun m2 v => m2 = m ∧ (v = 0 ∨ v = 1)) := by
  refine br_103 r_x1 r_x2 ?_
  unfold P_103
  refine ⟨fun x3_2 => 0 ≤ x3_2 ∧ x3_2 ≤ 24, fun x3_2 => Int.toNat (24 - x3_2), ?_, ?_⟩
  · (first | omega | (refine ⟨?_, ?_⟩ <;> omega) | trivial)
  · intro x3_2 r_x3_2 hI_2
    refine ⟨fun hq => ?_, fun hq => ?_⟩
    · skip
      exact ⟨rfl, by first | trivial | omega | (refine ⟨?_, ?_⟩ <;> omega)⟩
    · skip
      refine ⟨⟨by omega, by omega⟩, ?_⟩
      refine ⟨fun hq => ?_, fun hq => ?_⟩
      · skip
        try have w2 : wr (x3_2 + 1) = x3_2 + 1 := wr_id (by omega) (by omega)
        intro z3_19 e_z3_19
        have r_z3_19 : rg z3_19 := by rw [e_z3_19]; exact wr_rg _
        exact ⟨by first | omega | (refine ⟨?_, ?_⟩ <;> omega) | trivial, by (try dsimp only); omega⟩
      · skip
        exact ⟨rfl, by first | trivial | omega | (refine ⟨?_, ?_⟩ <;> omega)⟩
-- TippedCrates$Turns.canLook(I)Z
set_option maxRecDepth 20000 in
theorem ct_101 {m : Mm} {x1 : Int}  (T_m : Ty m) (r_x1 : rg x1)  : CK 2 101 [.ref 31, iv x1] m (fun m2 v => m2 = m ∧ (v = 0 ∨ v = 1)) := by
  refine br_101 r_x1 ?_
  unfold P_101
  refine CK.mono (ct_103   T_m r_x1 (by unfold rg; decide) (by omega)) (by decide) ?_
  rintro m4 v4 r_v4 ⟨e_m4, h_m4⟩
  replace e_m4 := e_m4.symm
  subst e_m4
  exact ⟨by omega, ⟨rfl, by first | trivial | omega | (refine ⟨?_, ?_⟩ <;> omega)⟩⟩
-- TippedCrates$Turns.countLooks()I
set_option maxRecDepth 20000 in
theorem ct_102 {m : Mm}   (T_m : Ty m)   : CK 2 102 [.ref 31] m (fun m2 v => m2 = m ∧ (True)) := by
  refine br_102  ?_
  unfold P_102
  refine ⟨fun x1_4 x2_4 m_4 => m_4 = m ∧ (0 ≤ x2_4 ∧ x2_4 ≤ 24), fun x1_4 x2_4 m_4 => Int.toNat (24 - x2_4), ?_, ?_⟩
  · exact ⟨rfl, by first | omega | (refine ⟨?_, ?_⟩ <;> omega) | trivial⟩
  · intro x1_4 x2_4 m_4 r_x1_4 r_x2_4 hI_4
    obtain ⟨e_m_4, hI_4⟩ := hI_4
    replace e_m_4 := e_m_4.symm
    subst e_m_4
    refine ⟨fun hq => ?_, fun hq => ?_⟩
    · skip
      exact ⟨rfl, by first | trivial | omega | (refine ⟨?_, ?_⟩ <;> omega)⟩
    · skip
      refine ⟨⟨by omega, by omega⟩, ?_⟩
      refine CK.mono (ct_103   T_m (rd_rg _ _ _) r_x2_4 (by omega)) (by decide) ?_
      rintro m18 v18 r_v18 ⟨e_m18, h_m18⟩
      replace e_m18 := e_m18.symm
      subst e_m18
      refine ⟨fun y1_27 => True, ?_, ?_⟩
      · skip
        refine ⟨fun hq => ?_, fun hq => ?_⟩
        · skip
          (first | trivial | omega | (refine ⟨?_, ?_⟩ <;> omega))
        · skip
          try have w2 : wr (x1_4 + 1) = x1_4 + 1 := wr_id (by omega) (by omega)
          intro z1_24 e_z1_24
          have r_z1_24 : rg z1_24 := by rw [e_z1_24]; exact wr_rg _
          (first | trivial | omega | (refine ⟨?_, ?_⟩ <;> omega))
      · intro y1_27 r_y1_27 hR_27
        try have w3 : wr (x2_4 + 1) = x2_4 + 1 := wr_id (by omega) (by omega)
        intro z2_27 e_z2_27
        have r_z2_27 : rg z2_27 := by rw [e_z2_27]; exact wr_rg _
        exact ⟨⟨rfl, by first | omega | (refine ⟨?_, ?_⟩ <;> omega) | trivial⟩, by (try dsimp only); omega⟩
-- TippedCrates$Standings.tipped(II)I
set_option maxRecDepth 20000 in
theorem ct_71 {m : Mm} {x1 : Int} {x2 : Int}  (T_m : Ty m) (r_x1 : rg x1) (r_x2 : rg x2) (p0 : 0 ≤ x1 ∧ x1 ≤ 599) (p1 : 0 ≤ x2 ∧ x2 ≤ 3) : CK 1 71 [.ref 36, iv x1, iv x2] m (fun m2 v => m2 = m ∧ (-1 ≤ v ∧ v ≤ 599 ∧ ((v = -1 ∧ rd m 37 (Int.toNat (x1 / 24 * 4 + x2)) = -1) ∨ (v = rd m 37 (Int.toNat (x1 / 24 * 4 + x2)) * 24 + rd m 33 (Int.toNat (x1 % 24 * 4 + x2)) ∧ ¬ rd m 37 (Int.toNat (x1 / 24 * 4 + x2)) = -1)))) := by
  refine br_71 r_x1 r_x2 ?_
  unfold P_71
  try have q1 : dvI x1 24 = x1 / 24 := dv_eq (by omega) (by omega) (by omega) (by omega)
  try have w2 : wr ((dvI x1 24) * 4) = (dvI x1 24) * 4 := wr_id (by omega) (by omega)
  try have w3 : wr ((wr ((dvI x1 24) * 4)) + x2) = (wr ((dvI x1 24) * 4)) + x2 := wr_id (by omega) (by omega)
  refine ⟨⟨by omega, by omega⟩, ?_⟩
  have t4 := ty_37 T_m (Int.toNat (wr ((wr ((dvI x1 24) * 4)) + x2)))
  intro z3_13 e_z3_13
  have r_z3_13 : rg z3_13 := by rw [e_z3_13]; exact (rd_rg _ _ _)
  have e1 : Int.toNat (wr ((wr ((dvI x1 24) * 4)) + x2)) = Int.toNat (x1 / 24 * 4 + x2) := by omega
  rw [e1] at e_z3_13
  have t0 := ty_37 T_m (Int.toNat (x1 / 24 * 4 + x2))
  refine ⟨fun s0_44 => -1 ≤ s0_44 ∧ s0_44 ≤ 599 ∧ ((s0_44 = -1 ∧ rd m 37 (Int.toNat (x1 / 24 * 4 + x2)) = -1) ∨ (s0_44 = rd m 37 (Int.toNat (x1 / 24 * 4 + x2)) * 24 + rd m 33 (Int.toNat (x1 % 24 * 4 + x2)) ∧ ¬ rd m 37 (Int.toNat (x1 / 24 * 4 + x2)) = -1)), ?_, ?_⟩
  · skip
    refine ⟨fun hq => ?_, fun hq => ?_⟩
    · skip
      try have q5 : rmI x1 24 = x1 % 24 := rm_eq (by omega) (by omega) (by omega) (by omega)
      try have w6 : wr ((rmI x1 24) * 4) = (rmI x1 24) * 4 := wr_id (by omega) (by omega)
      try have w7 : wr ((wr ((rmI x1 24) * 4)) + x2) = (wr ((rmI x1 24) * 4)) + x2 := wr_id (by omega) (by omega)
      refine ⟨⟨by omega, by omega⟩, ?_⟩
      try have w8 : wr (z3_13 * 24) = z3_13 * 24 := wr_id (by omega) (by omega)
      have t9 := ty_33 T_m (Int.toNat (wr ((wr ((rmI x1 24) * 4)) + x2)))
      try have w10 : wr ((wr (z3_13 * 24)) + (rd m 33 (Int.toNat (wr ((wr ((rmI x1 24) * 4)) + x2))))) = (wr (z3_13 * 24)) + (rd m 33 (Int.toNat (wr ((wr ((rmI x1 24) * 4)) + x2)))) := wr_id (by omega) (by omega)
      try have e2 : rd m 33 (Int.toNat (wr ((wr ((rmI x1 24) * 4)) + x2))) = rd m 33 (Int.toNat (x1 % 24 * 4 + x2)) := congrArg (rd m 33) (by omega)
      (first | exact ⟨by omega, by omega, Or.inl ⟨rfl, by omega⟩⟩ | exact ⟨by omega, by omega, Or.inr ⟨by omega, by omega⟩⟩)
    · skip
      try have e2 : rd m 33 (Int.toNat (wr ((wr ((rmI x1 24) * 4)) + x2))) = rd m 33 (Int.toNat (x1 % 24 * 4 + x2)) := congrArg (rd m 33) (by omega)
      (first | exact ⟨by omega, by omega, Or.inl ⟨rfl, by omega⟩⟩ | exact ⟨by omega, by omega, Or.inr ⟨by omega, by omega⟩⟩)
  · intro s0_44 r_s0_44 hR_44
    exact ⟨rfl, by first | trivial | omega | (refine ⟨?_, ?_⟩ <;> omega)⟩
-- TippedCrates$Standings.topOf(I)I
set_option maxRecDepth 20000 in
theorem ct_72 {m : Mm} {x1 : Int}  (T_m : Ty m) (r_x1 : rg x1) (p0 : 0 ≤ x1 ∧ x1 ≤ 599) : CK 1 72 [.ref 36, iv x1] m (fun m2 v => m2 = m ∧ (v = rd m 38 (Int.toNat (rd m 32 (Int.toNat (x1 % 24 * 6)))) ∧ 0 ≤ v ∧ v ≤ 9)) := by
  refine br_72 r_x1 ?_
  unfold P_72
  try have q1 : rmI x1 24 = x1 % 24 := rm_eq (by omega) (by omega) (by omega) (by omega)
  try have w2 : wr ((rmI x1 24) * 6) = (rmI x1 24) * 6 := wr_id (by omega) (by omega)
  try have w3 : wr ((wr ((rmI x1 24) * 6)) + 0) = (wr ((rmI x1 24) * 6)) + 0 := wr_id (by omega) (by omega)
  refine ⟨⟨by omega, by omega⟩, ?_⟩
  have t4 := ty_32 T_m (Int.toNat (wr ((wr ((rmI x1 24) * 6)) + 0)))
  refine ⟨⟨by omega, by omega⟩, ?_⟩
  have t5 := ty_38 T_m (Int.toNat (rd m 32 (Int.toNat (wr ((wr ((rmI x1 24) * 6)) + 0)))))
  exact ⟨rfl, by exact ⟨congrArg (fun q => rd m 38 (Int.toNat (rd m 32 q))) (by omega), by omega, by omega⟩⟩
-- TippedCrates$Standings.beneathOf(I)I
set_option maxRecDepth 20000 in
theorem ct_73 {m : Mm} {x1 : Int}  (T_m : Ty m) (r_x1 : rg x1) (p0 : 0 ≤ x1 ∧ x1 ≤ 599) : CK 1 73 [.ref 36, iv x1] m (fun m2 v => m2 = m ∧ (v = rd m 38 (Int.toNat (rd m 32 (Int.toNat (x1 % 24 * 6 + 1)))) ∧ 0 ≤ v ∧ v ≤ 9)) := by
  refine br_73 r_x1 ?_
  unfold P_73
  try have q1 : rmI x1 24 = x1 % 24 := rm_eq (by omega) (by omega) (by omega) (by omega)
  try have w2 : wr ((rmI x1 24) * 6) = (rmI x1 24) * 6 := wr_id (by omega) (by omega)
  try have w3 : wr ((wr ((rmI x1 24) * 6)) + 1) = (wr ((rmI x1 24) * 6)) + 1 := wr_id (by omega) (by omega)
  refine ⟨⟨by omega, by omega⟩, ?_⟩
  have t4 := ty_32 T_m (Int.toNat (wr ((wr ((rmI x1 24) * 6)) + 1)))
  refine ⟨⟨by omega, by omega⟩, ?_⟩
  have t5 := ty_38 T_m (Int.toNat (rd m 32 (Int.toNat (wr ((wr ((rmI x1 24) * 6)) + 1)))))
  exact ⟨rfl, by exact ⟨congrArg (fun q => rd m 38 (Int.toNat (rd m 32 q))) (by omega), by omega, by omega⟩⟩
-- TippedCrates$Standings.stand(LTippedCrates$State;I)V
set_option maxRecDepth 20000 in
theorem ct_70 {m0 m : Mm} {a : Nat} {x2 : Int}  (g_m : G m0 m) (h_a : isSt a) (r_x2 : rg x2) (p0 : 0 ≤ x2 ∧ x2 ≤ 2) (p1 : 0 ≤ rd m (a + 2) (Int.toNat x2)) (p2 : ∀ k : Nat, k < 6 → rd m (a + 3) (Int.toNat (x2 * 6) + k) ≤ 9) : CV 2 70 [.ref 36, .ref a, iv x2] m (fun m2 => G m0 m2 ∧ (True)) := by
  refine br_70 h_a r_x2 ?_
  unfold P_70
  refine ⟨⟨by omega, by omega⟩, ?_⟩
  have t1 := ty_sF g_m.1 h_a (Int.toNat x2)
  try have w2 : wr ((rd m (a + 2) (Int.toNat x2)) * 24) = (rd m (a + 2) (Int.toNat x2)) * 24 := wr_id (by omega) (by omega)
  intro m10 e_m10
  have g_m10 : G m0 m10 := by rw [e_m10]; exact GX.wt g_m (tw_36_1 g_m.1 ⟨by omega, by omega⟩) (Eq.refl true)
  try have w3 : wr (x2 * 6) = x2 * 6 := wr_id (by omega) (by omega)
  refine ⟨⟨by omega, by omega, by omega, by omega, by omega⟩, ?_⟩
  intro m28 e_m28
  have g_m28 : G m0 m28 := by rw [e_m28]; exact g_cp38 g_m10 h_a (fun k hk => by rw [e_m10, rd_wt, if_neg (by have := h_a.1; omega)]; rw [show Int.toNat (wr (x2 * 6)) = Int.toNat (x2 * 6) by omega]; exact p2 k hk)
  refine CK.mono (ct_83   g_m28.1 h_a) (by decide) ?_
  rintro m32 v32 r_v32 ⟨e_m32, h_m32⟩
  replace e_m32 := e_m32.symm
  subst e_m32
  refine ⟨⟨by omega, by omega⟩, ?_⟩
  have t4 := ty_sF g_m28.1 h_a (Int.toNat x2)
  intro z3_46 e_z3_46
  have r_z3_46 : rg z3_46 := by rw [e_z3_46]; exact (io_rg _ _ _)
  refine ⟨fun x4_50 m_50 => G m0 m_50 ∧ (0 ≤ x4_50 ∧ x4_50 ≤ 25), fun x4_50 m_50 => Int.toNat (25 - x4_50), ?_, ?_⟩
  · exact ⟨g_m28, by first | omega | (refine ⟨?_, ?_⟩ <;> omega) | trivial⟩
  · intro x4_50 m_50 r_x4_50 hI_50
    obtain ⟨g_m_50, hI_50⟩ := hI_50
    have wh := wh_b (ty_7_0 g_m_50.1) (ty_7_1 g_m_50.1)
    have t5 := ty_7_0 g_m_50.1
    have t6 := ty_7_1 g_m_50.1
    have w7 := wh_b (ty_7_0 g_m_50.1) (ty_7_1 g_m_50.1)
    try have w8 : wr ((rd m_50 7 0) * (rd m_50 7 1)) = (rd m_50 7 0) * (rd m_50 7 1) := wr_id (by omega) (by omega)
    refine ⟨fun hq => ?_, fun hq => ?_⟩
    · skip
      exact ⟨g_m_50, by first | trivial | omega | (refine ⟨?_, ?_⟩ <;> omega)⟩
    · skip
      refine ⟨fun x5_73 m_73 => G m0 m_73 ∧ (0 ≤ x5_73 ∧ x5_73 ≤ 4), fun x5_73 m_73 => Int.toNat (4 - x5_73), ?_, ?_⟩
      · exact ⟨g_m_50, by first | omega | (refine ⟨?_, ?_⟩ <;> omega) | trivial⟩
      · intro x5_73 m_73 r_x5_73 hI_73
        obtain ⟨g_m_73, hI_73⟩ := hI_73
        refine ⟨fun hq => ?_, fun hq => ?_⟩
        · skip
          try have w9 : wr (x4_50 + 1) = x4_50 + 1 := wr_id (by omega) (by omega)
          intro z4_151 e_z4_151
          have r_z4_151 : rg z4_151 := by rw [e_z4_151]; exact wr_rg _
          exact ⟨⟨g_m_73, by first | omega | (refine ⟨?_, ?_⟩ <;> omega) | trivial⟩, by (try dsimp only); omega⟩
        · skip
          refine CK.mono (ct_30   g_m_73.1 r_x4_50 r_x5_73 (by omega) (by omega)) (by decide) ?_
          rintro m87 v87 r_v87 ⟨e_m87, h_m87⟩
          replace e_m87 := e_m87.symm
          subst e_m87
          refine ⟨fun s0_120 => (s0_120 = 0 ∨ s0_120 = 1), ?_, ?_⟩
          · skip
            refine ⟨True, ?_, ?_⟩
            · skip
              refine ⟨fun hq => ?_, fun hq => ?_⟩
              · skip
                (first | trivial | omega | (refine ⟨?_, ?_⟩ <;> omega))
              · skip
                refine ⟨fun hq => ?_, fun hq => ?_⟩
                · skip
                  (first | trivial | omega | (refine ⟨?_, ?_⟩ <;> omega))
                · skip
                  (first | trivial | omega | (refine ⟨?_, ?_⟩ <;> omega))
            · intro   hR_119
              (first | trivial | omega | (refine ⟨?_, ?_⟩ <;> omega))
          · intro s0_120 r_s0_120 hR_120
            refine ⟨fun s2_144 => -1 ≤ s2_144 ∧ s2_144 ≤ 24, ?_, ?_⟩
            · skip
              refine ⟨fun hq => ?_, fun hq => ?_⟩
              · skip
                (first | trivial | omega | (refine ⟨?_, ?_⟩ <;> omega))
              · skip
                (first | trivial | omega | (refine ⟨?_, ?_⟩ <;> omega))
            · intro s2_144 r_s2_144 hR_144
              try have w11 : wr (x4_50 * 4) = x4_50 * 4 := wr_id (by omega) (by omega)
              try have w12 : wr ((wr (x4_50 * 4)) + x5_73) = (wr (x4_50 * 4)) + x5_73 := wr_id (by omega) (by omega)
              refine ⟨⟨by omega, by omega⟩, ?_⟩
              intro m144 e_m144
              have g_m144 : G m0 m144 := by rw [e_m144]; exact GX.wt g_m_73 (tw_37 g_m_73.1 ⟨by omega, by omega⟩) (Eq.refl true)
              try have w13 : wr (x5_73 + 1) = x5_73 + 1 := wr_id (by omega) (by omega)
              intro z5_145 e_z5_145
              have r_z5_145 : rg z5_145 := by rw [e_z5_145]; exact wr_rg _
              exact ⟨⟨g_m144, by first | omega | (refine ⟨?_, ?_⟩ <;> omega) | trivial⟩, by (try dsimp only); omega⟩
