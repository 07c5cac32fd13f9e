/-- what the model's rich ways are about -/
def RLw (m : Mm) (mv : Int → Int → Int) (mk : Int → Int) (L c : Int) : Prop := agL m mv L ∧ cloN mv L ∧ (∀ s : Int, 0 ≤ s → s < L → rd m 323 (Int.toNat (25 + 6 * c + rd m 319 (Int.toNat (6 * (s % 24) + 1)))) = mk s) ∧ okK mk L ∧ ∀ t : Int, 0 ≤ t → t < L → rd m 332 (Int.toNat t) ≤ 1000
theorem rl_v {m : Mm} {mv : Int → Int → Int} {mk : Int → Int} {L c s k z v : Int} (R : RLw m mv mk L c) (h0 : 0 ≤ s) (h1 : s < L) (hk : 0 ≤ k ∧ k ≤ 3) (ez : z = rd m 325 (Int.toNat (4 * s + k))) (e : (v = -1 ∧ (z < 0 ∨ rd m 332 (Int.toNat z) < 0)) ∨ (0 ≤ z ∧ 0 ≤ rd m 332 (Int.toNat z) ∧ v = wr (rd m 332 (Int.toNat z) + rd m 323 (Int.toNat (25 + 6 * c + rd m 319 (Int.toNat (6 * (z % 24) + 1))))))) : v = rwV mv mk (fun t => rd m 332 (Int.toNat t)) s k := by
  obtain ⟨r1, r2, r3, r4, r5⟩ := R
  have em := r1 s k h0 h1 hk.1 hk.2
  rw [← ez] at em
  have cl := r2 s k h0 h1 hk.1 hk.2
  rw [← em] at cl
  unfold rwV
  rw [← em]
  rcases e with ⟨a, b⟩ | ⟨a, b, e⟩
  · rw [a]
    by_cases q : z = -1
    · rw [if_pos q]
    · rw [if_neg q]
      show -1 = if rd m 332 (Int.toNat z) < 0 then -1 else rd m 332 (Int.toNat z) + mk z
      rw [if_pos (by omega)]
  · rw [if_neg (by omega)]
    show v = if rd m 332 (Int.toNat z) < 0 then -1 else rd m 332 (Int.toNat z) + mk z
    have m9 := r4 z a (by omega)
    have u9 := r5 z a (by omega)
    rw [if_neg (by omega), e, r3 z a (by omega), wr_id (by omega) (by omega)]
theorem ry_s {mv : Int → Int → Int} {mk u : Int → Int} {s x3 x4 x5 y3 y4 z : Int} (d : x3 = ryF mv mk u s (Int.toNat x5) ∧ x4 = rxF mv mk u s (Int.toNat x5)) (r : (x4 < rwV mv mk u s x5 ∧ y3 = x5 ∧ y4 = rwV mv mk u s x5) ∨ (¬ x4 < rwV mv mk u s x5 ∧ y3 = x3 ∧ y4 = x4)) (h : 0 ≤ x5 ∧ z = x5 + 1) : y3 = ryF mv mk u s (Int.toNat z) ∧ y4 = rxF mv mk u s (Int.toNat z) := by
  have e5 : ((Int.toNat x5 : Nat) : Int) = x5 := by omega
  have ex : rxF mv mk u s (Int.toNat z) = max x4 (rwV mv mk u s x5) := by
    rw [show Int.toNat z = Int.toNat x5 + 1 by omega, d.2]
    show max (rxF mv mk u s (Int.toNat x5)) (rwV mv mk u s ((Int.toNat x5 : Nat) : Int)) = _
    rw [e5]
  have ey : ryF mv mk u s (Int.toNat z) = if x4 < rwV mv mk u s x5 then x5 else x3 := by
    rw [show Int.toNat z = Int.toNat x5 + 1 by omega, d.2, d.1]
    show (if rxF mv mk u s (Int.toNat x5) < rwV mv mk u s ((Int.toNat x5 : Nat) : Int) then ((Int.toNat x5 : Nat) : Int) else ryF mv mk u s (Int.toNat x5)) = _
    rw [e5]
  rw [ex, ey]
  rcases r with ⟨r1, r2, r3⟩ | ⟨r1, r2, r3⟩
  · rw [if_pos r1, Int.max_eq_right (by omega)]
    exact ⟨r2, r3⟩
  · rw [if_neg r1, Int.max_eq_left (by omega)]
    exact ⟨r2, r3⟩
/-! alike rows, alike ways -/
theorem rwV_cg {mv : Int → Int → Int} {mk u u2 : Int → Int} {L s k : Int} (cl : cloN mv L) (h : ∀ t, 0 ≤ t → t < L → u t = u2 t) (hs : 0 ≤ s ∧ s < L) (hk : 0 ≤ k ∧ k ≤ 3) : rwV mv mk u s k = rwV mv mk u2 s k := by
  unfold rwV
  by_cases q : mv s k = -1
  · rw [if_pos q, if_pos q]
  · have c := (cl s k hs.1 hs.2 hk.1 hk.2).resolve_left q
    rw [if_neg q, if_neg q, h _ c.1 c.2]
theorem rxy_cg {mv : Int → Int → Int} {mk u u2 : Int → Int} {L s : Int} (cl : cloN mv L) (h : ∀ t, 0 ≤ t → t < L → u t = u2 t) (hs : 0 ≤ s ∧ s < L) : ∀ n : Nat, n ≤ 4 → rxF mv mk u s n = rxF mv mk u2 s n ∧ ryF mv mk u s n = ryF mv mk u2 s n
  | 0, _ => ⟨rfl, rfl⟩
  | n + 1, hn => by
    obtain ⟨i1, i2⟩ := rxy_cg cl h hs n (by omega)
    have e := rwV_cg (mk := mk) cl h hs (k := (n : Int)) ⟨by omega, by omega⟩
    constructor
    · show max (rxF mv mk u s n) (rwV mv mk u s (n : Int)) = max (rxF mv mk u2 s n) (rwV mv mk u2 s (n : Int))
      rw [i1, e]
    · show (if rxF mv mk u s n < rwV mv mk u s (n : Int) then (n : Int) else ryF mv mk u s n) = if rxF mv mk u2 s n < rwV mv mk u2 s (n : Int) then (n : Int) else ryF mv mk u2 s n
      rw [i1, i2, e]
/-- by the best way the most, or none -/
theorem ry_x {mv : Int → Int → Int} {mk u : Int → Int} {L s : Int} (cl : cloN mv L) (hm : okK mk L) (hs : 0 ≤ s ∧ s < L) : (ryF mv mk u s 4 < 0 → rxF mv mk u s 4 = -1) ∧ (0 ≤ ryF mv mk u s 4 → ryF mv mk u s 4 ≤ 3 ∧ rxF mv mk u s 4 = rwV mv mk u s (ryF mv mk u s 4)) := by
  rcases rxy (rxy_p (u := u) cl hm hs) 4 (Nat.le_refl 4) with ⟨a, b, -⟩ | ⟨q, q1, q2, q3, -⟩
  · exact ⟨fun _ => a, fun w => by omega⟩
  · exact ⟨fun w => by omega, fun _ => ⟨by omega, by rw [q2]; exact q3⟩⟩
theorem rv_b {mv : Int → Int → Int} {mk : Int → Int} {L : Int} (cl : cloN mv L) (hm : okK mk L) : ∀ (n : Nat) (s : Int), 0 ≤ s → s < L → rvF mv mk n s ≤ 9 * (n : Int)
  | 0, s, _, _ => by
    show (0 : Int) ≤ _
    omega
  | n + 1, s, h0, h1 => by
    show rxF mv mk (rvF mv mk n) s 4 ≤ 9 * ((n + 1 : Nat) : Int)
    rcases rxy (rxy_p (u := rvF mv mk n) cl hm ⟨h0, h1⟩) 4 (Nat.le_refl 4) with ⟨a, -⟩ | ⟨q, q1, q2, q3, q4, -⟩
    · omega
    · rcases rwV_p (u := rvF mv mk n) cl hm ⟨h0, h1⟩ (k := (q : Int)) ⟨by omega, by omega⟩ with ⟨w, -⟩ | ⟨-, -, c, -, e⟩
      · omega
      · have b := rv_b cl hm n _ c.1 c.2
        have m9 := hm _ c.1 c.2
        omega
-- TippedCratesModel.richWith(III)I
set_option maxRecDepth 20000 in
theorem my_259 {m : Mm} {x1 : Int} {x2 : Int} {x3 : Int}  (T_m : Ty m) (r_x1 : rg x1) (r_x2 : rg x2) (r_x3 : rg x3) (p0 : 0 ≤ x1 ∧ x1 ≤ 2) (p1 : 0 ≤ x2 ∧ x2 ≤ 599) (p2 : 0 ≤ x3 ∧ x3 ≤ 3) : CK 3 259 [.ref 284, iv x1, iv x2, iv x3] m (fun m2 v => m2 = m ∧ ((True) ∧ (∀ mv mk L, RLw m mv mk L x1 → x2 < L → v = rwV mv mk (fun t => rd m 332 (Int.toNat t)) x2 x3))) := by
  refine br_259 r_x1 r_x2 r_x3 ?_
  unfold P_259
  try have w1 : wr (4 * x2) = 4 * x2 := wr_id (by omega) (by omega)
  try have w2 : wr ((wr (4 * x2)) + x3) = (wr (4 * x2)) + x3 := wr_id (by omega) (by omega)
  refine ⟨⟨by omega, by omega⟩, ?_⟩
  have t3 := ty_325 T_m (Int.toNat (wr ((wr (4 * x2)) + x3)))
  intro z4_10 e_z4_10
  have r_z4_10 : rg z4_10 := by rw [e_z4_10]; exact (rd_rg _ _ _)
  refine ⟨fun s0_47 m_47 => m_47 = m ∧ ((s0_47 = -1 ∧ (z4_10 < 0 ∨ rd m 332 (Int.toNat z4_10) < 0)) ∨ (0 ≤ z4_10 ∧ 0 ≤ rd m 332 (Int.toNat z4_10) ∧ s0_47 = wr (rd m 332 (Int.toNat z4_10) + rd m 323 (Int.toNat (25 + 6 * x1 + rd m 319 (Int.toNat (6 * (z4_10 % 24) + 1))))))), ?_, ?_⟩
  · skip
    refine ⟨z4_10 < 0 ∨ rd m 332 (Int.toNat z4_10) < 0, ?_, ?_⟩
    · skip
      refine ⟨fun hq => ?_, fun hq => ?_⟩
      · skip
        (omega)
      · skip
        refine ⟨⟨by omega, by omega⟩, ?_⟩
        refine ⟨fun hq => ?_, fun hq => ?_⟩
        · skip
          refine ⟨⟨by omega, by omega⟩, ?_⟩
          refine CK.mono (my_248   T_m r_x1 r_z4_10 (by unfold rg; decide) (by omega) (by omega) (by omega)) (by decide) ?_
          rintro m43 v43 r_v43 ⟨e_m43, h_m43⟩
          replace e_m43 := e_m43.symm
          subst e_m43
          try have w5 : wr ((rd m 332 (Int.toNat z4_10)) + v43) = (rd m 332 (Int.toNat z4_10)) + v43 := wr_id (by omega) (by omega)
          exact ⟨rfl, by first | (have u := h_m43; exact Or.inr ⟨by omega, by assumption, by rw [h_m43.2]⟩) | exact Or.inl ⟨rfl, hR_27⟩⟩
        · skip
          (omega)
    · intro   hR_27
      exact ⟨rfl, by first | (have u := h_m43; exact Or.inr ⟨by omega, by assumption, by rw [h_m43.2]⟩) | exact Or.inl ⟨rfl, hR_27⟩⟩
  · intro s0_47 m_47 r_s0_47 hR_47
    obtain ⟨e_m_47, hR_47⟩ := hR_47
    replace e_m_47 := e_m_47.symm
    subst e_m_47
    exact ⟨rfl, by exact ⟨by first | trivial | omega | (refine ⟨?_, ?_⟩ <;> omega), by exact fun mv mk L R l => rl_v R (by omega) l (by omega) (e_z4_10.trans (congrArg (rd m 325) (by omega))) hR_47⟩⟩
-- TippedCratesModel.richWay(II)I
set_option maxRecDepth 20000 in
theorem my_260 {m : Mm} {x1 : Int} {x2 : Int}  (T_m : Ty m) (r_x1 : rg x1) (r_x2 : rg x2) (p0 : 0 ≤ x1 ∧ x1 ≤ 2) (p1 : 0 ≤ x2 ∧ x2 ≤ 599) : CK 4 260 [.ref 284, iv x1, iv x2] m (fun m2 v => m2 = m ∧ ((v = -2 ∨ (0 ≤ v ∧ v ≤ 3)) ∧ (∀ mv mk L, RLw m mv mk L x1 → x2 < L → v = ryF mv mk (fun t => rd m 332 (Int.toNat t)) x2 4))) := by
  refine br_260 r_x1 r_x2 ?_
  unfold P_260
  refine ⟨fun x3_9 x4_9 x5_9 m_9 => m_9 = m ∧ (((0 ≤ x5_9 ∧ x5_9 ≤ 4) ∧ (x3_9 = -2 ∨ (0 ≤ x3_9 ∧ x3_9 ≤ 3))) ∧ (∀ mv mk L, RLw m mv mk L x1 → x2 < L → x3_9 = ryF mv mk (fun t => rd m 332 (Int.toNat t)) x2 (Int.toNat x5_9) ∧ x4_9 = rxF mv mk (fun t => rd m 332 (Int.toNat t)) x2 (Int.toNat x5_9))), fun x3_9 x4_9 x5_9 m_9 => Int.toNat (4 - x5_9), ?_, ?_⟩
  · exact ⟨rfl, by exact ⟨by first | omega | (refine ⟨?_, ?_⟩ <;> omega) | trivial, by exact fun mv mk L R l => ⟨rfl, rfl⟩⟩⟩
  · intro x3_9 x4_9 x5_9 m_9 r_x3_9 r_x4_9 r_x5_9 hI_9
    obtain ⟨e_m_9, hI_9⟩ := hI_9
    replace e_m_9 := e_m_9.symm
    subst e_m_9
    obtain ⟨hI_9, dI_9⟩ := hI_9
    refine ⟨fun hq => ?_, fun hq => ?_⟩
    · skip
      exact ⟨rfl, by exact ⟨by first | trivial | omega | (refine ⟨?_, ?_⟩ <;> omega), by exact fun mv mk L R l => (dI_9 mv mk L R l).1.trans (congrArg (ryF mv mk (fun t => rd m 332 (Int.toNat t)) x2) (by omega))⟩⟩
    · skip
      refine CK.mono (my_259   T_m r_x1 r_x2 r_x5_9 (by omega) (by omega) (by omega)) (by decide) ?_
      rintro m20 v20 r_v20 ⟨e_m20, h_m20⟩
      replace e_m20 := e_m20.symm
      subst e_m20
      refine ⟨fun y3_44 y4_44 m_44 => m_44 = m ∧ (((y3_44 = -2 ∨ (0 ≤ y3_44 ∧ y3_44 ≤ 3))) ∧ (∀ mv mk L, RLw m mv mk L x1 → x2 < L → (x4_9 < rwV mv mk (fun t => rd m 332 (Int.toNat t)) x2 x5_9 ∧ y3_44 = x5_9 ∧ y4_44 = rwV mv mk (fun t => rd m 332 (Int.toNat t)) x2 x5_9) ∨ (¬ x4_9 < rwV mv mk (fun t => rd m 332 (Int.toNat t)) x2 x5_9 ∧ y3_44 = x3_9 ∧ y4_44 = x4_9))), ?_, ?_⟩
      · skip
        refine ⟨fun hq => ?_, fun hq => ?_⟩
        · skip
          refine CK.mono (my_259   T_m r_x1 r_x2 r_x5_9 (by omega) (by omega) (by omega)) (by decide) ?_
          rintro m39 v39 r_v39 ⟨e_m39, h_m39⟩
          replace e_m39 := e_m39.symm
          subst e_m39
          exact ⟨rfl, by exact ⟨by first | trivial | omega | (refine ⟨?_, ?_⟩ <;> omega), by first | (have u := h_m39; exact fun mv mk L R l => by rw [← h_m20.2 mv mk L R l]; exact Or.inl ⟨by assumption, rfl, (h_m39.2 mv mk L R l).trans (h_m20.2 mv mk L R l).symm⟩) | exact fun mv mk L R l => by rw [← h_m20.2 mv mk L R l]; exact Or.inr ⟨by assumption, rfl, rfl⟩⟩⟩
        · skip
          exact ⟨rfl, by exact ⟨by first | trivial | omega | (refine ⟨?_, ?_⟩ <;> omega), by first | (have u := h_m39; exact fun mv mk L R l => by rw [← h_m20.2 mv mk L R l]; exact Or.inl ⟨by assumption, rfl, (h_m39.2 mv mk L R l).trans (h_m20.2 mv mk L R l).symm⟩) | exact fun mv mk L R l => by rw [← h_m20.2 mv mk L R l]; exact Or.inr ⟨by assumption, rfl, rfl⟩⟩⟩
      · intro y3_44 y4_44 m_44 r_y3_44 r_y4_44 hR_44
        obtain ⟨e_m_44, hR_44⟩ := hR_44
        replace e_m_44 := e_m_44.symm
        subst e_m_44
        obtain ⟨hR_44, dR_44⟩ := hR_44
        try have w1 : wr (x5_9 + 1) = x5_9 + 1 := wr_id (by omega) (by omega)
        intro z5_44 e_z5_44
        have r_z5_44 : rg z5_44 := by rw [e_z5_44]; exact wr_rg _
        exact ⟨⟨rfl, by exact ⟨by first | omega | (refine ⟨?_, ?_⟩ <;> omega) | trivial, by exact fun mv mk L R l => ry_s (dI_9 mv mk L R l) (dR_44 mv mk L R l) (by omega)⟩⟩, by (try dsimp only); omega⟩
