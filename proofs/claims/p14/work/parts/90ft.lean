/-- the nearest other one on the flag, up to x -/
def rtI (W : Wk) (st a x : Int) : Prop := (a = -2 ∧ ∀ s : Int, st < s → s < x → ¬ 0 ≤ W 2 (Int.toNat s)) ∨ ∃ s : Int, (st < s ∧ s < x) ∧ 0 ≤ W 2 (Int.toNat s) ∧ a = W 2 (Int.toNat s) ∧ ∀ t : Int, st < t → t < x → 0 ≤ W 2 (Int.toNat t) → a ≤ W 2 (Int.toNat t)
theorem ri_s {m : Mm} {W : Wk} {st a x y z : Int} (h : wkR m 284 67 329 326 W) (d : rtI W st a x) (hx : (0 ≤ x ∧ x < 600) ∧ st < x ∧ z = x + 1) (r : (0 ≤ rd m 326 (Int.toNat x) ∧ (a < 0 ∨ rd m 326 (Int.toNat x) < a) ∧ y = rd m 326 (Int.toNat x)) ∨ ((rd m 326 (Int.toNat x) < 0 ∨ (¬ a < 0 ∧ a ≤ rd m 326 (Int.toNat x))) ∧ y = a)) : rtI W st y z := by
  have e := h.2.2 (Int.toNat x) (by omega)
  rw [e] at r
  have last : ∀ t : Int, t < z → ¬ t < x → t = x := fun t h1 h2 => by omega
  rcases r with ⟨r0, r1, r2⟩ | ⟨r1, r2⟩
  · refine Or.inr ⟨x, by omega, r0, r2, fun t t0 t1 t2 => ?_⟩
    by_cases q : t < x
    · rcases d with ⟨d1, d2⟩ | ⟨s, s1, s2, s3, s4⟩
      · exact absurd t2 (d2 t t0 q)
      · have p := s4 t t0 q t2
        omega
    · rw [last t t1 q]; omega
  · rcases d with ⟨d1, d2⟩ | ⟨s, s1, s2, s3, s4⟩
    · refine Or.inl ⟨by omega, fun t t0 t1 t2 => ?_⟩
      by_cases q : t < x
      · exact d2 t t0 q t2
      · rw [last t t1 q] at t2; omega
    · refine Or.inr ⟨s, by omega, s2, by omega, fun t t0 t1 t2 => ?_⟩
      by_cases q : t < x
      · have p := s4 t t0 q t2
        omega
      · rw [last t t1 q] at t2 ⊢; omega
/-- the fewest back to the start, up to x -/
def baI (W : Wk) (mv : Int → Int → Int) (st a x : Int) : Prop := (a = -2 ∧ ∀ (i : Nat) (k : Int), 4 * (i : Int) + k < x → 0 ≤ k → k ≤ 3 → ¬ mv (W 1 i) k = st) ∨ ∃ (i : Nat) (k : Int), 4 * (i : Int) + k < x ∧ (0 ≤ k ∧ k ≤ 3) ∧ mv (W 1 i) k = st ∧ a = W 2 (Int.toNat (W 1 i)) + 1 ∧ ∀ (j : Nat) (l : Int), 4 * (j : Int) + l < x → 0 ≤ l → l ≤ 3 → mv (W 1 j) l = st → a ≤ W 2 (Int.toNat (W 1 j)) + 1
theorem bi_s {m : Mm} {mv : Int → Int → Int} {st N a x y z z3 : Int} {W : Wk} (ag : agL m mv N) (o : okWk N W) (h : wkR m 284 67 329 326 W) (e1 : W 1 0 = st) (l : 1 ≤ W 0 0) (d : baI W mv st a x) (hx : (0 ≤ x ∧ x < 4 * rd m 284 67) ∧ z = x + 1) (e3 : z3 = rd m 329 (Int.toNat (x / 4))) (b3 : 0 ≤ z3 ∧ z3 < 600) (r : (rd m 325 (Int.toNat (4 * z3 + x % 4)) = rd m 329 0 ∧ (a < 0 ∨ wr (rd m 326 (Int.toNat z3) + 1) < a) ∧ y = wr (rd m 326 (Int.toNat z3) + 1)) ∨ ((¬ rd m 325 (Int.toNat (4 * z3 + x % 4)) = rd m 329 0 ∨ (¬ a < 0 ∧ a ≤ wr (rd m 326 (Int.toNat z3) + 1))) ∧ y = a)) : baI W mv st y z := by
  have li : ((Int.toNat (x / 4) : Nat) : Int) < W 0 0 := by rw [← h.1]; omega
  have ez : z3 = W 1 (Int.toNat (x / 4)) := e3.trans (h.2.1 _ li)
  have bN := o.2.1 _ li
  rw [← ez] at bN
  have es : rd m 329 0 = st := by
    have q := h.2.1 0 (by show ((0 : Nat) : Int) < W 0 0; omega)
    rw [q]; exact e1
  have e6 := h.2.2 (Int.toNat z3) (by omega)
  have b2 := o.2.2.1 (Int.toNat z3)
  have n6 := o.1
  rw [ag z3 (x % 4) bN.1 bN.2 (by omega) (by omega), es, e6, wr_id (x := W 2 (Int.toNat z3) + 1) (by omega) (by omega)] at r
  have v := o.2.2.2 _ li
  rw [← ez] at v
  have last : ∀ (i : Nat) (k : Int), 0 ≤ k → k ≤ 3 → 4 * (i : Int) + k < z → ¬ 4 * (i : Int) + k < x → W 1 i = z3 ∧ k = x % 4 := fun i k k0 k1 h1 h2 => by
    have ei : i = Int.toNat (x / 4) := by omega
    exact ⟨by rw [ei]; exact ez.symm, by omega⟩
  rcases r with ⟨r0, r1, r2⟩ | ⟨r1, r2⟩
  · refine Or.inr ⟨Int.toNat (x / 4), x % 4, by omega, by omega, by rw [← ez]; exact r0, by rw [← ez]; exact r2, fun j k j0 k0 k1 e => ?_⟩
    by_cases q : 4 * (j : Int) + k < x
    · rcases d with ⟨d1, d2⟩ | ⟨i, k2, i1, i2, i3, i4, i5⟩
      · exact absurd e (d2 j k q k0 k1)
      · have p := i5 j k q k0 k1 e
        have w := o.2.2.1 (Int.toNat (W 1 i))
        have w2 := o.2.2.2 i (by rw [← h.1]; omega)
        omega
    · rw [(last j k k0 k1 j0 q).1]; omega
  · rcases d with ⟨d1, d2⟩ | ⟨i, k2, i1, i2, i3, i4, i5⟩
    · refine Or.inl ⟨by omega, fun j k j0 k0 k1 e => ?_⟩
      by_cases q : 4 * (j : Int) + k < x
      · exact d2 j k q k0 k1 e
      · have w := last j k k0 k1 j0 q
        rw [w.1, w.2] at e
        rcases r1 with r1 | r1
        · exact r1 e
        · omega
    · refine Or.inr ⟨i, k2, by omega, i2, i3, by omega, fun j k j0 k0 k1 e => ?_⟩
      by_cases q : 4 * (j : Int) + k < x
      · have p := i5 j k q k0 k1 e
        omega
      · have w := last j k k0 k1 j0 q
        rw [w.1, w.2] at e
        rw [w.1]
        rcases r1 with r1 | r1
        · exact absurd e r1
        · omega
theorem bi_e {m : Mm} {mv : Int → Int → Int} {st a x : Int} {W : Wk} (h : wkR m 284 67 329 326 W) (d : baI W mv st a x) (hx : x = 4 * rd m 284 67) : baP W mv st a := by
  rw [h.1] at hx
  rcases d with ⟨d1, d2⟩ | ⟨i, k, i1, i2, i3, i4, i5⟩
  · exact Or.inl ⟨d1, fun i k hi k0 k1 => d2 i k (by omega) k0 k1⟩
  · exact Or.inr ⟨i, k, by omega, i2, i3, i4, fun j l hj l0 l1 e => i5 j l (by omega) l0 l1 e⟩
theorem wm_B {m m2 : Mm} {A : Ab} {T F : Nat → Int} {c : Int} (h : mA m A) (oY : okY A.Y) (oR : okR A.Y A.r) (l : 0 ≤ rd m 284 18 ∧ rd m 284 18 ≤ 1) (tb : tbR m 319 320 F T) (p : ∃ ml, fsP m ml c ∧ f29 ml m2 ∧ wlF ml m2 c) : agL m2 (mvN A.Y A.r T c) (24 * (A.Y 0 * A.Y 1)) := by
  obtain ⟨ml, p1, p2, -⟩ := p
  have ag := (fs_A h oY oR l p1 tb.2).2.1
  exact fun s k s0 s1 k0 k1 => (p2 325 _ (by omega) (by omega)).trans (ag s k s0 s1 k0 k1)
theorem rou_M {m m21 m40 : Mm} {A : Ab} {T F : Nat → Int} {c x2 v : Int} (oY : okY A.Y) (oR : okR A.Y A.r) (ds : dsR A.Y A.r) (z : zS A.Y A.r) (ti : tI T) (w : wmP m21 A T F c) (ag : agL m21 (mvN A.Y A.r T c) (24 * (A.Y 0 * A.Y 1))) (tm : Ty m) (tb : tbR m 319 320 F T) (hc : 0 ≤ c ∧ c < A.Y 3) (h2 : 0 ≤ x2 ∧ x2 ≤ 1) (e : m40 = m21) (q : (x2 = 0 ∧ ∀ mv st N W, agL m21 mv N → okWk N W → wkR m21 284 67 329 326 W → W 1 0 = st → 1 ≤ W 0 0 → baP W mv st v) ∨ (¬ x2 = 0 ∧ ∀ W, wkR m21 284 67 329 326 W → rtI W (24 * rd m21 323 (Int.toNat (wr (43 + c)))) v (24 * rd m21 323 (Int.toNat (wr (43 + c))) + 24))) : rouA A T c x2 v ∧ mA m40 A := by
  subst e
  have hT : ∀ j, j < 96 → 0 ≤ T j ∧ T j ≤ 23 := fun j hj => by rw [← tb.2 j hj]; exact ty_320 tm j
  refine ⟨Or.inr ⟨⟨hc, h2⟩, ?_⟩, w.2.2.2.1⟩
  rcases q with ⟨q1, q2⟩ | ⟨q1, q2⟩
  · have b := q2 _ _ _ _ ag w.1 w.2.1 FIN_1.1 FIN_1.2.1
    exact Or.inl ⟨q1, ba_2 oY hT ti oR ds z hc (WA A T c) rfl b⟩
  · have y3 := oY.2.2
    have own := oR c hc.1 hc.2
    have e3 : rd m40 323 (Int.toNat (wr (43 + c))) = fC A.r c := by
      rw [wr_id (x := 43 + c) (by omega) (by omega)]
      exact w.2.2.1.2.1 _ (by omega)
    have k := q2 _ w.2.1
    rw [e3] at k
    refine Or.inr ⟨q1, ?_⟩
    rcases k with ⟨k1, k2⟩ | ⟨s, s1, s2, s3, s4⟩
    · exact Or.inl ⟨k1, fun s s0 s1 s2 s3 => k2 s (by omega) (by omega)⟩
    · exact Or.inr ⟨s, by omega, by omega, by omega, s2, s3, fun t t0 t1 t2 t3 t4 => s4 t (by omega) (by omega) t4⟩
theorem rou_Mn {m m17 : Mm} {A : Ab} {T : Nat → Int} {x1 x2 : Int} (h : mA m A) (e : m17 = m) (n : ¬ (0 ≤ x1 ∧ x1 < rd m 302 (Int.toNat (rd m 284 18))) ∨ ¬ (0 ≤ x2 ∧ x2 ≤ 1)) : rouA A T x1 x2 (-1) ∧ mA m17 A := by
  subst e
  rw [h.1.1.2.2.2.1] at n
  exact ⟨Or.inl ⟨by omega, rfl⟩, h⟩
-- TippedCratesModel.turnedRound(I)I
set_option maxRecDepth 20000 in
theorem my_255 {m : Mm} {x1 : Int}  (T_m : Ty m) (r_x1 : rg x1) (p0 : 0 ≤ x1 ∧ x1 ≤ 2) : CK 1 255 [.ref 284, iv x1] m (fun m2 v => m2 = m ∧ ((True) ∧ (∀ W, wkR m 284 67 329 326 W → rtI W (24 * rd m 323 (Int.toNat (wr (43 + x1)))) v (24 * rd m 323 (Int.toNat (wr (43 + x1))) + 24)))) := by
  refine br_255 r_x1 ?_
  unfold P_255
  try have w1 : wr (43 + x1) = 43 + x1 := wr_id (by omega) (by omega)
  refine ⟨⟨by omega, by omega⟩, ?_⟩
  have t2 := tr_323 T_m (Int.toNat (wr (43 + x1)))
  intro z2_9 e_z2_9
  have r_z2_9 : rg z2_9 := by rw [e_z2_9]; exact (rd_rg _ _ _)
  try have w3 : wr (24 * z2_9) = 24 * z2_9 := wr_id (by omega) (by omega)
  try have w4 : wr ((wr (24 * z2_9)) + 1) = (wr (24 * z2_9)) + 1 := wr_id (by omega) (by omega)
  intro z4_19 e_z4_19
  have r_z4_19 : rg z4_19 := by rw [e_z4_19]; exact (wr_rg _)
  refine ⟨fun x3_21 x4_21 => (0 ≤ x4_21 ∧ x4_21 ≤ 600 ∧ x4_21 ≤ 24 * z2_9 + 24) ∧ (24 * z2_9 < x4_21 ∧ ∀ W, wkR m 284 67 329 326 W → rtI W (24 * z2_9) x3_21 x4_21), fun x3_21 x4_21 => Int.toNat (600 - x4_21), ?_, ?_⟩
  · (exact ⟨by first | omega | (refine ⟨?_, ?_⟩ <;> omega) | trivial, by exact ⟨by omega, fun W h => Or.inl ⟨rfl, fun s h0 h1 => by omega⟩⟩⟩)
  · intro x3_21 x4_21 r_x3_21 r_x4_21 hI_21
    obtain ⟨hI_21, dI_21⟩ := hI_21
    try have w5 : wr ((wr (24 * z2_9)) + 24) = (wr (24 * z2_9)) + 24 := wr_id (by omega) (by omega)
    refine ⟨fun hq => ?_, fun hq => ?_⟩
    · skip
      exact ⟨rfl, by exact ⟨by first | trivial | omega | (refine ⟨?_, ?_⟩ <;> omega), by exact fun W h => by rw [← e_z2_9]; have q := dI_21.2 W h; rw [show x4_21 = 24 * z2_9 + 24 by omega] at q; exact q⟩⟩
    · skip
      refine ⟨⟨by omega, by omega⟩, ?_⟩
      refine ⟨fun y3_66 => (0 ≤ rd m 326 (Int.toNat x4_21) ∧ (x3_21 < 0 ∨ rd m 326 (Int.toNat x4_21) < x3_21) ∧ y3_66 = rd m 326 (Int.toNat x4_21)) ∨ ((rd m 326 (Int.toNat x4_21) < 0 ∨ (¬ x3_21 < 0 ∧ x3_21 ≤ rd m 326 (Int.toNat x4_21))) ∧ y3_66 = x3_21), ?_, ?_⟩
      · skip
        refine ⟨fun hq => ?_, fun hq => ?_⟩
        · skip
          (omega)
        · skip
          refine ⟨x3_21 < 0 ∨ rd m 326 (Int.toNat x4_21) < x3_21, ?_, ?_⟩
          · skip
            refine ⟨fun hq => ?_, fun hq => ?_⟩
            · skip
              (omega)
            · skip
              refine ⟨⟨by omega, by omega⟩, ?_⟩
              refine ⟨fun hq => ?_, fun hq => ?_⟩
              · skip
                (omega)
              · skip
                (omega)
          · intro   hR_58
            refine ⟨⟨by omega, by omega⟩, ?_⟩
            intro z3_65 e_z3_65
            have r_z3_65 : rg z3_65 := by rw [e_z3_65]; exact (rd_rg _ _ _)
            (omega)
      · intro y3_66 r_y3_66 hR_66
        try have w7 : wr (x4_21 + 1) = x4_21 + 1 := wr_id (by omega) (by omega)
        intro z4_66 e_z4_66
        have r_z4_66 : rg z4_66 := by rw [e_z4_66]; exact wr_rg _
        exact ⟨by exact ⟨by first | omega | (refine ⟨?_, ?_⟩ <;> omega) | trivial, by exact ⟨by omega, fun W h => ri_s h (dI_21.2 W h) (by omega) hR_66⟩⟩, by (try dsimp only); omega⟩
-- TippedCratesModel.backAgain()I
set_option maxRecDepth 20000 in
theorem my_256 {m : Mm}   (T_m : Ty m)   : CK 1 256 [.ref 284] m (fun m2 v => m2 = m ∧ ((True) ∧ (∀ mv st N W, agL m mv N → okWk N W → wkR m 284 67 329 326 W → W 1 0 = st → 1 ≤ W 0 0 → baP W mv st v))) := by
  refine br_256  ?_
  unfold P_256
  refine ⟨fun x1_5 x2_5 => (0 ≤ x2_5 ∧ x2_5 ≤ 2400) ∧ (x2_5 ≤ 4 * rd m 284 67 ∧ ∀ mv st N W, agL m mv N → okWk N W → wkR m 284 67 329 326 W → W 1 0 = st → 1 ≤ W 0 0 → baI W mv st x1_5 x2_5), fun x1_5 x2_5 => Int.toNat (2400 - x2_5), ?_, ?_⟩
  · (exact ⟨by first | omega | (refine ⟨?_, ?_⟩ <;> omega) | trivial, by exact ⟨by have := ty_284_67 T_m; omega, fun mv st N W _ _ _ _ _ => Or.inl ⟨rfl, fun i k h0 h1 => by omega⟩⟩⟩)
  · intro x1_5 x2_5 r_x1_5 r_x2_5 hI_5
    obtain ⟨hI_5, dI_5⟩ := hI_5
    have t1 := ty_284_67 T_m
    try have w2 : wr (4 * (rd m 284 67)) = 4 * (rd m 284 67) := wr_id (by omega) (by omega)
    refine ⟨fun hq => ?_, fun hq => ?_⟩
    · skip
      exact ⟨rfl, by exact ⟨by first | trivial | omega | (refine ⟨?_, ?_⟩ <;> omega), by exact fun mv st N W ag o h e1 l => bi_e h (dI_5.2 mv st N W ag o h e1 l) (by omega)⟩⟩
    · skip
      try have q3 : dvI x2_5 4 = x2_5 / 4 := dv_eq (by omega) (by omega) (by omega) (by omega)
      refine ⟨⟨by omega, by omega⟩, ?_⟩
      have t4 := ty_329 T_m (Int.toNat (dvI x2_5 4))
      intro z3_23 e_z3_23
      have r_z3_23 : rg z3_23 := by rw [e_z3_23]; exact (rd_rg _ _ _)
      try have w5 : wr (4 * z3_23) = 4 * z3_23 := wr_id (by omega) (by omega)
      try have q6 : rmI x2_5 4 = x2_5 % 4 := rm_eq (by omega) (by omega) (by omega) (by omega)
      try have w7 : wr ((wr (4 * z3_23)) + (rmI x2_5 4)) = (wr (4 * z3_23)) + (rmI x2_5 4) := wr_id (by omega) (by omega)
      refine ⟨⟨by omega, by omega⟩, ?_⟩
      have t8 := ty_325 T_m (Int.toNat (wr ((wr (4 * z3_23)) + (rmI x2_5 4))))
      have t9 := ty_329 T_m 0
      refine ⟨fun y1_70 => (rd m 325 (Int.toNat (4 * z3_23 + x2_5 % 4)) = rd m 329 0 ∧ (x1_5 < 0 ∨ wr ((rd m 326 (Int.toNat z3_23)) + 1) < x1_5) ∧ y1_70 = wr ((rd m 326 (Int.toNat z3_23)) + 1)) ∨ ((¬ rd m 325 (Int.toNat (4 * z3_23 + x2_5 % 4)) = rd m 329 0 ∨ (¬ x1_5 < 0 ∧ x1_5 ≤ wr ((rd m 326 (Int.toNat z3_23)) + 1))) ∧ y1_70 = x1_5), ?_, ?_⟩
      · skip
        refine ⟨fun hq => ?_, fun hq => ?_⟩
        · skip
          have e25 : rd m 325 (Int.toNat (wr ((wr (4 * z3_23)) + (rmI x2_5 4)))) = rd m 325 (Int.toNat (4 * z3_23 + x2_5 % 4)) := congrArg (rd m 325) (by omega)
          (omega)
        · skip
          refine ⟨x1_5 < 0 ∨ wr ((rd m 326 (Int.toNat z3_23)) + 1) < x1_5, ?_, ?_⟩
          · skip
            refine ⟨fun hq => ?_, fun hq => ?_⟩
            · skip
              (omega)
            · skip
              refine ⟨⟨by omega, by omega⟩, ?_⟩
              try have w11 : wr ((rd m 326 (Int.toNat z3_23)) + 1) = (rd m 326 (Int.toNat z3_23)) + 1 := wr_id (by omega) (by omega)
              refine ⟨fun hq => ?_, fun hq => ?_⟩
              · skip
                have e25 : rd m 325 (Int.toNat (wr ((wr (4 * z3_23)) + (rmI x2_5 4)))) = rd m 325 (Int.toNat (4 * z3_23 + x2_5 % 4)) := congrArg (rd m 325) (by omega)
                (omega)
              · skip
                (omega)
          · intro   hR_61
            refine ⟨⟨by omega, by omega⟩, ?_⟩
            try have w13 : wr ((rd m 326 (Int.toNat z3_23)) + 1) = (rd m 326 (Int.toNat z3_23)) + 1 := wr_id (by omega) (by omega)
            intro z1_69 e_z1_69
            have r_z1_69 : rg z1_69 := by rw [e_z1_69]; exact (wr_rg _)
            have e25 : rd m 325 (Int.toNat (wr ((wr (4 * z3_23)) + (rmI x2_5 4)))) = rd m 325 (Int.toNat (4 * z3_23 + x2_5 % 4)) := congrArg (rd m 325) (by omega)
            (omega)
      · intro y1_70 r_y1_70 hR_70
        try have w14 : wr (x2_5 + 1) = x2_5 + 1 := wr_id (by omega) (by omega)
        intro z2_70 e_z2_70
        have r_z2_70 : rg z2_70 := by rw [e_z2_70]; exact wr_rg _
        exact ⟨by exact ⟨by first | omega | (refine ⟨?_, ?_⟩ <;> omega) | trivial, by exact ⟨by omega, fun mv st N W ag o h e1 l => bi_s ag o h e1 l (dI_5.2 mv st N W ag o h e1 l) (by omega) (e_z3_23.trans (congrArg (rd m 329) (by omega))) (by omega) hR_70⟩⟩, by (try dsimp only); omega⟩
-- TippedCratesModel.round(II)I
set_option maxRecDepth 20000 in
theorem my_257 {m0 m : Mm} {x1 : Int} {x2 : Int}  (g_m : G m0 m) (r_x1 : rg x1) (r_x2 : rg x2) (p0 : MW m0) : CK 6 257 [.ref 284, iv x1, iv x2] m (fun m2 v => G m0 m2 ∧ ((True) ∧ (∀ A T F, okY A.Y → okR A.Y A.r → dsR A.Y A.r → zS A.Y A.r → tI T → mA m A → tbR m 319 320 F T → rouA A T x1 x2 v ∧ mA m2 A))) := by
  refine br_257 r_x1 r_x2 ?_
  unfold P_257
  refine CK.mono (ct_210   g_m.1 r_x1) (by decide) ?_
  rintro m2 v2 r_v2 ⟨e_m2, h_m2⟩
  replace e_m2 := e_m2.symm
  subst e_m2
  refine ⟨fun m_17 => G m0 m_17 ∧ (m_17 = m ∧ (¬ (0 ≤ x1 ∧ x1 < rd m 302 (Int.toNat (rd m 284 18))) ∨ ¬ (0 ≤ x2 ∧ x2 ≤ 1))), ?_, ?_⟩
  · skip
    refine ⟨fun hq => ?_, fun hq => ?_⟩
    · skip
      exact ⟨g_m, by exact ⟨rfl, by omega⟩⟩
    · skip
      refine CK.mono (ct_206   r_x2 (by unfold rg; decide) (by unfold rg; decide)) (by decide) ?_
      rintro m11 v11 r_v11 ⟨e_m11, h_m11⟩
      replace e_m11 := e_m11.symm
      subst e_m11
      refine ⟨fun hq => ?_, fun hq => ?_⟩
      · skip
        refine CV.mono (my_249   g_m r_x1 p0 (by omega)) (by decide) ?_
        rintro m21 ⟨g_m21, h_m21⟩
        refine ⟨fun s0_40 m_40 => G m0 m_40 ∧ (m_40 = m21 ∧ ((x2 = 0 ∧ ∀ mv st N W, agL m21 mv N → okWk N W → wkR m21 284 67 329 326 W → W 1 0 = st → 1 ≤ W 0 0 → baP W mv st s0_40) ∨ (¬ x2 = 0 ∧ ∀ W, wkR m21 284 67 329 326 W → rtI W (24 * rd m21 323 (Int.toNat (wr (43 + x1)))) s0_40 (24 * rd m21 323 (Int.toNat (wr (43 + x1))) + 24)))), ?_, ?_⟩
        · skip
          refine ⟨fun hq => ?_, fun hq => ?_⟩
          · skip
            refine CK.mono (my_255   g_m21.1 r_x1 (by omega)) (by decide) ?_
            rintro m37 v37 r_v37 ⟨e_m37, h_m37⟩
            replace e_m37 := e_m37.symm
            subst e_m37
            exact ⟨g_m21, by first | (have u := h_m37; exact ⟨rfl, Or.inr ⟨by assumption, h_m37.2⟩⟩) | exact ⟨rfl, Or.inl ⟨by assumption, h_m29.2⟩⟩⟩
          · skip
            refine CK.mono (my_256   g_m21.1) (by decide) ?_
            rintro m29 v29 r_v29 ⟨e_m29, h_m29⟩
            replace e_m29 := e_m29.symm
            subst e_m29
            exact ⟨g_m21, by first | (have u := h_m37; exact ⟨rfl, Or.inr ⟨by assumption, h_m37.2⟩⟩) | exact ⟨rfl, Or.inl ⟨by assumption, h_m29.2⟩⟩⟩
        · intro s0_40 m_40 r_s0_40 hR_40
          obtain ⟨g_m_40, hR_40⟩ := hR_40
          exact ⟨g_m_40, by exact ⟨by first | trivial | omega | (refine ⟨?_, ?_⟩ <;> omega), by first | (have u := hR_40; exact fun A T F oY oR ds z ti h tb => rou_M oY oR ds z ti (wm_A h oY oR (ty_284_18 g_m.1) (by omega) (te_x h oY (by omega)) tb g_m g_m21 h_m21.2) (wm_B h oY oR (ty_284_18 g_m.1) tb h_m21.2) g_m.1 tb (te_x h oY (by omega)) (by omega) hR_40.1 hR_40.2) | exact fun A T F oY oR ds z ti h tb => rou_Mn h hR_17.1 hR_17.2⟩⟩
      · skip
        exact ⟨g_m, by exact ⟨rfl, by omega⟩⟩
  · intro m_17  hR_17
    obtain ⟨g_m_17, hR_17⟩ := hR_17
    exact ⟨g_m_17, by exact ⟨by first | trivial | omega | (refine ⟨?_, ?_⟩ <;> omega), by first | (have u := hR_40; exact fun A T F oY oR ds z ti h tb => rou_M oY oR ds z ti (wm_A h oY oR (ty_284_18 g_m.1) (by omega) (te_x h oY (by omega)) tb g_m g_m21 h_m21.2) (wm_B h oY oR (ty_284_18 g_m.1) tb h_m21.2) g_m.1 tb (te_x h oY (by omega)) (by omega) hR_40.1 hR_40.2) | exact fun A T F oY oR ds z ti h tb => rou_Mn h hR_17.1 hR_17.2⟩⟩
