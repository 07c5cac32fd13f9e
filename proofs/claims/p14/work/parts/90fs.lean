theorem it_e {p : Prop} [Decidable p] {v a b : Int} (h : (p ∧ v = a) ∨ (¬ p ∧ v = b)) : v = if p then a else b := by
  rcases h with ⟨q, e⟩ | ⟨q, e⟩
  · rw [if_pos q]; exact e
  · rw [if_neg q]; exact e
/-- the first behind the start on its flag -/
def rtC (W : Wk) (st v : Int) : Prop := (v = -2 ∧ ∀ i : Nat, 1 ≤ i → (i : Int) < W 0 0 → ¬ W 1 i / 24 = st / 24) ∨ ∃ i : Nat, (1 ≤ i ∧ (i : Int) < W 0 0) ∧ W 1 i / 24 = st / 24 ∧ v = W 2 (Int.toNat (W 1 i)) ∧ ∀ j : Nat, 1 ≤ j → j < i → ¬ W 1 j / 24 = st / 24
theorem rc_s {m : Mm} {W : Wk} {x z q : Int} (h : wkR m 39 0 40 41 W) (d : ∀ i : Nat, 1 ≤ i → (i : Int) < x → ¬ W 1 i / 24 = q) (hx : (1 ≤ x ∧ x < rd m 39 0) ∧ z = x + 1) (n : ¬ rd m 40 (Int.toNat x) / 24 = q) : ∀ i : Nat, 1 ≤ i → (i : Int) < z → ¬ W 1 i / 24 = q := fun i i1 hi w => by
  by_cases c : (i : Int) < x
  · exact d i i1 c w
  · have e := h.2.1 (Int.toNat x) (by rw [← h.1]; omega)
    rw [show i = Int.toNat x by omega, ← e] at w
    exact n w
theorem rc_y {m : Mm} {W : Wk} {x st : Int} (h : wkR m 39 0 40 41 W) (d : ∀ i : Nat, 1 ≤ i → (i : Int) < x → ¬ W 1 i / 24 = st / 24) (hx : 1 ≤ x ∧ x < rd m 39 0) (b : 0 ≤ rd m 40 (Int.toNat x) ∧ rd m 40 (Int.toNat x) < 600) (y : rd m 40 (Int.toNat x) / 24 = st / 24) : rtC W st (rd m 41 (Int.toNat (rd m 40 (Int.toNat x)))) := by
  have e := h.2.1 (Int.toNat x) (by rw [← h.1]; omega)
  have e2 := h.2.2 (Int.toNat (rd m 40 (Int.toNat x))) (by omega)
  refine Or.inr ⟨Int.toNat x, ⟨by omega, by rw [← h.1]; omega⟩, by rw [← e]; exact y, by rw [e2, e], fun j j1 hj => d j j1 (by omega)⟩
/-- the nearest other standing on the start's flag -/
def rtP (N : Int) (W : Wk) (st v : Int) : Prop := (v = -2 ∧ ∀ s : Int, 0 ≤ s → s < N → s / 24 = st / 24 → ¬ s = st → ¬ 0 ≤ W 2 (Int.toNat s)) ∨ ∃ s : Int, (0 ≤ s ∧ s < N) ∧ s / 24 = st / 24 ∧ ¬ s = st ∧ 0 ≤ W 2 (Int.toNat s) ∧ v = W 2 (Int.toNat s) ∧ ∀ t : Int, 0 ≤ t → t < N → t / 24 = st / 24 → ¬ t = st → 0 ≤ W 2 (Int.toNat t) → v ≤ W 2 (Int.toNat t)
theorem rtP_u {N : Int} {W : Wk} {st v w : Int} (h : rtP N W st v) (k : rtP N W st w) : v = w := by
  rcases h with ⟨h1, h2⟩ | ⟨s, s1, s2, s3, s4, s5, s6⟩ <;> rcases k with ⟨k1, k2⟩ | ⟨t, t1, t2, t3, t4, t5, t6⟩
  · exact h1.trans k1.symm
  · exact absurd t4 (h2 t t1.1 t1.2 t2 t3)
  · exact absurd s4 (k2 s s1.1 s1.2 s2 s3)
  · have p := s6 t t1.1 t1.2 t2 t3 t4
    have q := t6 s s1.1 s1.2 s2 s3 s4
    omega
theorem rt_e {N : Int} {W : Wk} {st v : Int} (o : okWk N W) (kV : okV W) (kM : okM W) (kO : okO W) (e1 : W 1 0 = st) (e2 : W 2 (Int.toNat st) = 0) (h : rtC W st v) : rtP N W st v := by
  have ne : ∀ i : Nat, 1 ≤ i → (i : Int) < W 0 0 → ¬ W 1 i = st := fun i i1 hi w => by
    have q := kO.2 i i1 hi
    rw [w, e2] at q
    omega
  have fi : ∀ t : Int, 0 ≤ t → t < N → ¬ t = st → 0 ≤ W 2 (Int.toNat t) → ∃ i : Nat, (1 ≤ i ∧ (i : Int) < W 0 0) ∧ W 1 i = t := fun t t0 t1 nt ht => by
    obtain ⟨i, i1, i2⟩ := ord_V o kV ⟨t0, t1⟩ ht
    refine ⟨i, ⟨?_, i1⟩, i2⟩
    apply Nat.one_le_iff_ne_zero.mpr
    intro z
    rw [z, e1] at i2
    exact nt i2.symm
  rcases h with ⟨h1, h2⟩ | ⟨i, i1, i2, i3, i4⟩
  · refine Or.inl ⟨h1, fun s s0 s1 s2 s3 s4 => ?_⟩
    obtain ⟨i, i1, i2⟩ := fi s s0 s1 s3 s4
    exact h2 i i1.1 i1.2 (by rw [i2]; exact s2)
  · have b := o.2.1 i i1.2
    refine Or.inr ⟨W 1 i, b, i2, ne i i1.1 i1.2, o.2.2.2 i i1.2, i3, fun t t0 t1 t2 t3 t4 => ?_⟩
    obtain ⟨j, j1, j2⟩ := fi t t0 t1 t3 t4
    have l : i ≤ j := by
      apply Nat.le_of_not_lt
      intro w
      exact i4 j j1.1 w (by rw [j2]; exact t2)
    have mo := kM i j l j1.2
    rw [j2] at mo
    omega
def rouA (A : Ab) (T : Nat → Int) (x1 x2 v : Int) : Prop := (¬ ((0 ≤ x1 ∧ x1 < A.Y 3) ∧ 0 ≤ x2 ∧ x2 ≤ 1) ∧ v = -1) ∨ (((0 ≤ x1 ∧ x1 < A.Y 3) ∧ 0 ≤ x2 ∧ x2 ≤ 1) ∧ ((x2 = 0 ∧ v = if WA A T x1 0 0 ≤ 1 then -2 else 2) ∨ (¬ x2 = 0 ∧ rtP (24 * (A.Y 0 * A.Y 1)) (WA A T x1) (24 * fC A.r x1) v)))
theorem rouA_u {A : Ab} {T : Nat → Int} {x1 x2 v w : Int} (h : rouA A T x1 x2 v) (k : rouA A T x1 x2 w) : v = w := by
  rcases h with ⟨a, b⟩ | ⟨a, b⟩ <;> rcases k with ⟨c, d⟩ | ⟨c, d⟩
  · exact b.trans d.symm
  · exact absurd c a
  · exact absurd a c
  · rcases b with ⟨b1, b2⟩ | ⟨b1, b2⟩ <;> rcases d with ⟨d1, d2⟩ | ⟨d1, d2⟩
    · exact b2.trans d2.symm
    · exact absurd b1 d1
    · exact absurd d1 b1
    · exact rtP_u b2 d2
theorem rt_W {A : Ab} {T : Nat → Int} {c v : Int} (oY : okY A.Y) (hT : ∀ j, j < 96 → 0 ≤ T j ∧ T j ≤ 23) (own : 0 ≤ fC A.r c ∧ fC A.r c < A.Y 0 * A.Y 1) (o : okWk (24 * (A.Y 0 * A.Y 1)) (WA A T c)) (h : rtC (WA A T c) (24 * fC A.r c) v) : rtP (24 * (A.Y 0 * A.Y 1)) (WA A T c) (24 * fC A.r c) v := by
  have clo := mv_clo (r := A.r) (T := T) (c := c) oY hT
  have M := WA_M (A := A) (T := T) (c := c) oY hT own
  exact rt_e o M.1 M.2 (FIN_O clo ⟨by omega, by omega⟩) FIN_1.1 FIN_1.2.2 h
theorem rou_C {m m35 : Mm} {A : Ab} {T F : Nat → Int} {c x2 v : Int} (h : cA m A) (wl : wlP m35 A T F c) (tm : Ty m) (tb : tbR m 32 33 F T) (hc : 0 ≤ c ∧ c < A.Y 3) (h2 : 0 ≤ x2 ∧ x2 ≤ 1) (q : (x2 = 0 ∧ v = if rd m35 39 0 ≤ 1 then -2 else 2) ∨ (¬ x2 = 0 ∧ ∀ N W, wkR m35 39 0 40 41 W → okWk N W → rtC W (rd m35 36 1) v)) : rouA A T c x2 v := by
  refine Or.inr ⟨⟨hc, h2⟩, ?_⟩
  rcases q with ⟨q1, q2⟩ | ⟨q1, q2⟩
  · rw [wl.2.1.1] at q2
    exact Or.inl ⟨q1, q2⟩
  · have k := q2 _ _ wl.2.1 wl.1
    rw [wl.2.2.2.1] at k
    exact Or.inr ⟨q1, rt_W h.2.1 (fun j hj => by rw [← tb.2 j hj]; exact ty_33 tm j) (h.2.2.1.1 c hc.1 hc.2) wl.1 k⟩
theorem rou_n {m : Mm} {A : Ab} {T : Nat → Int} {x1 x2 : Int} (h : cA m A) (n : ¬ (0 ≤ x1 ∧ x1 ≤ rd m 7 3 - 1) ∨ ¬ (0 ≤ x2 ∧ x2 ≤ 1)) : rouA A T x1 x2 (-1) := by
  rw [h.1.1.2.2.2.1] at n
  exact Or.inl ⟨by omega, rfl⟩
-- TippedCrates$Walks.roundAsNow()I
set_option maxRecDepth 20000 in
theorem fy_111 {m : Mm}   (T_m : Ty m)   : CK 1 111 [.ref 39] m (fun m2 v => m2 = m ∧ ((True) ∧ (v = if rd m 39 0 ≤ 1 then -2 else 2))) := by
  refine br_111  ?_
  unfold P_111
  have t1 := ty_39_0 T_m
  refine ⟨fun s0_14 => (rd m 39 0 ≤ 1 ∧ s0_14 = -2) ∨ (¬ rd m 39 0 ≤ 1 ∧ s0_14 = 2), ?_, ?_⟩
  · skip
    refine ⟨fun hq => ?_, fun hq => ?_⟩
    · skip
      (omega)
    · skip
      (omega)
  · intro s0_14 r_s0_14 hR_14
    exact ⟨rfl, by exact ⟨by first | trivial | omega | (refine ⟨?_, ?_⟩ <;> omega), by exact it_e hR_14⟩⟩
-- TippedCrates$Walks.roundTurned()I
set_option maxRecDepth 20000 in
theorem fy_112 {m : Mm}   (T_m : Ty m)   : CK 1 112 [.ref 39] m (fun m2 v => m2 = m ∧ ((True) ∧ (∀ N W, wkR m 39 0 40 41 W → okWk N W → rtC W (rd m 36 1) v))) := by
  refine br_112  ?_
  unfold P_112
  refine ⟨fun x1_2 => (1 ≤ x1_2 ∧ x1_2 ≤ 600) ∧ (∀ W, wkR m 39 0 40 41 W → ∀ i : Nat, 1 ≤ i → (i : Int) < x1_2 → ¬ W 1 i / 24 = rd m 36 1 / 24), fun x1_2 => Int.toNat (600 - x1_2), ?_, ?_⟩
  · (exact ⟨by first | omega | (refine ⟨?_, ?_⟩ <;> omega) | trivial, by exact fun W h i i1 hi => by omega⟩)
  · intro x1_2 r_x1_2 hI_2
    obtain ⟨hI_2, dI_2⟩ := hI_2
    have t1 := ty_39_0 T_m
    refine ⟨fun hq => ?_, fun hq => ?_⟩
    · skip
      exact ⟨rfl, by exact ⟨by first | trivial | omega | (refine ⟨?_, ?_⟩ <;> omega), by first | (have u := dI_2; exact fun N W h o => rc_y h (dI_2 W h) (by omega) (by omega) (by omega)) | exact fun N W h o => Or.inl ⟨rfl, fun i i1 hi => dI_2 W h i i1 (by rw [← h.1] at hi; omega)⟩⟩⟩
    · skip
      refine ⟨⟨by omega, by omega⟩, ?_⟩
      have t2 := ty_40 T_m (Int.toNat x1_2)
      try have q3 : dvI (rd m 40 (Int.toNat x1_2)) 24 = (rd m 40 (Int.toNat x1_2)) / 24 := dv_eq (by omega) (by omega) (by omega) (by omega)
      have t4 := ty_36_1 T_m
      try have q5 : dvI (rd m 36 1) 24 = (rd m 36 1) / 24 := dv_eq (by omega) (by omega) (by omega) (by omega)
      refine ⟨fun hq => ?_, fun hq => ?_⟩
      · skip
        try have w6 : wr (x1_2 + 1) = x1_2 + 1 := wr_id (by omega) (by omega)
        intro z1_44 e_z1_44
        have r_z1_44 : rg z1_44 := by rw [e_z1_44]; exact wr_rg _
        exact ⟨by exact ⟨by first | omega | (refine ⟨?_, ?_⟩ <;> omega) | trivial, by exact fun W h => rc_s h (dI_2 W h) (by omega) (by omega)⟩, by (try dsimp only); omega⟩
      · skip
        refine ⟨⟨by omega, by omega⟩, ?_⟩
        refine ⟨⟨by omega, by omega⟩, ?_⟩
        exact ⟨rfl, by exact ⟨by first | trivial | omega | (refine ⟨?_, ?_⟩ <;> omega), by first | (have u := dI_2; exact fun N W h o => rc_y h (dI_2 W h) (by omega) (by omega) (by omega)) | exact fun N W h o => Or.inl ⟨rfl, fun i i1 hi => dI_2 W h i i1 (by rw [← h.1] at hi; omega)⟩⟩⟩
-- TippedCrates.round(II)I
set_option maxRecDepth 20000 in
theorem fy_138 {m0 m : Mm} {x1 : Int} {x2 : Int}  (g_m : G m0 m) (r_x1 : rg x1) (r_x2 : rg x2) (p0 : okS m 274) : CK 3 138 [.ref 0, iv x1, iv x2] m (fun m2 v => G m0 m2 ∧ ((True) ∧ (∀ A T F, cA m A → dsR A.Y A.r → tbR m 32 33 F T → rouA A T x1 x2 v))) := by
  refine br_138 r_x1 r_x2 ?_
  unfold P_138
  have ok := p0
  have okn := p0.1
  have t73 := ty_7_3 g_m.1
  refine CK.mono (ct_162   g_m.1 r_x1) (by decide) ?_
  rintro m2 v2 r_v2 ⟨e_m2, h_m2⟩
  replace e_m2 := e_m2.symm
  subst e_m2
  refine ⟨fun m_17 => G m0 m_17 ∧ (¬ (0 ≤ x1 ∧ x1 ≤ rd m 7 3 - 1) ∨ ¬ (0 ≤ x2 ∧ x2 ≤ 1)), ?_, ?_⟩
  · skip
    refine ⟨fun hq => ?_, fun hq => ?_⟩
    · skip
      exact ⟨g_m, by omega⟩
    · skip
      refine CK.mono (ct_166   r_x2 (by unfold rg; decide) (by unfold rg; decide)) (by decide) ?_
      rintro m11 v11 r_v11 ⟨e_m11, h_m11⟩
      replace e_m11 := e_m11.symm
      subst e_m11
      refine ⟨fun hq => ?_, fun hq => ?_⟩
      · skip
        refine CV.mono (fy_70   g_m st_274 r_x1 (by omega) (ok.2.1 _ (by omega)) (fun k hk => ok.2.2 _ (by omega))) (by decide) ?_
        rintro m28 ⟨g_m28, h_m28⟩
        refine CV.mono (fy_105   g_m28) (by decide) ?_
        rintro m35 ⟨g_m35, h_m35⟩
        refine ⟨fun s0_59 m_59 => G m0 m_59 ∧ ((x2 = 0 ∧ s0_59 = if rd m35 39 0 ≤ 1 then -2 else 2) ∨ (¬ x2 = 0 ∧ ∀ N W, wkR m35 39 0 40 41 W → okWk N W → rtC W (rd m35 36 1) s0_59)), ?_, ?_⟩
        · skip
          refine ⟨fun hq => ?_, fun hq => ?_⟩
          · skip
            refine CK.mono (fy_112   g_m35.1) (by decide) ?_
            rintro m56 v56 r_v56 ⟨e_m56, h_m56⟩
            replace e_m56 := e_m56.symm
            subst e_m56
            exact ⟨g_m35, by first | (have u := h_m56; exact Or.inr ⟨by assumption, h_m56.2⟩) | exact Or.inl ⟨by assumption, h_m46.2⟩⟩
          · skip
            refine CK.mono (fy_111   g_m35.1) (by decide) ?_
            rintro m46 v46 r_v46 ⟨e_m46, h_m46⟩
            replace e_m46 := e_m46.symm
            subst e_m46
            exact ⟨g_m35, by first | (have u := h_m56; exact Or.inr ⟨by assumption, h_m56.2⟩) | exact Or.inl ⟨by assumption, h_m46.2⟩⟩
        · intro s0_59 m_59 r_s0_59 hR_59
          obtain ⟨g_m_59, hR_59⟩ := hR_59
          exact ⟨g_m_59, by exact ⟨by first | trivial | omega | (refine ⟨?_, ?_⟩ <;> omega), by first | (have u := hR_59; exact fun A T F h ds tb => rou_C h (wl_C h ds (te_Cx h (by omega)) tb g_m g_m28 h_m28.2 g_m35 h_m35.2) g_m.1 tb (te_Cx h (by omega)) (by omega) hR_59) | exact fun A T F h ds tb => rou_n h hR_17⟩⟩
      · skip
        exact ⟨g_m, by omega⟩
  · intro m_17  hR_17
    obtain ⟨g_m_17, hR_17⟩ := hR_17
    exact ⟨g_m_17, by exact ⟨by first | trivial | omega | (refine ⟨?_, ?_⟩ <;> omega), by first | (have u := hR_59; exact fun A T F h ds tb => rou_C h (wl_C h ds (te_Cx h (by omega)) tb g_m g_m28 h_m28.2 g_m35 h_m35.2) g_m.1 tb (te_Cx h (by omega)) (by omega) hR_59) | exact fun A T F h ds tb => rou_n h hR_17⟩⟩
