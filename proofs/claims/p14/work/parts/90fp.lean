/-- the nearest among the first x of the order -/
def nrI (W : Wk) (D : Int → Prop) (a b x : Int) : Prop := (a = -2 ∧ b = -2 ∧ ∀ i : Nat, (i : Int) < x → ¬ D (W 1 i)) ∨ ∃ i : Nat, (i : Int) < x ∧ D (W 1 i) ∧ a = W 1 i / 24 ∧ b = W 2 (Int.toNat (W 1 i)) ∧ ∀ j : Nat, (j : Int) < x → D (W 1 j) → b < W 2 (Int.toNat (W 1 j)) ∨ (b = W 2 (Int.toNat (W 1 j)) ∧ a ≤ W 1 j / 24)
theorem nr_s {m : Mm} {N : Int} {W : Wk} {mk : Int → Int} {x1 x3 x4 x5 y3 y4 z5 z6 v : Int} (h : wkR m 39 0 40 41 W) (o : okWk N W) (k : okM W) (t : tpM m mk) (d : nrI W (fun s => mk s = x1) x3 x4 x5) (hx : (0 ≤ x5 ∧ x5 < rd m 39 0) ∧ z5 = x5 + 1) (e6 : z6 = rd m 40 (Int.toNat x5)) (b6 : 0 ≤ z6 ∧ z6 ≤ 599) (ev : v = rd m 38 (Int.toNat (rd m 32 (Int.toNat (z6 % 24 * 6))))) (r : (v = x1 ∧ (x3 = -2 ∨ (rd m 41 (Int.toNat z6) = x4 ∧ z6 / 24 < x3)) ∧ y3 = z6 / 24 ∧ y4 = rd m 41 (Int.toNat z6)) ∨ ((¬ v = x1 ∨ (¬ x3 = -2 ∧ (¬ rd m 41 (Int.toNat z6) = x4 ∨ x3 ≤ z6 / 24))) ∧ y3 = x3 ∧ y4 = x4)) : nrI W (fun s => mk s = x1) y3 y4 z5 := by
  have lt : ((Int.toNat x5 : Nat) : Int) < W 0 0 := by rw [← h.1]; omega
  have e1 : z6 = W 1 (Int.toNat x5) := e6.trans (h.2.1 _ lt)
  have e2 : rd m 41 (Int.toNat z6) = W 2 (Int.toNat z6) := h.2.2 _ (by omega)
  rw [t z6 b6.1 b6.2] at ev
  rw [e2] at r
  have at5 : ∀ i : Nat, (i : Int) < z5 → ¬ (i : Int) < x5 → W 1 i = z6 := fun i h1 h2 => by
    rw [show i = Int.toNat x5 by omega]; exact e1.symm
  rcases r with ⟨r1, r2, r3, r4⟩ | ⟨r1, r3, r4⟩
  · refine Or.inr ⟨Int.toNat x5, by omega, ?_, by rw [← e1]; exact r3, by rw [← e1]; exact r4, fun j hj dj => ?_⟩
    · show mk (W 1 (Int.toNat x5)) = x1
      rw [← e1, ← ev]; exact r1
    · by_cases q : (j : Int) < x5
      · rcases d with ⟨d1, d2, d3⟩ | ⟨i, i1, i2, i3, i4, i5⟩
        · exact absurd dj (d3 j q)
        · have p := i5 j q dj
          have n := (o.2.1 i (by omega)).1
          rcases r2 with r2 | r2
          · omega
          · omega
      · rw [at5 j hj q]
        exact Or.inr ⟨r4, by omega⟩
  · rcases d with ⟨d1, d2, d3⟩ | ⟨i, i1, i2, i3, i4, i5⟩
    · refine Or.inl ⟨by omega, by omega, fun j hj dj => ?_⟩
      by_cases q : (j : Int) < x5
      · exact d3 j q dj
      · have dj2 : mk (W 1 j) = x1 := dj
        rw [at5 j hj q, ← ev] at dj2
        rcases r1 with r1 | r1
        · exact r1 dj2
        · omega
    · refine Or.inr ⟨i, by omega, i2, by omega, by omega, fun j hj dj => ?_⟩
      by_cases q : (j : Int) < x5
      · have p := i5 j q dj
        omega
      · have dj2 : mk (W 1 j) = x1 := dj
        have mo := k i j (by omega) (by rw [← h.1]; omega)
        rw [at5 j hj q] at dj2 mo ⊢
        rw [← ev] at dj2
        rcases r1 with r1 | r1
        · exact absurd dj2 r1
        · omega
theorem nr_e {m : Mm} {N : Int} {W : Wk} {D : Int → Prop} {a b x : Int} (h : wkR m 39 0 40 41 W) (o : okWk N W) (kV : okV W) (d : nrI W D a b x) (hx : rd m 39 0 ≤ x ∧ x ≤ rd m 39 0) : nrP N W D a b := by
  have ex : x = W 0 0 := by rw [← h.1]; omega
  subst ex
  rcases d with ⟨d1, d2, d3⟩ | ⟨i, i1, i2, i3, i4, i5⟩
  · refine Or.inl ⟨d1, d2, fun s h0 h1 h2 ds => ?_⟩
    obtain ⟨i, i1, i2⟩ := ord_V o kV ⟨h0, h1⟩ h2
    rw [← i2] at ds
    exact d3 i i1 ds
  · refine Or.inr ⟨W 1 i, o.2.1 i i1, o.2.2.2 i i1, i2, i3, i4, fun t h0 h1 h2 dt => ?_⟩
    obtain ⟨j, j1, j2⟩ := ord_V o kV ⟨h0, h1⟩ h2
    rw [← j2] at dt ⊢
    exact i5 j j1 dt
theorem WA_M {A : Ab} {T : Nat → Int} {c : Int} (oY : okY A.Y) (hT : ∀ j, j < 96 → 0 ≤ T j ∧ T j ≤ 23) (own : 0 ≤ fC A.r c ∧ fC A.r c < A.Y 0 * A.Y 1) : okV (WA A T c) ∧ okM (WA A T c) := FIN_M (mv_clo oY hT) ⟨by omega, by omega⟩
theorem wl_M {m : Mm} {A : Ab} {T F : Nat → Int} {c : Int} (h : cA m A) (tm : Ty m) (tb : tbR m 32 33 F T) (hc : 0 ≤ c ∧ c < A.Y 3) : okV (WA A T c) ∧ okM (WA A T c) := WA_M h.2.1 (fun j hj => by rw [← tb.2 j hj]; exact ty_33 tm j) (h.2.2.1.1 c hc.1 hc.2)
def neaA (A : Ab) (T F : Nat → Int) (x1 x2 x3 v : Int) : Prop := (¬ ((0 ≤ x1 ∧ x1 < A.Y 3) ∧ (0 ≤ x2 ∧ x2 ≤ 9) ∧ 0 ≤ x3 ∧ x3 ≤ 1) ∧ v = -1) ∨ (((0 ≤ x1 ∧ x1 < A.Y 3) ∧ (0 ≤ x2 ∧ x2 ≤ 9) ∧ 0 ≤ x3 ∧ x3 ≤ 1) ∧ ∃ a b, nrP (24 * (A.Y 0 * A.Y 1)) (WA A T x1) (fun s => mkN A.r F x1 s 0 = x2) a b ∧ ((x3 = 0 ∧ v = a) ∨ (¬ x3 = 0 ∧ v = b)))
theorem neaA_u {A : Ab} {T F : Nat → Int} {x1 x2 x3 v w : Int} (h : neaA A T F x1 x2 x3 v) (k : neaA A T F x1 x2 x3 w) : v = w := by
  rcases h with ⟨a, b⟩ | ⟨a, a1, a2, b, c⟩ <;> rcases k with ⟨d, e⟩ | ⟨d, d1, d2, e, f⟩
  · exact b.trans e.symm
  · exact absurd d a
  · exact absurd a d
  · have u := nrP_u b e
    omega
theorem nea_C {m : Mm} {A : Ab} {T F : Nat → Int} {c x2 x3 v : Int} (_h : cA m A) {m42 : Mm} (wl : wlP m42 A T F c) (k : okV (WA A T c) ∧ okM (WA A T c)) (hc : 0 ≤ c ∧ c < A.Y 3) (h2 : 0 ≤ x2 ∧ x2 ≤ 9) (h3 : 0 ≤ x3 ∧ x3 ≤ 1) (q : ∀ N W mk, wkR m42 39 0 40 41 W → okWk N W → okM W → tpM m42 mk → okV W → ∃ a b, nrP N W (fun s => mk s = x2) a b ∧ ((x3 = 0 ∧ v = a) ∨ (¬ x3 = 0 ∧ v = b))) : neaA A T F c x2 x3 v :=
  Or.inr ⟨⟨hc, h2, h3⟩, q _ _ _ wl.2.1 wl.1 k.2 (tpM_w wl) k.1⟩
theorem nea_n {m : Mm} {A : Ab} {T F : Nat → Int} {x1 x2 x3 : Int} (h : cA m A) (n : ¬ (0 ≤ x1 ∧ x1 ≤ rd m 7 3 - 1) ∨ ¬ (0 ≤ x2 ∧ x2 ≤ 9) ∨ ¬ (0 ≤ x3 ∧ x3 ≤ 1)) : neaA A T F x1 x2 x3 (-1) := by
  rw [h.1.1.2.2.2.1] at n
  exact Or.inl ⟨by omega, rfl⟩
-- TippedCrates$Walks.nearestReading(II)I
set_option maxRecDepth 20000 in
theorem fy_110 {m : Mm} {x1 : Int} {x2 : Int}  (T_m : Ty m) (r_x1 : rg x1) (r_x2 : rg x2)  : CK 2 110 [.ref 39, iv x1, iv x2] m (fun m2 v => m2 = m ∧ ((True) ∧ (∀ N W mk, wkR m 39 0 40 41 W → okWk N W → okM W → tpM m mk → okV W → ∃ a b, nrP N W (fun s => mk s = x1) a b ∧ ((x2 = 0 ∧ v = a) ∨ (¬ x2 = 0 ∧ v = b))))) := by
  refine br_110 r_x1 r_x2 ?_
  unfold P_110
  refine ⟨fun x3_10 x4_10 x5_10 m_10 => m_10 = m ∧ ((0 ≤ x5_10 ∧ x5_10 ≤ 600) ∧ (x5_10 ≤ rd m 39 0 ∧ ∀ N W mk, wkR m 39 0 40 41 W → okWk N W → okM W → tpM m mk → nrI W (fun s => mk s = x1) x3_10 x4_10 x5_10)), fun x3_10 x4_10 x5_10 m_10 => Int.toNat (600 - x5_10), ?_, ?_⟩
  · exact ⟨rfl, by exact ⟨by first | omega | (refine ⟨?_, ?_⟩ <;> omega) | trivial, by exact ⟨(ty_39_0 T_m).1, fun _ _ _ _ _ _ _ => Or.inl ⟨rfl, rfl, fun i hi => by omega⟩⟩⟩⟩
  · intro x3_10 x4_10 x5_10 m_10 r_x3_10 r_x4_10 r_x5_10 hI_10
    obtain ⟨e_m_10, hI_10⟩ := hI_10
    replace e_m_10 := e_m_10.symm
    subst e_m_10
    obtain ⟨hI_10, dI_10⟩ := hI_10
    have t1 := ty_39_0 T_m
    refine ⟨fun hq => ?_, fun hq => ?_⟩
    · skip
      refine ⟨fun s0_102 => (x2 = 0 ∧ s0_102 = x3_10) ∨ (¬ x2 = 0 ∧ s0_102 = x4_10), ?_, ?_⟩
      · skip
        refine ⟨fun hq => ?_, fun hq => ?_⟩
        · skip
          (omega)
        · skip
          (omega)
      · intro s0_102 r_s0_102 hR_102
        exact ⟨rfl, by exact ⟨by first | trivial | omega | (refine ⟨?_, ?_⟩ <;> omega), by exact fun N W mk h o k t kV => ⟨x3_10, x4_10, nr_e h o kV (dI_10.2 N W mk h o k t) (by omega), hR_102⟩⟩⟩
    · skip
      refine ⟨⟨by omega, by omega⟩, ?_⟩
      have t2 := ty_40 T_m (Int.toNat x5_10)
      intro z6_26 e_z6_26
      have r_z6_26 : rg z6_26 := by rw [e_z6_26]; exact (rd_rg _ _ _)
      refine CK.mono (ct_72   T_m r_z6_26 (by omega)) (by decide) ?_
      rintro m34 v34 r_v34 ⟨e_m34, h_m34⟩
      replace e_m34 := e_m34.symm
      subst e_m34
      refine ⟨fun y3_86 y4_86 => (v34 = x1 ∧ (x3_10 = -2 ∨ (rd m 41 (Int.toNat z6_26) = x4_10 ∧ z6_26 / 24 < x3_10)) ∧ y3_86 = z6_26 / 24 ∧ y4_86 = rd m 41 (Int.toNat z6_26)) ∨ ((¬ v34 = x1 ∨ (¬ x3_10 = -2 ∧ (¬ rd m 41 (Int.toNat z6_26) = x4_10 ∨ x3_10 ≤ z6_26 / 24))) ∧ y3_86 = x3_10 ∧ y4_86 = x4_10), ?_, ?_⟩
      · skip
        refine ⟨fun hq => ?_, fun hq => ?_⟩
        · skip
          refine ⟨x3_10 = -2 ∨ (rd m 41 (Int.toNat z6_26) = x4_10 ∧ z6_26 / 24 < x3_10), ?_, ?_⟩
          · skip
            refine ⟨fun hq => ?_, fun hq => ?_⟩
            · skip
              (omega)
            · skip
              refine ⟨⟨by omega, by omega⟩, ?_⟩
              refine ⟨fun hq => ?_, fun hq => ?_⟩
              · skip
                (omega)
              · skip
                try have q4 : dvI z6_26 24 = z6_26 / 24 := dv_eq (by omega) (by omega) (by omega) (by omega)
                refine ⟨fun hq => ?_, fun hq => ?_⟩
                · skip
                  (omega)
                · skip
                  (omega)
          · intro   hR_71
            try have q5 : dvI z6_26 24 = z6_26 / 24 := dv_eq (by omega) (by omega) (by omega) (by omega)
            intro z3_76 e_z3_76
            have r_z3_76 : rg z3_76 := by rw [e_z3_76]; exact (io_rg _ _ _)
            refine ⟨⟨by omega, by omega⟩, ?_⟩
            intro z4_84 e_z4_84
            have r_z4_84 : rg z4_84 := by rw [e_z4_84]; exact (rd_rg _ _ _)
            (omega)
        · skip
          (omega)
      · intro y3_86 y4_86 r_y3_86 r_y4_86 hR_86
        try have w7 : wr (x5_10 + 1) = x5_10 + 1 := wr_id (by omega) (by omega)
        intro z5_86 e_z5_86
        have r_z5_86 : rg z5_86 := by rw [e_z5_86]; exact wr_rg _
        exact ⟨⟨rfl, by exact ⟨by first | omega | (refine ⟨?_, ?_⟩ <;> omega) | trivial, by exact ⟨by omega, fun N W mk h o k t => nr_s h o k t (dI_10.2 N W mk h o k t) (by omega) e_z6_26 (by omega) h_m34.1 hR_86⟩⟩⟩, by (try dsimp only); omega⟩
-- TippedCrates.nearest(III)I
set_option maxRecDepth 20000 in
theorem fy_136 {m0 m : Mm} {x1 : Int} {x2 : Int} {x3 : Int}  (g_m : G m0 m) (r_x1 : rg x1) (r_x2 : rg x2) (r_x3 : rg x3) (p0 : okS m 274) : CK 3 136 [.ref 0, iv x1, iv x2, iv x3] m (fun m2 v => G m0 m2 ∧ ((True) ∧ (∀ A T F, cA m A → dsR A.Y A.r → tbR m 32 33 F T → neaA A T F x1 x2 x3 v))) := by
  refine br_136 r_x1 r_x2 r_x3 ?_
  unfold P_136
  have ok := p0
  have okn := p0.1
  have t73 := ty_7_3 g_m.1
  refine CK.mono (ct_162   g_m.1 r_x1) (by decide) ?_
  rintro m2 v2 r_v2 ⟨e_m2, h_m2⟩
  replace e_m2 := e_m2.symm
  subst e_m2
  refine ⟨fun m_24 => G m0 m_24 ∧ (¬ (0 ≤ x1 ∧ x1 ≤ rd m 7 3 - 1) ∨ ¬ (0 ≤ x2 ∧ x2 ≤ 9) ∨ ¬ (0 ≤ x3 ∧ x3 ≤ 1)), ?_, ?_⟩
  · skip
    refine ⟨fun hq => ?_, fun hq => ?_⟩
    · skip
      exact ⟨g_m, by omega⟩
    · skip
      refine CK.mono (ct_164   r_x2) (by decide) ?_
      rintro m9 v9 r_v9 ⟨e_m9, h_m9⟩
      replace e_m9 := e_m9.symm
      subst e_m9
      refine ⟨fun hq => ?_, fun hq => ?_⟩
      · skip
        exact ⟨g_m, by omega⟩
      · skip
        refine CK.mono (ct_166   r_x3 (by unfold rg; decide) (by unfold rg; decide)) (by decide) ?_
        rintro m18 v18 r_v18 ⟨e_m18, h_m18⟩
        replace e_m18 := e_m18.symm
        subst e_m18
        refine ⟨fun hq => ?_, fun hq => ?_⟩
        · skip
          refine CV.mono (fy_70   g_m st_274 r_x1 (by omega) (ok.2.1 _ (by omega)) (fun k hk => ok.2.2 _ (by omega))) (by decide) ?_
          rintro m35 ⟨g_m35, h_m35⟩
          refine CV.mono (fy_105   g_m35) (by decide) ?_
          rintro m42 ⟨g_m42, h_m42⟩
          refine CK.mono (fy_110   g_m42.1 r_x2 r_x3) (by decide) ?_
          rintro m51 v51 r_v51 ⟨e_m51, h_m51⟩
          replace e_m51 := e_m51.symm
          subst e_m51
          exact ⟨g_m42, by exact ⟨by first | trivial | omega | (refine ⟨?_, ?_⟩ <;> omega), by first | (have u := h_m51; exact fun A T F h ds tb => nea_C h (wl_C h ds (te_Cx h (by omega)) tb g_m g_m35 h_m35.2 g_m42 h_m42.2) (wl_M h g_m.1 tb (te_Cx h (by omega))) (te_Cx h (by omega)) (by omega) (by omega) h_m51.2) | exact fun A T F h ds tb => nea_n h hR_24⟩⟩
        · skip
          exact ⟨g_m, by omega⟩
  · intro m_24  hR_24
    obtain ⟨g_m_24, hR_24⟩ := hR_24
    exact ⟨g_m_24, by exact ⟨by first | trivial | omega | (refine ⟨?_, ?_⟩ <;> omega), by first | (have u := h_m51; exact fun A T F h ds tb => nea_C h (wl_C h ds (te_Cx h (by omega)) tb g_m g_m35 h_m35.2 g_m42 h_m42.2) (wl_M h g_m.1 tb (te_Cx h (by omega))) (te_Cx h (by omega)) (by omega) (by omega) h_m51.2) | exact fun A T F h ds tb => nea_n h hR_24⟩⟩
