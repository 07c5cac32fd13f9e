/-- where the class says that a crate can go from a flag -/
def GOI (m : Mm) (o f k : Int) : Int := if rd m 18 (Int.toNat (f * 4 + k)) = -1 then -1 else if anI (srI (orI (rd m 7 4) o) (rd m 18 (Int.toNat (f * 4 + k)))) 1 = 0 then rd m 18 (Int.toNat (f * 4 + k)) else -1
def goX (m m2 : Mm) (o x y : Int) : Prop := ∀ f k : Int, 0 ≤ f → 0 ≤ k → k ≤ 3 → (f < x ∨ (f = x ∧ k < y)) → rd m2 37 (Int.toNat (f * 4 + k)) = GOI m o f k
def sdK (m m2 : Mm) : Prop := ∀ i j : Nat, ¬ i = 37 → rd m2 i j = rd m i j
theorem go_n {m m2 : Mm} {o x y z : Int} (g : goX m m2 o x y) (hy : 4 ≤ y) (ez : z = x + 1) : goX m m2 o z 0 := fun f k h0 h1 h2 h => g f k h0 h1 h2 (by omega)
theorem go_s {m m73 m144 : Mm} {o x y z s s0 v w : Int} (d : sdK m m73 ∧ goX m m73 o x y) (hx : 0 ≤ x) (hy : 0 ≤ y ∧ y ≤ 3) (ev : v = rd m73 18 (Int.toNat (x * 4 + y))) (e0 : (s0 = 1 ∧ ¬ v = -1 ∧ anI (srI (orI (rd m73 7 4) o) v) 1 = 0) ∨ (s0 = 0 ∧ (v = -1 ∨ ¬ anI (srI (orI (rd m73 7 4) o) v) 1 = 0))) (es : (s0 = 0 ∧ s = -1) ∨ (¬ s0 = 0 ∧ s = v)) (e : m144 = wt m73 37 (Int.toNat w) s) (ew : w = x * 4 + y) (rs : rg s) (ez : z = y + 1) : sdK m m144 ∧ goX m m144 o x z := by
  obtain ⟨d1, d2⟩ := d
  refine ⟨fun i j q => by rw [e, rd_wt, if_neg (by omega)]; exact d1 i j q, fun f k h0 h1 h2 h => ?_⟩
  rw [e, rd_wt, ew]
  by_cases q : f = x ∧ k = y
  · obtain ⟨rfl, rfl⟩ := q
    rw [if_pos ⟨rfl, rfl⟩, wr_i rs]
    rw [d1 18 _ (by omega)] at ev
    rw [d1 7 4 (by omega)] at e0
    unfold GOI
    rw [← ev]
    rcases e0 with ⟨a, b, c⟩ | ⟨a, b⟩
    · rw [if_neg b, if_pos c]; omega
    · have es2 : s = -1 := by omega
      rcases b with b | b
      · rw [if_pos b]; exact es2
      · by_cases b2 : v = -1
        · rw [if_pos b2]; exact es2
        · rw [if_neg b2, if_neg b]; exact es2
  · rw [if_neg (by omega)]
    exact d2 f k h0 h1 h2 (by omega)
def othI (m : Mm) (a : Nat) (x2 : Int) : Int := anI (fcF (rd m (a + 2)) (Int.toNat (rd m a 4))) (xoI (slI 1 (rd m (a + 2) (Int.toNat x2))) (-1))
def sdP (m m2 : Mm) (a : Nat) (x2 : Int) : Prop := rd m2 36 1 = rd m (a + 2) (Int.toNat x2) * 24 ∧ (∀ j : Nat, j < 6 → rd m2 38 j = rd m (a + 3) (Int.toNat (x2 * 6) + j)) ∧ goX m m2 (othI m a x2) (rd m 7 0 * rd m 7 1) 0
theorem sd_C {m m10 m28 m50 : Mm} {a : Nat} {x2 x4 v32 o : Int} (ha : isSt a) (hw : wr (rd m (a + 2) (Int.toNat x2) * 24) = rd m (a + 2) (Int.toNat x2) * 24) (hx : wr (x2 * 6) = x2 * 6) (e10 : m10 = wt m 36 1 (wr ((rd m (a + 2) (Int.toNat x2)) * 24))) (e28 : m28 = cpm m10 (a + 3) (Int.toNat (wr (x2 * 6))) 38 0 6) (e32 : v32 = fcF (rd m28 (a + 2)) (Int.toNat (rd m28 a 4))) (eo : o = anI v32 (xoI (slI 1 (rd m28 (a + 2) (Int.toNat x2))) (-1))) (d : sdK m28 m50 ∧ goX m28 m50 o x4 0) (hq : rd m50 7 0 * rd m50 7 1 ≤ x4) : sdP m m50 a x2 := by
  obtain ⟨d1, d2⟩ := d
  have a0 := ha.1
  have F10 : ∀ i j : Nat, ¬ i = 36 → rd m10 i j = rd m i j := fun i j q => by rw [e10, rd_wt, if_neg (by omega)]
  have F : ∀ i j : Nat, ¬ i = 36 → ¬ i = 38 → rd m28 i j = rd m i j := fun i j q p => by rw [e28, rd_cpm, if_neg (by omega)]; exact F10 i j q
  have G1 : rd m28 (a + 2) = rd m (a + 2) := funext fun j => F _ j (by omega) (by omega)
  have eo2 : o = othI m a x2 := by
    rw [eo, e32, G1, F a 4 (by omega) (by omega)]
    rfl
  refine ⟨?_, fun j hj => ?_, fun f k h0 h1 h2 h => ?_⟩
  · rw [d1 36 1 (by omega), e28, rd_cpm, if_neg (by omega), e10, rd_wt, if_pos ⟨rfl, rfl⟩, wr_i (wr_rg _), hw]
  · rw [d1 38 j (by omega), e28, rd_cpm, if_pos ⟨rfl, by omega, by omega⟩, F10 _ _ (by omega), hx, show j - 0 + Int.toNat (x2 * 6) = Int.toNat (x2 * 6) + j by omega]
  · rw [d1 7 0 (by omega), d1 7 1 (by omega), F 7 0 (by omega) (by omega), F 7 1 (by omega) (by omega)] at hq
    rw [d2 f k h0 h1 h2 (by omega), eo2]
    unfold GOI
    rw [F 18 _ (by omega) (by omega), F 7 4 (by omega) (by omega)]
/-! .. is where a crate can go -/
def agC (m : Mm) (A : Ab) (c : Int) : Prop := rd m 36 1 = 24 * fC A.r c ∧ (∀ j : Nat, j < 6 → rd m 38 j = A.r (Int.toNat (25 + 6 * c) + j)) ∧ ∀ f k : Int, 0 ≤ f → f < A.Y 0 * A.Y 1 → 0 ≤ k → k ≤ 3 → rd m 37 (Int.toNat (f * 4 + k)) = freN A.Y A.r c f k
theorem gb_ot {m : Mm} {A : Ab} {c f : Int} (h : cA m A) (ds : dsR A.Y A.r) (hc : 0 ≤ c ∧ c < A.Y 3) (hf : 0 ≤ f ∧ f < A.Y 0 * A.Y 1) : gb (othI m 274 c) (Int.toNat f) = true ↔ ((¬ c = 0 ∧ 1 ≤ A.Y 3 ∧ A.r 43 = f) ∨ (¬ c = 1 ∧ 2 ≤ A.Y 3 ∧ A.r 44 = f) ∨ (¬ c = 2 ∧ 3 ≤ A.Y 3 ∧ A.r 45 = f)) := by
  have y3 := h.2.1.2.2
  have b := wh_b h.2.1.1 h.2.1.2.1
  have FL := h.2.2.1.2.2.2.1
  have oR := h.2.2.1.1
  have own := oR c hc.1 hc.2
  have FL2 : ∀ q : Nat, (q : Int) < A.Y 3 → rd m 276 q = fC A.r (q : Int) := fun q hq => by
    have w := FL (q : Int) (by omega) hq
    rw [show Int.toNat (q : Int) = q by omega] at w
    exact w
  have e1 := gb_sl (Int.toNat (fC A.r c)) (by omega) (Int.toNat f) (by omega)
  rw [show ((Int.toNat (fC A.r c) : Nat) : Int) = fC A.r c by omega] at e1
  have e2 := gb_fc (F := rd m 276) (n := Int.toNat f) (by omega) (k := Int.toNat (A.Y 3)) (fun q hq => by
    have w := FL2 q (by omega)
    have o := oR (q : Int) (by omega) (by omega)
    omega)
  have t : othI m 274 c = anI (fcF (rd m 276) (Int.toNat (A.Y 3))) (xoI (slI 1 (fC A.r c)) (-1)) := by
    unfold othI
    rw [h.2.2.1.2.1, FL c hc.1 hc.2]
  rw [t, gb_and, gb_not _ (by omega), e1, Bool.and_eq_true, e2]
  clear e2
  constructor
  · rintro ⟨⟨q, q1, q2⟩, w⟩
    have ne : ¬ Int.toNat f = Int.toNat (fC A.r c) := fun z => by
      rw [decide_eq_true z] at w
      exact absurd w (by decide)
    have wq := FL2 q (by omega)
    have q3 : q = 0 ∨ q = 1 ∨ q = 2 := by omega
    have nc : ¬ (q : Int) = c := fun z => by
      rw [z] at wq
      omega
    rcases q3 with rfl | rfl | rfl
    · exact Or.inl ⟨fun z => nc z.symm, by omega, by
        have w3 : rd m 276 0 = A.r 43 := wq
        omega⟩
    · exact Or.inr (Or.inl ⟨fun z => nc z.symm, by omega, by
        have w3 : rd m 276 1 = A.r 44 := wq
        omega⟩)
    · exact Or.inr (Or.inr ⟨fun z => nc z.symm, by omega, by
        have w3 : rd m 276 2 = A.r 45 := wq
        omega⟩)
  · intro w
    have one : ∃ q : Nat, (q : Int) < A.Y 3 ∧ ¬ (q : Int) = c ∧ fC A.r (q : Int) = f := by
      rcases w with ⟨w1, w2, w3⟩ | ⟨w1, w2, w3⟩ | ⟨w1, w2, w3⟩
      · exact ⟨0, by omega, fun z => w1 z.symm, w3⟩
      · exact ⟨1, by omega, fun z => w1 z.symm, w3⟩
      · exact ⟨2, by omega, fun z => w1 z.symm, w3⟩
    obtain ⟨q, q1, q2, q3⟩ := one
    refine ⟨⟨q, by omega, ?_⟩, ?_⟩
    · have wq := FL2 q q1
      omega
    · rw [decide_eq_false (fun z => q2 (ds (q : Int) c (by omega) q1 hc.1 hc.2 (by omega)))]
      rfl
theorem ag_C {m m2 : Mm} {A : Ab} {c : Int} (h : cA m A) (ds : dsR A.Y A.r) (hc : 0 ≤ c ∧ c < A.Y 3) (p : sdP m m2 274 c) : agC m2 A c := by
  obtain ⟨p1, p2, p3⟩ := p
  have y3 := h.2.1.2.2
  refine ⟨?_, fun j hj => ?_, fun f k f0 f1 k0 k1 => ?_⟩
  · have e : rd m (274 + 2) (Int.toNat c) = fC A.r c := h.2.2.1.2.2.2.1 c hc.1 hc.2
    rw [p1, e]
    omega
  · have e := h.2.2.1.2.2.2.2.1 (c * 6 + (j : Int)) (by omega) (by omega)
    rw [p2 j hj, show Int.toNat (c * 6) + j = Int.toNat (c * 6 + (j : Int)) by omega, show Int.toNat (25 + 6 * c) + j = Int.toNat (25 + (c * 6 + (j : Int))) by omega]
    exact e
  · rw [h.1.1.1, h.1.1.2.1] at p3
    rw [p3 f k f0 k0 k1 (Or.inl f1)]
    have nx := (h.1.2.1 f f0 f1).2.2 k k0 k1
    have b := wh_b h.2.1.1 h.2.1.2.1
    unfold GOI freN
    rw [nx]
    by_cases q : nxN A.Y f k = -1
    · rw [if_pos q, if_pos (Or.inl q)]
    · have nb := ((nx_b h.2.1 ⟨f0, f1⟩ ⟨k0, k1⟩).resolve_left q).1
      have o := gb_ot h ds hc nb
      have e1 := bt_i (orI (rd m 7 4) (othI m 274 c)) (f := nxN A.Y f k) (by omega)
      have e2 := bt_i (A.Y 2) (f := nxN A.Y f k) (by omega)
      rw [gb_or, h.1.1.2.2.1] at e1
      rw [if_neg q]
      rw [h.1.1.2.2.1]
      by_cases s : gb (A.Y 2) (Int.toNat (nxN A.Y f k)) = true
      · rw [if_pos s] at e2
        rw [s, Bool.true_or, if_pos rfl] at e1
        rw [if_neg (by omega), if_pos (Or.inr (Or.inl e2))]
      · rw [if_neg s] at e2
        rw [eq_false_of_ne_true s, Bool.false_or] at e1
        by_cases t : gb (othI m 274 c) (Int.toNat (nxN A.Y f k)) = true
        · rw [if_pos t] at e1
          rw [if_neg (by omega), if_pos (Or.inr (Or.inr (o.mp t)))]
        · rw [if_neg t] at e1
          rw [if_pos e1, if_neg]
          rintro (w | w | w)
          · exact q w
          · omega
          · exact t (o.mpr w)
/-- what 'tipped' answers -/
def tpP (m : Mm) (x1 x2 v : Int) : Prop := (v = -1 ∧ rd m 37 (Int.toNat (x1 / 24 * 4 + x2)) = -1) ∨ (v = rd m 37 (Int.toNat (x1 / 24 * 4 + x2)) * 24 + rd m 33 (Int.toNat (x1 % 24 * 4 + x2)) ∧ ¬ rd m 37 (Int.toNat (x1 / 24 * 4 + x2)) = -1)
theorem tp_C {m : Mm} {A : Ab} {T : Nat → Int} {c s k v : Int} (g : agC m A c) (t : ∀ j : Nat, j < 96 → rd m 33 j = T j) (y : okY A.Y) (hs : 0 ≤ s ∧ s < 24 * (A.Y 0 * A.Y 1)) (hk : 0 ≤ k ∧ k ≤ 3) (p : tpP m s k v) : v = mvN A.Y A.r T c s k := by
  have e := g.2.2 (s / 24) k (by omega) (by omega) hk.1 hk.2
  have e2 := t (Int.toNat (s % 24 * 4 + k)) (by omega)
  rw [show Int.toNat (s % 24 * 4 + k) = Int.toNat (4 * (s % 24) + k) by omega] at e2
  unfold tpP at p
  rw [show Int.toNat (s % 24 * 4 + k) = Int.toNat (4 * (s % 24) + k) by omega, e, e2] at p
  unfold mvN
  rcases p with ⟨p1, p2⟩ | ⟨p1, p2⟩
  · rw [if_pos p2]; exact p1
  · rw [if_neg p2, p1]; omega
-- TippedCrates$Standings.stand(LTippedCrates$State;I)V
set_option maxRecDepth 20000 in
theorem fy_70 {m0 m : Mm} {a : Nat} {x2 : Int}  (g_m : G m0 m) (h_a : isSt a) (r_x2 : rg x2) (p0 : 0 ≤ x2 ∧ x2 ≤ 2) (p1 : 0 ≤ rd m (a + 2) (Int.toNat x2)) (p2 : ∀ k : Nat, k < 6 → rd m (a + 3) (Int.toNat (x2 * 6) + k) ≤ 9) : CV 2 70 [.ref 36, .ref a, iv x2] m (fun m2 => G m0 m2 ∧ ((True) ∧ (sdP m m2 a x2))) := by
  refine br_70 h_a r_x2 ?_
  unfold P_70
  refine ⟨⟨by omega, by omega⟩, ?_⟩
  have t1 := ty_sF g_m.1 h_a (Int.toNat x2)
  try have w2 : wr ((rd m (a + 2) (Int.toNat x2)) * 24) = (rd m (a + 2) (Int.toNat x2)) * 24 := wr_id (by omega) (by omega)
  intro m10 e_m10
  have g_m10 : G m0 m10 := by rw [e_m10]; exact GX.wt g_m (tw_36_1 g_m.1 ⟨by omega, by omega⟩) (Eq.refl true)
  try have w3 : wr (x2 * 6) = x2 * 6 := wr_id (by omega) (by omega)
  refine ⟨⟨by omega, by omega, by omega, by omega, by omega⟩, ?_⟩
  intro m28 e_m28
  have g_m28 : G m0 m28 := by rw [e_m28]; exact g_cp38 g_m10 h_a (fun k hk => by rw [e_m10, rd_wt, if_neg (by have := h_a.1; omega)]; rw [show Int.toNat (wr (x2 * 6)) = Int.toNat (x2 * 6) by omega]; exact p2 k hk)
  refine CK.mono (ey_83   g_m28.1 h_a) (by decide) ?_
  rintro m32 v32 r_v32 ⟨e_m32, h_m32⟩
  replace e_m32 := e_m32.symm
  subst e_m32
  refine ⟨⟨by omega, by omega⟩, ?_⟩
  have t4 := ty_sF g_m28.1 h_a (Int.toNat x2)
  intro z3_46 e_z3_46
  have r_z3_46 : rg z3_46 := by rw [e_z3_46]; exact (io_rg _ _ _)
  refine ⟨fun x4_50 m_50 => G m0 m_50 ∧ ((0 ≤ x4_50 ∧ x4_50 ≤ 25) ∧ (sdK m28 m_50 ∧ goX m28 m_50 z3_46 x4_50 0)), fun x4_50 m_50 => Int.toNat (25 - x4_50), ?_, ?_⟩
  · exact ⟨g_m28, by exact ⟨by first | omega | (refine ⟨?_, ?_⟩ <;> omega) | trivial, by exact ⟨fun _ _ _ => rfl, fun f k h0 h1 h2 h => by omega⟩⟩⟩
  · intro x4_50 m_50 r_x4_50 hI_50
    obtain ⟨g_m_50, hI_50⟩ := hI_50
    obtain ⟨hI_50, dI_50⟩ := hI_50
    have wh := wh_b (ty_7_0 g_m_50.1) (ty_7_1 g_m_50.1)
    have t5 := ty_7_0 g_m_50.1
    have t6 := ty_7_1 g_m_50.1
    have w7 := wh_b (ty_7_0 g_m_50.1) (ty_7_1 g_m_50.1)
    try have w8 : wr ((rd m_50 7 0) * (rd m_50 7 1)) = (rd m_50 7 0) * (rd m_50 7 1) := wr_id (by omega) (by omega)
    refine ⟨fun hq => ?_, fun hq => ?_⟩
    · skip
      exact ⟨g_m_50, by exact ⟨by first | trivial | omega | (refine ⟨?_, ?_⟩ <;> omega), by exact sd_C h_a (by omega) (by omega) e_m10 e_m28 h_m32.2 e_z3_46 dI_50 (by omega)⟩⟩
    · skip
      refine ⟨fun x5_73 m_73 => G m0 m_73 ∧ ((0 ≤ x5_73 ∧ x5_73 ≤ 4) ∧ (sdK m28 m_73 ∧ goX m28 m_73 z3_46 x4_50 x5_73)), fun x5_73 m_73 => Int.toNat (4 - x5_73), ?_, ?_⟩
      · exact ⟨g_m_50, by exact ⟨by first | omega | (refine ⟨?_, ?_⟩ <;> omega) | trivial, by exact dI_50⟩⟩
      · intro x5_73 m_73 r_x5_73 hI_73
        obtain ⟨g_m_73, hI_73⟩ := hI_73
        obtain ⟨hI_73, dI_73⟩ := hI_73
        refine ⟨fun hq => ?_, fun hq => ?_⟩
        · skip
          try have w9 : wr (x4_50 + 1) = x4_50 + 1 := wr_id (by omega) (by omega)
          intro z4_151 e_z4_151
          have r_z4_151 : rg z4_151 := by rw [e_z4_151]; exact wr_rg _
          exact ⟨⟨g_m_73, by exact ⟨by first | omega | (refine ⟨?_, ?_⟩ <;> omega) | trivial, by exact ⟨dI_73.1, go_n dI_73.2 (by omega) (by omega)⟩⟩⟩, by (try dsimp only); omega⟩
        · skip
          refine CK.mono (ct_30   g_m_73.1 r_x4_50 r_x5_73 (by omega) (by omega)) (by decide) ?_
          rintro m87 v87 r_v87 ⟨e_m87, h_m87⟩
          replace e_m87 := e_m87.symm
          subst e_m87
          refine ⟨fun s0_120 => (s0_120 = 1 ∧ ¬ v87 = -1 ∧ anI (srI (orI (rd m_73 7 4) z3_46) v87) 1 = 0) ∨ (s0_120 = 0 ∧ (v87 = -1 ∨ ¬ anI (srI (orI (rd m_73 7 4) z3_46) v87) 1 = 0)), ?_, ?_⟩
          · skip
            refine ⟨v87 = -1 ∨ ¬ anI (srI (orI (rd m_73 7 4) z3_46) v87) 1 = 0, ?_, ?_⟩
            · skip
              refine ⟨fun hq => ?_, fun hq => ?_⟩
              · skip
                (first | exact Or.inl (by assumption) | exact Or.inr (by assumption))
              · skip
                refine ⟨fun hq => ?_, fun hq => ?_⟩
                · skip
                  (first | exact Or.inl (by assumption) | exact Or.inr (by assumption))
                · skip
                  (first | exact Or.inr ⟨rfl, by assumption⟩ | exact Or.inl ⟨rfl, by assumption, by assumption⟩)
            · intro   hR_119
              (first | exact Or.inr ⟨rfl, by assumption⟩ | exact Or.inl ⟨rfl, by assumption, by assumption⟩)
          · intro s0_120 r_s0_120 hR_120
            refine ⟨fun s2_144 => (-1 ≤ s2_144 ∧ s2_144 ≤ 24) ∧ ((s0_120 = 0 ∧ s2_144 = -1) ∨ (¬ s0_120 = 0 ∧ s2_144 = v87)), ?_, ?_⟩
            · skip
              refine ⟨fun hq => ?_, fun hq => ?_⟩
              · skip
                (exact ⟨by first | trivial | omega | (refine ⟨?_, ?_⟩ <;> omega), by first | exact Or.inl ⟨by assumption, rfl⟩ | exact Or.inr ⟨by assumption, rfl⟩⟩)
              · skip
                (exact ⟨by first | trivial | omega | (refine ⟨?_, ?_⟩ <;> omega), by first | exact Or.inl ⟨by assumption, rfl⟩ | exact Or.inr ⟨by assumption, rfl⟩⟩)
            · intro s2_144 r_s2_144 hR_144
              obtain ⟨hR_144, dR_144⟩ := hR_144
              try have w11 : wr (x4_50 * 4) = x4_50 * 4 := wr_id (by omega) (by omega)
              try have w12 : wr ((wr (x4_50 * 4)) + x5_73) = (wr (x4_50 * 4)) + x5_73 := wr_id (by omega) (by omega)
              refine ⟨⟨by omega, by omega⟩, ?_⟩
              intro m144 e_m144
              have g_m144 : G m0 m144 := by rw [e_m144]; exact GX.wt g_m_73 (tw_37 g_m_73.1 ⟨by omega, by omega⟩) (Eq.refl true)
              try have w13 : wr (x5_73 + 1) = x5_73 + 1 := wr_id (by omega) (by omega)
              intro z5_145 e_z5_145
              have r_z5_145 : rg z5_145 := by rw [e_z5_145]; exact wr_rg _
              exact ⟨⟨g_m144, by exact ⟨by first | omega | (refine ⟨?_, ?_⟩ <;> omega) | trivial, by exact go_s dI_73 (by omega) (by omega) h_m87.1 hR_120 dR_144 e_m144 (by omega) r_s2_144 (by omega)⟩⟩, by (try dsimp only); omega⟩
