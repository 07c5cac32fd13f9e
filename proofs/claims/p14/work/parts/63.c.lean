/-- the row of variables; the row of the stack; both -/
def s12 (i _j : Nat) : Bool := Nat.beq i 12
def s15 (i _j : Nat) : Bool := Nat.beq i 15
theorem nb_eq {a b : Nat} (h : Nat.beq a b = true) : a = b := Nat.eq_of_beq_eq_true h
theorem nb_ne {a b : Nat} (h : ¬ a = b) : Nat.beq a b = false := by
  cases q : Nat.beq a b with
  | false => rfl
  | true => exact absurd (nb_eq q) h
theorem in_s12_scr (i j : Nat) (h : s12 i j = true) : scr i j = true := by rw [nb_eq h]; rfl
theorem in_s15_scr (i j : Nat) (h : s15 i j = true) : scr i j = true := by rw [nb_eq h]; rfl
theorem in_s12_s12 (i j : Nat) (h : s12 i j = true) : s12 i j = true := h
theorem in_s15_s15 (i j : Nat) (h : s15 i j = true) : s15 i j = true := h
theorem tyB_lw {a : Nat} (h : isLw a) (j : Nat) : tyB (a + 2) j = (0, 79999) ∧ tyB (a + 3) j = (0, 420) ∧ tyB a 4 = (0, 420) := by
  rcases h with rfl | rfl <;> exact ⟨rfl, rfl, rfl⟩
theorem ty_lw2 {m : Mm} {a : Nat} (h : Ty m) (ha : isLw a) (j : Nat) : 0 ≤ rd m (a + 2) j ∧ rd m (a + 2) j ≤ 79999 := by have := h (a + 2) j; rw [(tyB_lw ha j).1] at this; exact this
theorem ty_lw3 {m : Mm} {a : Nat} (h : Ty m) (ha : isLw a) (j : Nat) : 0 ≤ rd m (a + 3) j ∧ rd m (a + 3) j ≤ 420 := by have := h (a + 3) j; rw [(tyB_lw ha j).2.1] at this; exact this
theorem ty_lw4 {m : Mm} {a : Nat} (h : Ty m) (ha : isLw a) : 0 ≤ rd m a 4 ∧ rd m a 4 ≤ 420 := by have := h a 4; rw [(tyB_lw ha 0).2.2] at this; exact this
theorem tw_lw4 {m : Mm} {a : Nat} {v : Int} (h : Ty m) (ha : isLw a) (hv : 0 ≤ v ∧ v ≤ 420) : Ty (wt m a 4 v) := h.wt ⟨by omega, by omega⟩ (by rw [(tyB_lw ha 0).2.2]; exact hv)
theorem tw_lwr2 {m : Mm} {a j : Nat} {v : Int} (h : Ty m) (ha : isLw a) (hv : 0 ≤ v ∧ v ≤ 79999) : Ty (wt m (a + 2) j v) := h.wt ⟨by omega, by omega⟩ (by rw [(tyB_lw ha j).1]; exact hv)
theorem tw_lwr3 {m : Mm} {a j : Nat} {v : Int} (h : Ty m) (ha : isLw a) (hv : 0 ≤ v ∧ v ≤ 420) : Ty (wt m (a + 3) j v) := h.wt ⟨by omega, by omega⟩ (by rw [(tyB_lw ha j).2.1]; exact hv)
theorem tw_lwr1 {m : Mm} {a j : Nat} {v : Int} (h : Ty m) (ha : isLw a) (hv : rg v) : Ty (wt m (a + 1) j v) := by
  rcases ha with rfl | rfl
  · exact tw_12 h hv
  · exact tw_21 h hv
theorem tw_lwr4 {m : Mm} {a j : Nat} {v : Int} (h : Ty m) (ha : isLw a) (hv : rg v) : Ty (wt m (a + 4) j v) := by
  rcases ha with rfl | rfl
  · exact tw_15 h hv
  · exact tw_24 h hv
/-- a code of a variable is of one that is there -/
def lwOk (m : Mm) (a : Nat) : Prop := ∀ j : Nat, (j : Int) < rd m a 4 → rd m (a + 2) j % 8 = 1 → rd m (a + 2) j / 8 ≤ 8
theorem lwOk_at {m m2 : Mm} {a : Nat} (g : GX s15 m m2) (e : a = 11) (h : lwOk m 11) (x : Int) : 0 ≤ x → x < rd m2 a 4 → rd m2 (a + 2) (Int.toNat x) % 8 = 1 → rd m2 (a + 2) (Int.toNat x) / 8 ≤ 8 := by
  subst e
  intro h0 h1 h2
  rw [g.2.1 13 (Int.toNat x) rfl] at h2 ⊢
  rw [g.2.1 11 4 rfl] at h1
  exact h (Int.toNat x) (by omega) h2
theorem lwOk_fr {m m2 : Mm} {a : Nat} (h : lwOk m a) (e1 : rd m2 a 4 = rd m a 4) (e2 : ∀ j, rd m2 (a + 2) j = rd m (a + 2) j) : lwOk m2 a := by
  intro j h1 h2
  rw [e1] at h1
  rw [e2] at h2 ⊢
  exact h j h1 h2
/-- a tipping can be -/
def canT (m : Mm) (a : Nat) (x2 x3 : Int) : Prop := ¬ rd m 18 (Int.toNat (rd m (a + 2) (Int.toNat x2) * 4 + x3)) = -1 ∧ ¬ anI (srI (rd m 7 4) (rd m 18 (Int.toNat (rd m (a + 2) (Int.toNat x2) * 4 + x3)))) 1 = 1 ∧ ∀ q : Nat, (q : Int) < rd m a 4 → ¬ rd m (a + 2) q = rd m 18 (Int.toNat (rd m (a + 2) (Int.toNat x2) * 4 + x3))
theorem lot_b {n s w : Int} (h : 1 ≤ n ∧ n ≤ 100) : 0 ≤ lotI n s w ∧ lotI n s w < n := by
  unfold lotI
  generalize mixI (mixI s 215) w = q
  have hl : ((Int32.ofInt q).toUInt32 >>> 1).toNat < 2147483648 := by
    have h1 : ((Int32.ofInt q).toUInt32 >>> 1).toNat = (Int32.ofInt q).toUInt32.toNat / 2 := by
      rw [UInt32.toNat_shiftRight]
      show _ >>> (1 % 32) = _
      rw [Nat.shiftRight_eq_div_pow]
    have h2 := (Int32.ofInt q).toUInt32.toNat_lt
    omega
  have e : urI q 1 = (((Int32.ofInt q).toUInt32 >>> 1).toNat : Int) := by
    have hx : ((Int32.ofInt 1).toUInt32 &&& Int32.toUInt32 31) = 1 := by decide
    show (((Int32.ofInt q).toUInt32 >>> ((Int32.ofInt 1).toUInt32 &&& Int32.toUInt32 31)).toInt32).toInt = _
    rw [hx]
    generalize (Int32.ofInt q).toUInt32 >>> 1 = u at hl
    show u.toBitVec.toInt = (u.toBitVec.toNat : Int)
    rw [BitVec.toInt_eq_toNat_of_lt]
    have : u.toBitVec.toNat = u.toNat := rfl
    omega
  rw [rm_eq (by omega) (by omega) (by omega) (by omega)]
  constructor
  · exact Int.emod_nonneg _ (by omega)
  · exact Int.emod_lt_of_pos _ (by omega)
/-- four faces go round -/
def tfM (m : Mm) (b x : Nat) (s r : Nat) : Mm :=
  wt (wt (wt (wt m b x (rd m b r)) b r (rd (wt m b x (rd m b r)) b (x + 1))) b (x + 1) (rd (wt (wt m b x (rd m b r)) b r (rd (wt m b x (rd m b r)) b (x + 1))) b s)) b s (rd m b x)
theorem rd_tf {m : Mm} {b x s r i j : Nat} (h : ¬ i = b) : rd (tfM m b x s r) i j = rd m i j := by
  unfold tfM
  rw [rd_wt, if_neg (fun w => h w.1), rd_wt, if_neg (fun w => h w.1), rd_wt, if_neg (fun w => h w.1), rd_wt, if_neg (fun w => h w.1)]
theorem g_tf {S : Nat → Nat → Bool} {m0 m : Mm} {a x s r : Nat} (g : GX S m0 m) (ha : isSt a) (hS : ∀ j, S (a + 3) j = true) : GX S m0 (tfM m (a + 3) x s r) := by
  unfold tfM
  have g1 : GX S m0 (wt m (a + 3) x (rd m (a + 3) r)) := g.wt (tw_sC g.1 ha (ty_sC g.1 ha r)) (hS _)
  have g2 := g1.wt (tw_sC (j := r) g1.1 ha (ty_sC g1.1 ha (x + 1))) (hS _)
  have g3 := g2.wt (tw_sC (j := x + 1) g2.1 ha (ty_sC g2.1 ha s)) (hS _)
  exact g3.wt (tw_sC (j := s) g3.1 ha (ty_sC g.1 ha x)) (hS _)
/-- a State's crates are on flags, their marks in range -/
def okC (m : Mm) (a : Nat) : Prop := (∀ c : Nat, (c : Int) < rd m a 4 → 0 ≤ rd m (a + 2) c) ∧ ∀ k : Nat, (k : Int) < 6 * rd m a 4 → rd m (a + 3) k ≤ 9
theorem okC_fr {m m2 : Mm} {a : Nat} (h : okC m a) (e : ∀ i c, (a ≤ i ∧ i ≤ a + 4) → rd m2 i c = rd m i c) : okC m2 a := by
  refine ⟨fun c hc => ?_, fun k hk => ?_⟩
  · rw [e a 4 (by omega)] at hc
    rw [e (a + 2) c (by omega)]
    exact h.1 c hc
  · rw [e a 4 (by omega)] at hk
    rw [e (a + 3) k (by omega)]
    exact h.2 k hk
theorem okC_wt {m : Mm} {a i j : Nat} {v : Int} (h : okC m a) (h1 : ¬ i = a + 2) (h2 : ¬ i = a + 3) (h3 : ¬ i = a ∨ ¬ j = 4) : okC (wt m i j v) a := by
  refine ⟨fun c hc => ?_, fun k hk => ?_⟩
  · rw [rd_wt, if_neg (by omega)] at hc
    rw [rd_wt, if_neg (by omega)]
    exact h.1 c hc
  · rw [rd_wt, if_neg (by omega)] at hk
    rw [rd_wt, if_neg (by omega)]
    exact h.2 k hk
theorem okC_w3 {m : Mm} {a j : Nat} {v : Int} (h : okC m a) (hv : 0 ≤ v ∧ v ≤ 9) : okC (wt m (a + 3) j v) a := by
  refine ⟨fun c hc => ?_, fun k hk => ?_⟩
  · rw [rd_wt, if_neg (by omega)] at hc
    rw [rd_wt, if_neg (by omega)]
    exact h.1 c hc
  · rw [rd_wt, if_neg (by omega)] at hk
    rw [rd_wt]
    split
    · rw [wr_id (by omega) (by omega)]; exact hv.2
    · exact h.2 k hk
theorem okC_w3' {m : Mm} {a j : Nat} {v : Int} (h : okC m a) (hv : v ≤ 9) (hr : rg v) : okC (wt m (a + 3) j v) a := by
  refine ⟨fun c hc => ?_, fun k hk => ?_⟩
  · rw [rd_wt, if_neg (by omega)] at hc
    rw [rd_wt, if_neg (by omega)]
    exact h.1 c hc
  · rw [rd_wt, if_neg (by omega)] at hk
    rw [rd_wt]
    split
    · rw [wr_i hr]; exact hv
    · exact h.2 k hk
theorem okC_tf {m : Mm} {a x s r : Nat} (h : okC m a) (hx : ((x : Int) + 1) < 6 * rd m a 4) (hs : (s : Int) < 6 * rd m a 4) (hr : (r : Int) < 6 * rd m a 4) : okC (tfM m (a + 3) x s r) a := by
  unfold tfM
  have h1 : okC (wt m (a + 3) x (rd m (a + 3) r)) a := okC_w3' h (h.2 r hr) (rd_rg _ _ _)
  have e1 : rd (wt m (a + 3) x (rd m (a + 3) r)) a 4 = rd m a 4 := by rw [rd_wt, if_neg (by omega)]
  have h2 := okC_w3' (j := r) h1 (h1.2 (x + 1) (by rw [e1]; omega)) (rd_rg _ _ _)
  have e2 : rd (wt (wt m (a + 3) x (rd m (a + 3) r)) (a + 3) r (rd (wt m (a + 3) x (rd m (a + 3) r)) (a + 3) (x + 1))) a 4 = rd m a 4 := by rw [rd_wt, if_neg (by omega), e1]
  have h3 := okC_w3' (j := x + 1) h2 (h2.2 s (by rw [e2]; omega)) (rd_rg _ _ _)
  exact okC_w3' (j := s) h3 (h.2 x (by omega)) (rd_rg _ _ _)
set_option maxRecDepth 20000 in
theorem ct_167 {m : Mm} {b n : Nat} {x1 x2 : Int} (h_b : isR n b) (r_x1 : rg x1) (r_x2 : rg x2) (p0 : 0 ≤ x1 ∧ x1 + 6 ≤ n) (p1 : 0 ≤ x2 ∧ x2 ≤ 3) : CV 1 167 [.ref b, iv x1, iv x2] m (fun m2 => m2 = tfM m b (Int.toNat x1) (Int.toNat (x1 + sx 0 x2)) (Int.toNat (x1 + sx 1 x2)) ∧ True) := by
  refine br_167 h_b r_x1 r_x2 ?_
  unfold P_167
  have s0 := sx_0 (j := x2) ⟨by omega, by omega⟩
  have s1 := sx_1 (j := x2) ⟨by omega, by omega⟩
  have hn := h_b.2.1
  have w0 : wr (x1 + 0) = x1 := by rw [Int.add_zero]; exact wr_i r_x1
  have w1 : wr (x1 + 1) = x1 + 1 := wr_id (by omega) (by omega)
  have w2 : wr (x1 + sx 0 x2) = x1 + sx 0 x2 := wr_id (by omega) (by omega)
  have w3 : wr (x1 + sx 1 x2) = x1 + sx 1 x2 := wr_id (by omega) (by omega)
  have e : Int.toNat (x1 + 1) = Int.toNat x1 + 1 := by omega
  simp only [w0, w1, w2, w3, e]
  refine ⟨⟨by omega, by omega⟩, ?_⟩
  rintro z3 rfl
  refine ⟨⟨by omega, by omega⟩, ?_⟩
  rintro z4 rfl
  refine ⟨⟨by omega, by omega⟩, ?_⟩
  rintro z5 rfl
  refine ⟨⟨by omega, by omega⟩, ⟨by omega, by omega⟩, ?_⟩
  rintro m1 rfl
  refine ⟨⟨by omega, by omega⟩, ⟨by omega, by omega⟩, ?_⟩
  rintro m2 rfl
  refine ⟨⟨by omega, by omega⟩, ⟨by omega, by omega⟩, ?_⟩
  rintro m3 rfl
  refine ⟨⟨by omega, by omega⟩, ?_⟩
  rintro m4 rfl
  exact ⟨rfl, trivial⟩
/-- a State's region, with the rows of the laws -/
def sT (a i j : Nat) : Bool := Nat.beq i 12 || Nat.beq i 15 || (Nat.blt a i && Nat.ble i (a + 4)) || (Nat.beq i a && (Nat.beq j 5 || Nat.beq j 6))
theorem sT_w {a i j : Nat} (h : a < i ∧ i ≤ a + 4) : sT a i j = true := by
  unfold sT
  rw [Nat.blt_eq.mpr h.1, Nat.ble_eq_true_of_le h.2]
  simp
theorem sT_6 {a : Nat} : sT a a 6 = true := by unfold sT; simp
theorem sT_5 {a : Nat} : sT a a 5 = true := by unfold sT; simp
theorem sT_no {a i j : Nat} (h1 : ¬ i = 12) (h2 : ¬ i = 15) (h3 : i < a ∨ a + 4 < i) : sT a i j = false := by
  unfold sT
  rw [nb_ne h1, nb_ne h2, nb_ne (by omega : ¬ i = a), mm_blt]
  have e : (decide (a < i) && Nat.ble i (a + 4)) = false := by
    rcases h3 with h | h
    · rw [decide_eq_false (by omega)]; rfl
    · have : Nat.ble i (a + 4) = false := by
        cases q : Nat.ble i (a + 4) with
        | false => rfl
        | true => exact absurd (Nat.le_of_ble_eq_true q) (by omega)
      rw [this, Bool.and_false]
  rw [e]
  rfl
theorem sT_4 {a : Nat} (ha : isSt a) : sT a a 4 = false := by
  have := ha.1
  unfold sT
  rw [nb_ne (by omega : ¬ a = 12), nb_ne (by omega : ¬ a = 15), mm_blt, decide_eq_false (by omega)]
  simp
  exact ⟨rfl, rfl⟩
theorem in_s12_sT {a : Nat} (i j : Nat) (h : s12 i j = true) : sT a i j = true := by
  unfold sT; rw [show Nat.beq i 12 = true from h]; rfl
theorem in_s15_sT {a : Nat} (i j : Nat) (h : s15 i j = true) : sT a i j = true := by
  unfold sT; rw [show Nat.beq i 15 = true from h]; simp
theorem lwOk_12 {m m2 : Mm} (h : lwOk m 11) (g : GX s12 m m2) : lwOk m2 11 := lwOk_fr h (g.2.1 11 4 rfl) (fun j => g.2.1 13 j rfl)
theorem lwOk_15 {m m2 : Mm} (h : lwOk m 11) (g : GX s15 m m2) : lwOk m2 11 := lwOk_fr h (g.2.1 11 4 rfl) (fun j => g.2.1 13 j rfl)
theorem lwOk_sT {m m2 : Mm} {a : Nat} (h : lwOk m 11) (g : GX (sT a) m m2) (ha : isSt a) : lwOk m2 11 := lwOk_fr h (g.2.1 11 4 (sT_no (by decide) (by decide) (by have := ha.1; omega))) (fun j => g.2.1 13 j (sT_no (by decide) (by decide) (by have := ha.1; omega)))
-- TippedCrates$Laws.answer(I)I
set_option maxRecDepth 20000 in
theorem ct_18 {m : Mm} {a : Nat} {x1 : Int}  (T_m : Ty m) (h_a : isLw a) (r_x1 : rg x1) (p0 : a = 11) (p1 : 0 ≤ x1 ∧ x1 ≤ 3) (p2 : lwOk m 11) : CK 1 18 [.ref a, iv x1] m (fun m2 v => GX s15 m m2 ∧ (True)) := by
  refine br_18 h_a r_x1 ?_
  unfold P_18
  have g_m : GX s15 m m := ⟨T_m, fun _ _ _ => rfl, fun _ _ => rfl⟩
  refine ⟨⟨by omega, by omega⟩, ?_⟩
  have t1 := ty_lw3 T_m h_a (Int.toNat x1)
  intro z2_6 e_z2_6
  have r_z2_6 : rg z2_6 := by rw [e_z2_6]; exact (rd_rg _ _ _)
  refine ⟨fun x2_12 x3_12 x4_12 m_12 => GX s15 m m_12 ∧ ((0 ≤ x2_12 ∧ x2_12 ≤ 10000) ∧ 0 ≤ x3_12 ∧ x3_12 ≤ 24 ∧ 0 ≤ x4_12 ∧ x4_12 ≤ 420), fun x2_12 x3_12 x4_12 m_12 => Int.toNat (421 - x4_12), ?_, ?_⟩
  · exact ⟨g_m, by first | omega | (refine ⟨?_, ?_⟩ <;> omega) | trivial⟩
  · intro x2_12 x3_12 x4_12 m_12 r_x2_12 r_x3_12 r_x4_12 hI_12
    obtain ⟨g_m_12, hI_12⟩ := hI_12
    have ts := ty_lw4 g_m_12.1 h_a
    have hv := lwOk_at g_m_12 p0 p2 x2_12
    refine ⟨True, ?_, ?_⟩
    · skip
      refine ⟨fun hq => ?_, fun hq => ?_⟩
      · skip
        (first | trivial | omega | (refine ⟨?_, ?_⟩ <;> omega))
      · skip
        refine ⟨fun hq => ?_, fun hq => ?_⟩
        · skip
          (first | trivial | omega | (refine ⟨?_, ?_⟩ <;> omega))
        · skip
          refine ⟨⟨by omega, by omega⟩, ?_⟩
          have t3 := ty_lw2 g_m_12.1 h_a (Int.toNat x2_12)
          try have q4 : rmI (rd m_12 (a + 2) (Int.toNat x2_12)) 8 = (rd m_12 (a + 2) (Int.toNat x2_12)) % 8 := rm_eq (by omega) (by omega) (by omega) (by omega)
          intro z5_38 e_z5_38
          have r_z5_38 : rg z5_38 := by rw [e_z5_38]; exact (io_rg _ _ _)
          refine ⟨⟨by omega, by omega⟩, ?_⟩
          try have q5 : dvI (rd m_12 (a + 2) (Int.toNat x2_12)) 8 = (rd m_12 (a + 2) (Int.toNat x2_12)) / 8 := dv_eq (by omega) (by omega) (by omega) (by omega)
          intro z6_49 e_z6_49
          have r_z6_49 : rg z6_49 := by rw [e_z6_49]; exact (io_rg _ _ _)
          try have w6 : wr (x2_12 + 1) = x2_12 + 1 := wr_id (by omega) (by omega)
          intro z2_51 e_z2_51
          have r_z2_51 : rg z2_51 := by rw [e_z2_51]; exact wr_rg _
          refine ⟨fun hq => ?_, fun hq => ?_⟩
          · skip
            refine ⟨fun y2_244 y3_244 m_244 => GX s15 m m_244 ∧ ((0 ≤ y2_244 ∧ y2_244 ≤ 10000) ∧ 0 ≤ y3_244 ∧ y3_244 ≤ 24), ?_, ?_⟩
            · skip
              refine ⟨fun hq => ?_, fun hq => ?_⟩
              · skip
                refine ⟨fun hq => ?_, fun hq => ?_⟩
                · skip
                  try have w7 : wr (x3_12 + (-1)) = x3_12 + (-1) := wr_id (by omega) (by omega)
                  intro z3_127 e_z3_127
                  have r_z3_127 : rg z3_127 := by rw [e_z3_127]; exact wr_rg _
                  try have w8 : wr (z3_127 - 1) = z3_127 - 1 := wr_id (by omega) (by omega)
                  refine ⟨⟨by omega, by omega⟩, ?_⟩
                  intro z7_138 e_z7_138
                  have r_z7_138 : rg z7_138 := by rw [e_z7_138]; exact (rd_rg _ _ _)
                  refine ⟨⟨by omega, by omega⟩, ?_⟩
                  intro z8_146 e_z8_146
                  have r_z8_146 : rg z8_146 := by rw [e_z8_146]; exact (rd_rg _ _ _)
                  refine ⟨fun hq => ?_, fun hq => ?_⟩
                  · skip
                    refine ⟨¬ z5_38 = 7 ∨ ¬ z8_146 = 0, ?_, ?_⟩
                    · skip
                      refine ⟨fun hq => ?_, fun hq => ?_⟩
                      · skip
                        (first | trivial | omega | (refine ⟨?_, ?_⟩ <;> omega))
                      · skip
                        refine ⟨fun hq => ?_, fun hq => ?_⟩
                        · skip
                          (first | trivial | omega | (refine ⟨?_, ?_⟩ <;> omega))
                        · skip
                          exact ⟨g_m_12, by first | trivial | omega | (refine ⟨?_, ?_⟩ <;> omega)⟩
                    · intro   hR_188
                      refine ⟨fun s2_243 => True, ?_, ?_⟩
                      · skip
                        refine ⟨fun hq => ?_, fun hq => ?_⟩
                        · skip
                          refine ⟨fun hq => ?_, fun hq => ?_⟩
                          · skip
                            refine ⟨fun hq => ?_, fun hq => ?_⟩
                            · skip
                              refine ⟨by omega, ?_⟩
                              (first | trivial | omega | (refine ⟨?_, ?_⟩ <;> omega))
                            · skip
                              try have w11 : wr (z7_138 * z8_146) = z7_138 * z8_146 := wr_id (by omega) (by omega)
                              (first | trivial | omega | (refine ⟨?_, ?_⟩ <;> omega))
                          · skip
                            try have w12 : wr (z7_138 - z8_146) = z7_138 - z8_146 := wr_id (by omega) (by omega)
                            (first | trivial | omega | (refine ⟨?_, ?_⟩ <;> omega))
                        · skip
                          try have w13 : wr (z7_138 + z8_146) = z7_138 + z8_146 := wr_id (by omega) (by omega)
                          (first | trivial | omega | (refine ⟨?_, ?_⟩ <;> omega))
                      · intro s2_243 r_s2_243 hR_243
                        refine ⟨⟨by omega, by omega⟩, ?_⟩
                        intro m243 e_m243
                        have g_m243 : GX s15 m m243 := by rw [e_m243]; exact GX.wt g_m_12 (tw_lwr4 g_m_12.1 h_a (by first | assumption | omega)) (by rw [p0]; rfl)
                        exact ⟨g_m243, by first | trivial | omega | (refine ⟨?_, ?_⟩ <;> omega)⟩
                  · skip
                    try have w14 : wr (z3_127 + (-1)) = z3_127 + (-1) := wr_id (by omega) (by omega)
                    intro z3_154 e_z3_154
                    have r_z3_154 : rg z3_154 := by rw [e_z3_154]; exact wr_rg _
                    refine ⟨fun s0_170 => 0 ≤ s0_170 ∧ s0_170 ≤ 10000, ?_, ?_⟩
                    · skip
                      refine ⟨fun hq => ?_, fun hq => ?_⟩
                      · skip
                        (first | trivial | omega | (refine ⟨?_, ?_⟩ <;> omega))
                      · skip
                        (first | trivial | omega | (refine ⟨?_, ?_⟩ <;> omega))
                    · intro s0_170 r_s0_170 hR_170
                      exact ⟨g_m_12, by first | trivial | omega | (refine ⟨?_, ?_⟩ <;> omega)⟩
                · skip
                  exact ⟨g_m_12, by first | trivial | omega | (refine ⟨?_, ?_⟩ <;> omega)⟩
              · skip
                refine ⟨fun hq => ?_, fun hq => ?_⟩
                · skip
                  refine ⟨fun s2_113 => True, ?_, ?_⟩
                  · skip
                    refine ⟨fun hq => ?_, fun hq => ?_⟩
                    · skip
                      refine ⟨⟨by omega, by omega⟩, ?_⟩
                      (first | trivial | omega | (refine ⟨?_, ?_⟩ <;> omega))
                    · skip
                      (first | trivial | omega | (refine ⟨?_, ?_⟩ <;> omega))
                  · intro s2_113 r_s2_113 hR_113
                    refine ⟨⟨by omega, by omega⟩, ?_⟩
                    intro m113 e_m113
                    have g_m113 : GX s15 m m113 := by rw [e_m113]; exact GX.wt g_m_12 (tw_lwr4 g_m_12.1 h_a (by first | assumption | omega)) (by rw [p0]; rfl)
                    try have w16 : wr (x3_12 + 1) = x3_12 + 1 := wr_id (by omega) (by omega)
                    intro z3_114 e_z3_114
                    have r_z3_114 : rg z3_114 := by rw [e_z3_114]; exact wr_rg _
                    exact ⟨g_m113, by first | trivial | omega | (refine ⟨?_, ?_⟩ <;> omega)⟩
                · skip
                  exact ⟨g_m_12, by first | trivial | omega | (refine ⟨?_, ?_⟩ <;> omega)⟩
            · intro y2_244 y3_244 m_244 r_y2_244 r_y3_244 hR_244
              obtain ⟨g_m_244, hR_244⟩ := hR_244
              try have w17 : wr (x4_12 + 1) = x4_12 + 1 := wr_id (by omega) (by omega)
              intro z4_244 e_z4_244
              have r_z4_244 : rg z4_244 := by rw [e_z4_244]; exact wr_rg _
              exact ⟨⟨g_m_244, by first | omega | (refine ⟨?_, ?_⟩ <;> omega) | trivial⟩, by (try dsimp only); omega⟩
          · skip
            refine ⟨fun s0_76 => True, ?_, ?_⟩
            · skip
              refine ⟨fun hq => ?_, fun hq => ?_⟩
              · skip
                (first | trivial | omega | (refine ⟨?_, ?_⟩ <;> omega))
              · skip
                try have w18 : wr (x3_12 - 1) = x3_12 - 1 := wr_id (by omega) (by omega)
                refine ⟨⟨by omega, by omega⟩, ?_⟩
                (first | trivial | omega | (refine ⟨?_, ?_⟩ <;> omega))
            · intro s0_76 r_s0_76 hR_76
              exact ⟨g_m_12, by first | trivial | omega | (refine ⟨?_, ?_⟩ <;> omega)⟩
    · intro   hR_250
      exact ⟨g_m_12, by first | trivial | omega | (refine ⟨?_, ?_⟩ <;> omega)⟩
-- TippedCrates$Drays.lookFrom(LTippedCrates$State;IIIII)V
set_option maxRecDepth 20000 in
theorem ct_3 {m : Mm} {a : Nat} {x2 : Int} {x3 : Int} {x4 : Int} {x5 : Int} {x6 : Int}  (T_m : Ty m) (h_a : isSt a) (r_x2 : rg x2) (r_x3 : rg x3) (r_x4 : rg x4) (r_x5 : rg x5) (r_x6 : rg x6) (p0 : 0 ≤ x2 ∧ x2 ≤ 2) (p1 : 0 ≤ x3 ∧ x3 ≤ 24) (p2 : 0 ≤ x4 ∧ x4 ≤ 3) : CV 2 3 [.ref 30, .ref a, iv x2, iv x3, iv x4, iv x5, iv x6] m (fun m2 => GX s12 m m2 ∧ (True)) := by
  refine br_3 h_a r_x2 r_x3 r_x4 r_x5 r_x6 ?_
  unfold P_3
  have g_m : GX s12 m m := ⟨T_m, fun _ _ _ => rfl, fun _ _ => rfl⟩
  refine CK.mono (ct_30   T_m r_x3 r_x4 (by omega) (by omega)) (by decide) ?_
  rintro m7 v7 r_v7 ⟨e_m7, h_m7⟩
  replace e_m7 := e_m7.symm
  subst e_m7
  refine ⟨⟨by omega, by omega⟩, ?_⟩
  refine ⟨⟨by omega, by omega⟩, ?_⟩
  have sxf2 := sx_2 (j := x4) ⟨by omega, by omega⟩
  try have w3 : wr ((rd m 16 (Int.toNat x3)) + (sx 2 x4)) = (rd m 16 (Int.toNat x3)) + (sx 2 x4) := wr_id (by omega) (by omega)
  intro m43 e_m43
  have g_m43 : GX s12 m m43 := by rw [e_m43]; exact GX.wt g_m (tw_12 T_m (wr_rg _)) (Eq.refl true)
  refine ⟨⟨by omega, by omega⟩, ?_⟩
  refine ⟨⟨by omega, by omega⟩, ?_⟩
  have sxf5 := sx_3 (j := x4) ⟨by omega, by omega⟩
  try have w6 : wr ((rd m43 17 (Int.toNat x3)) + (sx 3 x4)) = (rd m43 17 (Int.toNat x3)) + (sx 3 x4) := wr_id (by omega) (by omega)
  intro m63 e_m63
  have g_m63 : GX s12 m m63 := by rw [e_m63]; exact GX.wt g_m43 (tw_12 g_m43.1 (wr_rg _)) (Eq.refl true)
  refine ⟨fun s2_84 => True, ?_, ?_⟩
  · skip
    refine ⟨fun hq => ?_, fun hq => ?_⟩
    · skip
      refine ⟨⟨by omega, by omega⟩, ?_⟩
      have t7 := ty_sM g_m63.1 h_a (Int.toNat v7)
      (first | trivial | omega | (refine ⟨?_, ?_⟩ <;> omega))
    · skip
      (first | trivial | omega | (refine ⟨?_, ?_⟩ <;> omega))
  · intro s2_84 r_s2_84 hR_84
    intro m84 e_m84
    have g_m84 : GX s12 m m84 := by rw [e_m84]; exact GX.wt g_m63 (tw_12 g_m63.1 (by first | assumption | omega)) (Eq.refl true)
    intro m90 e_m90
    have g_m90 : GX s12 m m90 := by rw [e_m90]; exact GX.wt g_m84 (tw_12 g_m84.1 (by first | assumption | omega)) (Eq.refl true)
    intro m96 e_m96
    have g_m96 : GX s12 m m96 := by rw [e_m96]; exact GX.wt g_m90 (tw_12 g_m90.1 (by first | assumption | omega)) (Eq.refl true)
    refine ⟨⟨by omega, by omega⟩, ?_⟩
    intro m106 e_m106
    have g_m106 : GX s12 m m106 := by rw [e_m106]; exact GX.wt g_m96 (tw_12 g_m96.1 (rd_rg _ _ _)) (Eq.refl true)
    intro m115 e_m115
    have g_m115 : GX s12 m m115 := by rw [e_m115]; exact GX.wt g_m106 (tw_12 g_m106.1 (rd_rg _ _ _)) (Eq.refl true)
    intro m121 e_m121
    have g_m121 : GX s12 m m121 := by rw [e_m121]; exact GX.wt g_m115 (tw_12 g_m115.1 (by first | assumption | omega)) (Eq.refl true)
    intro m128 e_m128
    have g_m128 : GX s12 m m128 := by rw [e_m128]; exact GX.wt g_m121 (tw_12 g_m121.1 (by first | assumption | omega)) (Eq.refl true)
    exact ⟨g_m128, by first | trivial | omega | (refine ⟨?_, ?_⟩ <;> omega)⟩
-- TippedCrates$Drays.lookAt(LTippedCrates$State;II)V
set_option maxRecDepth 20000 in
theorem ct_2 {m : Mm} {a : Nat} {x2 : Int} {x3 : Int}  (T_m : Ty m) (h_a : isSt a) (r_x2 : rg x2) (r_x3 : rg x3) (p0 : 0 ≤ x2 ∧ x2 ≤ 2) (p1 : 0 ≤ x3 ∧ x3 ≤ 3) (p2 : 0 ≤ rd m (a + 2) (Int.toNat x2)) : CV 3 2 [.ref 30, .ref a, iv x2, iv x3] m (fun m2 => GX s12 m m2 ∧ (True)) := by
  refine br_2 h_a r_x2 r_x3 ?_
  unfold P_2
  have g_m : GX s12 m m := ⟨T_m, fun _ _ _ => rfl, fun _ _ => rfl⟩
  refine ⟨⟨by omega, by omega⟩, ?_⟩
  try have w1 : wr (x2 * 6) = x2 * 6 := wr_id (by omega) (by omega)
  have sxf2 := sx_1 (j := x3) ⟨by omega, by omega⟩
  try have w3 : wr ((wr (x2 * 6)) + (sx 1 x3)) = (wr (x2 * 6)) + (sx 1 x3) := wr_id (by omega) (by omega)
  refine ⟨⟨by omega, by omega⟩, ?_⟩
  have t4 := ty_sC T_m h_a (Int.toNat (wr ((wr (x2 * 6)) + (sx 1 x3))))
  intro z4_15 e_z4_15
  have r_z4_15 : rg z4_15 := by rw [e_z4_15]; exact (rd_rg _ _ _)
  refine ⟨⟨by omega, by omega⟩, ?_⟩
  have sxf5 := sx_0 (j := x3) ⟨by omega, by omega⟩
  try have w6 : wr ((wr (x2 * 6)) + (sx 0 x3)) = (wr (x2 * 6)) + (sx 0 x3) := wr_id (by omega) (by omega)
  refine ⟨⟨by omega, by omega⟩, ?_⟩
  have t7 := ty_sC T_m h_a (Int.toNat (wr ((wr (x2 * 6)) + (sx 0 x3))))
  intro z5_32 e_z5_32
  have r_z5_32 : rg z5_32 := by rw [e_z5_32]; exact (rd_rg _ _ _)
  refine ⟨⟨by omega, by omega⟩, ?_⟩
  have t8 := ty_sF T_m h_a (Int.toNat x2)
  refine CV.mono (ct_3   T_m h_a r_x2 (rd_rg _ _ _) r_x3 r_z4_15 r_z5_32 (by omega) (by omega) (by omega)) (by decide) ?_
  rintro m48 ⟨hx_m48, h_m48⟩
  have g_m48 : GX s12 m m48 := gx_in g_m hx_m48 in_s12_s12
  exact ⟨g_m48, by first | trivial | omega | (refine ⟨?_, ?_⟩ <;> omega)⟩
-- TippedCrates$Drays.costNow()I
set_option maxRecDepth 20000 in
theorem ct_4 {m : Mm}   (T_m : Ty m)  (p0 : lwOk m 11) : CK 2 4 [.ref 30] m (fun m2 v => GX s15 m m2 ∧ (0 ≤ v ∧ v ≤ 99)) := by
  refine br_4  ?_
  unfold P_4
  have g_m : GX s15 m m := ⟨T_m, fun _ _ _ => rfl, fun _ _ => rfl⟩
  refine CK.mono (ct_18   T_m lw_11 (by unfold rg; decide) rfl (by omega) p0) (by decide) ?_
  rintro m11 v11 r_v11 ⟨hx_m11, h_m11⟩
  have g_m11 : GX s15 m m11 := gx_in g_m hx_m11 in_s15_s15
  exact ⟨g_m11, by first | trivial | omega | (refine ⟨?_, ?_⟩ <;> omega)⟩
-- TippedCrates$Drays.slipNow()I
set_option maxRecDepth 20000 in
theorem ct_5 {m : Mm}   (T_m : Ty m)  (p0 : lwOk m 11) : CK 2 5 [.ref 30] m (fun m2 v => GX s15 m m2 ∧ (0 ≤ v ∧ v ≤ 100)) := by
  refine br_5  ?_
  unfold P_5
  have g_m : GX s15 m m := ⟨T_m, fun _ _ _ => rfl, fun _ _ => rfl⟩
  refine CK.mono (ct_18   T_m lw_11 (by unfold rg; decide) rfl (by omega) p0) (by decide) ?_
  rintro m11 v11 r_v11 ⟨hx_m11, h_m11⟩
  have g_m11 : GX s15 m m11 := gx_in g_m hx_m11 in_s15_s15
  exact ⟨g_m11, by first | trivial | omega | (refine ⟨?_, ?_⟩ <;> omega)⟩
-- TippedCrates$Drays.holdsNow(I)Z
set_option maxRecDepth 20000 in
theorem ct_6 {m : Mm} {x1 : Int}  (T_m : Ty m) (r_x1 : rg x1) (p0 : lwOk m 11) (p1 : 0 ≤ x1 ∧ x1 ≤ 3) : CK 2 6 [.ref 30, iv x1] m (fun m2 v => GX s15 m m2 ∧ (v = 0 ∨ v = 1)) := by
  refine br_6 r_x1 ?_
  unfold P_6
  have g_m : GX s15 m m := ⟨T_m, fun _ _ _ => rfl, fun _ _ => rfl⟩
  refine CK.mono (ct_18   T_m lw_11 r_x1 rfl (by omega) p0) (by decide) ?_
  rintro m8 v8 r_v8 ⟨hx_m8, h_m8⟩
  have g_m8 : GX s15 m m8 := gx_in g_m hx_m8 in_s15_s15
  refine ⟨fun s0_19 => (s0_19 = 0 ∨ s0_19 = 1), ?_, ?_⟩
  · skip
    refine ⟨fun hq => ?_, fun hq => ?_⟩
    · skip
      (first | trivial | omega | (refine ⟨?_, ?_⟩ <;> omega))
    · skip
      (first | trivial | omega | (refine ⟨?_, ?_⟩ <;> omega))
  · intro s0_19 r_s0_19 hR_19
    exact ⟨by omega, ⟨g_m8, by first | trivial | omega | (refine ⟨?_, ?_⟩ <;> omega)⟩⟩
-- TippedCrates$Drays.canTip(LTippedCrates$State;II)Z
set_option maxRecDepth 20000 in
theorem ct_1 {m : Mm} {a : Nat} {x2 : Int} {x3 : Int}  (T_m : Ty m) (h_a : isSt a) (r_x2 : rg x2) (r_x3 : rg x3) (p0 : 0 ≤ x2 ∧ x2 ≤ 2) (p1 : 0 ≤ x3 ∧ x3 ≤ 3) (p2 : 0 ≤ rd m (a + 2) (Int.toNat x2)) : CK 2 1 [.ref 30, .ref a, iv x2, iv x3] m (fun m2 v => m2 = m ∧ ((v = 1 ∧ canT m a x2 x3) ∨ (v = 0 ∧ ¬ canT m a x2 x3))) := by
  refine br_1 h_a r_x2 r_x3 ?_
  unfold P_1
  refine ⟨⟨by omega, by omega⟩, ?_⟩
  have t1 := ty_sF T_m h_a (Int.toNat x2)
  refine CK.mono (ct_30   T_m (rd_rg _ _ _) r_x3 (by omega) (by omega)) (by decide) ?_
  rintro m11 v11 r_v11 ⟨e_m11, h_m11⟩
  replace e_m11 := e_m11.symm
  subst e_m11
  obtain ⟨hv11, hb11⟩ := h_m11
  refine ⟨fun s0_49 m_49 => m_49 = m ∧ ((s0_49 = 1 ∧ canT m a x2 x3) ∨ (s0_49 = 0 ∧ ¬ canT m a x2 x3)), ?_, ?_⟩
  · skip
    refine ⟨fun m_48 => m_48 = m ∧ (¬ canT m a x2 x3), ?_, ?_⟩
    · skip
      refine ⟨fun hq => ?_, fun hq => ?_⟩
      · skip
        exact ⟨rfl, by first | exact fun w => w.1 (by rw [← hv11]; exact hq) | exact fun w => w.2.1 (by rw [← hv11]; omega) | (rcases h_m37 with w | w; exact fun z => z.2.2 (Int.toNat v37) (by omega) (by rw [← hv11]; exact w.2.2.1); omega)⟩
      · skip
        refine CK.mono (ct_31   r_v11) (by decide) ?_
        rintro m28 v28 r_v28 ⟨e_m28, h_m28⟩
        replace e_m28 := e_m28.symm
        subst e_m28
        refine ⟨fun hq => ?_, fun hq => ?_⟩
        · skip
          exact ⟨rfl, by first | exact fun w => w.1 (by rw [← hv11]; exact hq) | exact fun w => w.2.1 (by rw [← hv11]; omega) | (rcases h_m37 with w | w; exact fun z => z.2.2 (Int.toNat v37) (by omega) (by rw [← hv11]; exact w.2.2.1); omega)⟩
        · skip
          refine CK.mono (ct_77   T_m h_a r_v11) (by decide) ?_
          rintro m37 v37 r_v37 ⟨e_m37, h_m37⟩
          replace e_m37 := e_m37.symm
          subst e_m37
          refine ⟨fun hq => ?_, fun hq => ?_⟩
          · skip
            exact ⟨rfl, by first | exact fun w => w.1 (by rw [← hv11]; exact hq) | exact fun w => w.2.1 (by rw [← hv11]; omega) | (rcases h_m37 with w | w; exact fun z => z.2.2 (Int.toNat v37) (by omega) (by rw [← hv11]; exact w.2.2.1); omega)⟩
          · skip
            exact ⟨rfl, by first | exact Or.inr ⟨rfl, hR_48⟩ | (refine Or.inl ⟨rfl, ?_, ?_, ?_⟩; (rw [← hv11]; omega); (rw [← hv11]; omega); (rw [← hv11]; rcases h_m37 with w | w; omega; exact w.2))⟩
    · intro m_48  hR_48
      obtain ⟨e_m_48, hR_48⟩ := hR_48
      replace e_m_48 := e_m_48.symm
      subst e_m_48
      exact ⟨rfl, by first | exact Or.inr ⟨rfl, hR_48⟩ | (refine Or.inl ⟨rfl, ?_, ?_, ?_⟩; (rw [← hv11]; omega); (rw [← hv11]; omega); (rw [← hv11]; rcases h_m37 with w | w; omega; exact w.2))⟩
  · intro s0_49 m_49 r_s0_49 hR_49
    obtain ⟨e_m_49, hR_49⟩ := hR_49
    replace e_m_49 := e_m_49.symm
    subst e_m_49
    exact ⟨by omega, ⟨rfl, by first | exact hR_49⟩⟩
-- TippedCrates$Drays.lot(III)I
set_option maxRecDepth 20000 in
theorem ct_10 {m : Mm} {x0 : Int} {x1 : Int} {x2 : Int}   (r_x0 : rg x0) (r_x1 : rg x1) (r_x2 : rg x2) (p0 : 1 ≤ x0 ∧ x0 ≤ 100) : CK 2 10 [iv x0, iv x1, iv x2] m (fun m2 v => m2 = m ∧ (v = lotI x0 x1 x2 ∧ 0 ≤ v ∧ v < x0)) := by
  refine br_10 r_x0 r_x1 r_x2 ?_
  unfold P_10
  refine CK.mono (ct_11   r_x1 (by unfold rg; decide)) (by decide) ?_
  rintro m4 v4 r_v4 ⟨e_m4, h_m4⟩
  replace e_m4 := e_m4.symm
  subst e_m4
  refine CK.mono (ct_11   r_v4 r_x2) (by decide) ?_
  rintro m8 v8 r_v8 ⟨e_m8, h_m8⟩
  replace e_m8 := e_m8.symm
  subst e_m8
  refine ⟨fun s0_26 => s0_26 = lotI x0 x1 x2, ?_, ?_⟩
  · skip
    refine ⟨fun hq => ?_, fun hq => ?_⟩
    · skip
      refine ⟨by omega, ?_⟩
      (first | (rw [h_m8, h_m4]; rfl) | omega)
    · skip
      (first | (rw [h_m8, h_m4]; rfl) | omega)
  · intro s0_26 r_s0_26 hR_26
    exact ⟨rfl, by (refine ⟨hR_26, ?_⟩; rw [hR_26]; exact lot_b p0)⟩
-- TippedCrates$Drays.tipOver(LTippedCrates$State;II)V
set_option maxRecDepth 20000 in
theorem ct_7 {m : Mm} {a : Nat} {x2 : Int} {x3 : Int}  (T_m : Ty m) (h_a : isSt a) (r_x2 : rg x2) (r_x3 : rg x3) (p0 : okC m a) (p1 : 0 ≤ x2 ∧ x2 < rd m a 4) (p2 : 0 ≤ x3 ∧ x3 ≤ 3) (p3 : lwOk m 11) : CV 4 7 [.ref 30, .ref a, iv x2, iv x3] m (fun m2 => GX (sT a) m m2 ∧ (okC m2 a)) := by
  refine br_7 h_a r_x2 r_x3 ?_
  unfold P_7
  have g_m : GX (sT a) m m := ⟨T_m, fun _ _ _ => rfl, fun _ _ => rfl⟩
  have t4 := ty_s4 T_m h_a
  have hfl := p0.1 (Int.toNat x2) (by omega)
  refine ⟨⟨by omega, by omega⟩, ?_⟩
  have t1 := ty_sF T_m h_a (Int.toNat x2)
  refine CK.mono (ct_30   T_m (rd_rg _ _ _) r_x3 (by omega) (by omega)) (by decide) ?_
  rintro m11 v11 r_v11 ⟨e_m11, h_m11⟩
  replace e_m11 := e_m11.symm
  subst e_m11
  refine ⟨fun hq => ?_, fun hq => ?_⟩
  · skip
    refine CV.mono (ct_2   T_m h_a r_x2 r_x3 (by omega) (by omega) (by omega)) (by decide) ?_
    rintro m27 ⟨hx_m27, h_m27⟩
    have g_m27 : GX (sT a) m m27 := gx_in g_m hx_m27 in_s12_sT
    have f27 : ∀ i c, a < i → rd m27 i c = rd m i c := fun i c hi => hx_m27.2.1 i c (nb_ne (by have := h_a.1; omega))
    have l27 := lwOk_12 p3 hx_m27
    refine CK.mono (ct_6   g_m27.1 (by unfold rg; decide) l27 (by omega)) (by decide) ?_
    rintro m32 v32 r_v32 ⟨hx_m32, h_m32⟩
    have g_m32 : GX (sT a) m m32 := gx_in g_m27 hx_m32 in_s15_sT
    have f32 : ∀ i c, a < i → rd m32 i c = rd m i c := fun i c hi => (hx_m32.2.1 i c (nb_ne (by have := h_a.1; omega))).trans (f27 i c hi)
    have l32 := lwOk_15 l27 hx_m32
    refine ⟨fun s0_55 m_55 => GX (sT a) m m_55 ∧ ((s0_55 = 0 ∨ s0_55 = 1) ∧ lwOk m_55 11 ∧ ∀ i c, a < i → rd m_55 i c = rd m i c), ?_, ?_⟩
    · skip
      refine ⟨fun m_54 => GX (sT a) m m_54 ∧ (lwOk m_54 11 ∧ ∀ i c, a < i → rd m_54 i c = rd m i c), ?_, ?_⟩
      · skip
        refine ⟨fun hq => ?_, fun hq => ?_⟩
        · skip
          exact ⟨g_m32, by first | exact ⟨l44, f44⟩ | exact ⟨l32, f32⟩⟩
        · skip
          refine CK.mono (ct_6   g_m32.1 (by unfold rg; decide) l32 (by omega)) (by decide) ?_
          rintro m44 v44 r_v44 ⟨hx_m44, h_m44⟩
          have g_m44 : GX (sT a) m m44 := gx_in g_m32 hx_m44 in_s15_sT
          have f44 : ∀ i c, a < i → rd m44 i c = rd m i c := fun i c hi => (hx_m44.2.1 i c (nb_ne (by have := h_a.1; omega))).trans (f32 i c hi)
          have l44 := lwOk_15 l32 hx_m44
          refine ⟨fun hq => ?_, fun hq => ?_⟩
          · skip
            exact ⟨g_m44, by first | exact ⟨l44, f44⟩ | exact ⟨l32, f32⟩⟩
          · skip
            exact ⟨g_m44, by first | exact ⟨Or.inr rfl, l44, f44⟩ | exact ⟨Or.inl rfl, hR_54.1, hR_54.2⟩⟩
      · intro m_54  hR_54
        obtain ⟨g_m_54, hR_54⟩ := hR_54
        exact ⟨g_m_54, by first | exact ⟨Or.inr rfl, l44, f44⟩ | exact ⟨Or.inl rfl, hR_54.1, hR_54.2⟩⟩
    · intro s0_55 m_55 r_s0_55 hR_55
      obtain ⟨g_m_55, hR_55⟩ := hR_55
      refine CK.mono (ct_4   g_m_55.1 hR_55.2.1) (by decide) ?_
      rintro m63 v63 r_v63 ⟨hx_m63, h_m63⟩
      have g_m63 : GX (sT a) m m63 := gx_in g_m_55 hx_m63 in_s15_sT
      have f63 : ∀ i c, a < i → rd m63 i c = rd m i c := fun i c hi => (hx_m63.2.1 i c (nb_ne (by have := h_a.1; omega))).trans (hR_55.2.2 i c hi)
      have z63 : rd m63 a 4 = rd m a 4 := g_m63.2.1 a 4 (sT_4 h_a)
      try have w3 : wr ((rd m_55 a 6) + v63) = (rd m_55 a 6) + v63 := wr_id (by omega) (by omega)
      intro m67 e_m67
      have g_m67 : GX (sT a) m m67 := by rw [e_m67]; exact GX.wt g_m63 (tw_s6 g_m63.1 h_a (wr_rg _)) sT_6
      refine ⟨⟨by omega, by omega⟩, ?_⟩
      intro m77 e_m77
      have g_m77 : GX (sT a) m m77 := by rw [e_m77]; exact GX.wt g_m67 (tw_sF g_m67.1 h_a ⟨by omega, by omega⟩) (sT_w (by omega))
      refine ⟨⟨by omega, by omega⟩, ?_⟩
      refine ⟨⟨by omega, by omega⟩, ?_⟩
      try have w5 : wr ((rd m77 (a + 4) (Int.toNat x2)) + 1) = (rd m77 (a + 4) (Int.toNat x2)) + 1 := wr_id (by omega) (by omega)
      intro m87 e_m87
      have g_m87 : GX (sT a) m m87 := by rw [e_m87]; exact GX.wt g_m77 (tw_sT g_m77.1 h_a (wr_rg _)) (sT_w (by omega))
      have c87 : rd m87 a 4 = rd m a 4 := g_m87.2.1 a 4 (sT_4 h_a)
      have f87 : ∀ c, rd m87 (a + 3) c = rd m (a + 3) c := fun c => by
        rw [e_m87, rd_wt, if_neg (by omega), e_m77, rd_wt, if_neg (by omega), e_m67, rd_wt, if_neg (by omega)]; exact f63 _ c (by omega)
      have h87 : ∀ c : Nat, 0 ≤ rd m (a + 2) c → 0 ≤ rd m87 (a + 2) c := fun c hc => by
        rw [e_m87, rd_wt, if_neg (by omega), e_m77, rd_wt]
        split
        · rw [wr_id (by omega) (by omega)]; omega
        · rw [e_m67, rd_wt, if_neg (by omega), f63 _ c (by omega)]; exact hc
      have o87 : okC m87 a := ⟨fun c hc => h87 c (p0.1 c (by omega)), fun k hk => by rw [f87]; exact p0.2 k (by omega)⟩
      try have w6 : wr (x2 * 6) = x2 * 6 := wr_id (by omega) (by omega)
      refine CV.mono (ct_167   (st_3 h_a) (wr_rg _) r_x3 (by omega) (by omega)) (by decide) ?_
      rintro m97 ⟨hx_m97, h_m97⟩
      have g_m97 : GX (sT a) m m97 := by rw [hx_m97]; exact g_tf g_m87 h_a (fun _ => sT_w (by omega))
      have sxa := sx_0 (j := x3) ⟨by omega, by omega⟩
      have sxb := sx_1 (j := x3) ⟨by omega, by omega⟩
      have o97 : okC m97 a := by rw [hx_m97]; exact okC_tf o87 (by omega) (by omega) (by omega)
      have c97 : rd m97 a 4 = rd m a 4 := g_m97.2.1 a 4 (sT_4 h_a)
      try have w7 : wr ((wr (x2 * 6)) + 1) = (wr (x2 * 6)) + 1 := wr_id (by omega) (by omega)
      intro z7_106 e_z7_106
      have r_z7_106 : rg z7_106 := by rw [e_z7_106]; exact (wr_rg _)
      have i97 := o97.2 (Int.toNat z7_106) (by omega)
      refine ⟨fun m_149 => GX (sT a) m m_149 ∧ (okC m_149 a), ?_, ?_⟩
      · skip
        refine ⟨fun hq => ?_, fun hq => ?_⟩
        · skip
          refine ⟨fun hq => ?_, fun hq => ?_⟩
          · skip
            exact ⟨g_m97, by first | exact o97 | (rw [e_m148]; exact okC_w3 o97 ⟨by omega, by omega⟩) | (rw [e_m126]; exact okC_wt o97 (by omega) (by omega) (by omega))⟩
          · skip
            refine ⟨⟨by omega, by omega⟩, ?_⟩
            refine ⟨⟨by omega, by omega⟩, ?_⟩
            have t8 := ty_sM g_m97.1 h_a (Int.toNat v11)
            intro m148 e_m148
            have g_m148 : GX (sT a) m m148 := by rw [e_m148]; exact GX.wt g_m97 (tw_sC g_m97.1 h_a ⟨by omega, by omega⟩) (sT_w (by omega))
            exact ⟨g_m148, by first | exact o97 | (rw [e_m148]; exact okC_w3 o97 ⟨by omega, by omega⟩) | (rw [e_m126]; exact okC_wt o97 (by omega) (by omega) (by omega))⟩
        · skip
          refine ⟨⟨by omega, by omega⟩, ?_⟩
          refine ⟨⟨by omega, by omega⟩, ?_⟩
          have t9 := ty_sC g_m97.1 h_a (Int.toNat z7_106)
          intro m126 e_m126
          have g_m126 : GX (sT a) m m126 := by rw [e_m126]; exact GX.wt g_m97 (tw_sM g_m97.1 h_a ⟨by omega, by omega⟩) (sT_w (by omega))
          exact ⟨g_m126, by first | exact o97 | (rw [e_m148]; exact okC_w3 o97 ⟨by omega, by omega⟩) | (rw [e_m126]; exact okC_wt o97 (by omega) (by omega) (by omega))⟩
      · intro m_149  hR_149
        obtain ⟨g_m_149, hR_149⟩ := hR_149
        exact ⟨g_m_149, by first | exact hR_149 | exact p0⟩
  · skip
    exact ⟨g_m, by first | exact hR_149 | exact p0⟩
-- TippedCrates$Drays.passFor(LTippedCrates$State;II)V
set_option maxRecDepth 20000 in
theorem ct_9 {m : Mm} {a : Nat} {x2 : Int} {x3 : Int}  (T_m : Ty m) (h_a : isSt a) (r_x2 : rg x2) (r_x3 : rg x3) (p0 : okC m a) (p1 : 0 ≤ x2 ∧ x2 < rd m a 4) (p2 : lwOk m 11) : CV 5 9 [.ref 30, .ref a, iv x2, iv x3] m (fun m2 => GX (sT a) m m2 ∧ (okC m2 a)) := by
  refine br_9 h_a r_x2 r_x3 ?_
  unfold P_9
  have g_m : GX (sT a) m m := ⟨T_m, fun _ _ _ => rfl, fun _ _ => rfl⟩
  have t4 := ty_s4 T_m h_a
  have hfl := p0.1 (Int.toNat x2) (by omega)
  try have w2 : wr (8 * (rd m a 5)) = 8 * (rd m a 5) := wr_id (by omega) (by omega)
  try have w3 : wr ((wr (8 * (rd m a 5))) + x2) = (wr (8 * (rd m a 5))) + x2 := wr_id (by omega) (by omega)
  intro z4_9 e_z4_9
  have r_z4_9 : rg z4_9 := by rw [e_z4_9]; exact (wr_rg _)
  refine CK.mono (ct_10   (by unfold rg; decide) r_x3 r_z4_9 (by omega)) (by decide) ?_
  rintro m15 v15 r_v15 ⟨e_m15, h_m15⟩
  replace e_m15 := e_m15.symm
  subst e_m15
  obtain ⟨-, hb15⟩ := h_m15
  refine CK.mono (ct_1   T_m h_a r_x2 r_v15 (by omega) (by omega) (by omega)) (by decide) ?_
  rintro m25 v25 r_v25 ⟨e_m25, h_m25⟩
  replace e_m25 := e_m25.symm
  subst e_m25
  refine ⟨fun hq => ?_, fun hq => ?_⟩
  · skip
    refine CV.mono (ct_7   T_m h_a r_x2 r_v15 p0 (by omega) (by omega) p2) (by decide) ?_
    rintro m37 ⟨hx_m37, h_m37⟩
    have g_m37 : GX (sT a) m m37 := gx_in g_m hx_m37 (fun _ _ h => h)
    have c37 : rd m37 a 4 = rd m a 4 := hx_m37.2.1 a 4 (sT_4 h_a)
    have q37 := h_m37.1 (Int.toNat x2) (by omega)
    have l37 := lwOk_sT p2 hx_m37 h_a
    refine CK.mono (ct_1   g_m37.1 h_a r_x2 r_v15 (by omega) (by omega) (by omega)) (by decide) ?_
    rintro m45 v45 r_v45 ⟨e_m45, h_m45⟩
    replace e_m45 := e_m45.symm
    subst e_m45
    refine ⟨fun hq => ?_, fun hq => ?_⟩
    · skip
      refine CV.mono (ct_2   g_m37.1 h_a r_x2 r_v15 (by omega) (by omega) (by omega)) (by decide) ?_
      rintro m57 ⟨hx_m57, h_m57⟩
      have g_m57 : GX (sT a) m m57 := gx_in g_m37 hx_m57 in_s12_sT
      have o57 : okC m57 a := okC_fr h_m37 (fun i c hi => hx_m57.2.1 i c (nb_ne (by have := h_a.1; omega)))
      try have w4 : wr (100000 + z4_9) = 100000 + z4_9 := wr_id (by omega) (by omega)
      refine CK.mono (ct_10   (by unfold rg; decide) r_x3 (wr_rg _) (by omega)) (by decide) ?_
      rintro m68 v68 r_v68 ⟨e_m68, h_m68⟩
      replace e_m68 := e_m68.symm
      subst e_m68
      refine CK.mono (ct_5   g_m57.1 (lwOk_12 l37 hx_m57)) (by decide) ?_
      rintro m72 v72 r_v72 ⟨hx_m72, h_m72⟩
      have g_m72 : GX (sT a) m m72 := gx_in g_m57 hx_m72 in_s15_sT
      have o72 : okC m72 a := okC_fr o57 (fun i c hi => hx_m72.2.1 i c (nb_ne (by have := h_a.1; omega)))
      have c72 : rd m72 a 4 = rd m a 4 := g_m72.2.1 a 4 (sT_4 h_a)
      refine ⟨fun m_86 => GX (sT a) m m_86 ∧ (okC m_86 a), ?_, ?_⟩
      · skip
        refine ⟨fun hq => ?_, fun hq => ?_⟩
        · skip
          exact ⟨g_m72, by first | exact h_m83 | exact o72⟩
        · skip
          refine CV.mono (ct_7   g_m72.1 h_a r_x2 r_v15 o72 ⟨by omega, by omega⟩ (by omega) (lwOk_15 (lwOk_12 l37 hx_m57) hx_m72)) (by decide) ?_
          rintro m83 ⟨hx_m83, h_m83⟩
          have g_m83 : GX (sT a) m m83 := gx_in g_m72 hx_m83 (fun _ _ h => h)
          exact ⟨g_m83, by first | exact h_m83 | exact o72⟩
      · intro m_86  hR_86
        obtain ⟨g_m_86, hR_86⟩ := hR_86
        exact ⟨g_m_86, by first | exact hR_86 | exact h_m37 | exact p0⟩
    · skip
      exact ⟨g_m37, by first | exact hR_86 | exact h_m37 | exact p0⟩
  · skip
    exact ⟨g_m, by first | exact hR_86 | exact h_m37 | exact p0⟩
-- TippedCrates$Drays.passMinutes(LTippedCrates$State;II)V
set_option maxRecDepth 20000 in
theorem ct_8 {m : Mm} {a : Nat} {x2 : Int} {x3 : Int}  (T_m : Ty m) (h_a : isSt a) (r_x2 : rg x2) (r_x3 : rg x3) (p0 : okC m a) (p1 : lwOk m 11) (p2 : x2 ≤ 60) : CV 6 8 [.ref 30, .ref a, iv x2, iv x3] m (fun m2 => GX (sT a) m m2 ∧ (okC m2 a ∧ lwOk m2 11)) := by
  refine br_8 h_a r_x2 r_x3 ?_
  unfold P_8
  have g_m : GX (sT a) m m := ⟨T_m, fun _ _ _ => rfl, fun _ _ => rfl⟩
  have t4 := ty_s4 T_m h_a
  refine ⟨fun x4_3 m_3 => GX (sT a) m m_3 ∧ ((0 ≤ x4_3 ∧ x4_3 ≤ 61) ∧ lwOk m_3 11 ∧ okC m_3 a), fun x4_3 m_3 => Int.toNat (61 - x4_3), ?_, ?_⟩
  · exact ⟨g_m, by exact ⟨by omega, p1, p0⟩⟩
  · intro x4_3 m_3 r_x4_3 hI_3
    obtain ⟨g_m_3, hI_3⟩ := hI_3
    refine ⟨fun hq => ?_, fun hq => ?_⟩
    · skip
      exact ⟨g_m_3, by exact ⟨hI_3.2.2, hI_3.2.1⟩⟩
    · skip
      refine ⟨fun x5_12 m_12 => GX (sT a) m m_12 ∧ ((0 ≤ x5_12 ∧ x5_12 ≤ 3) ∧ lwOk m_12 11 ∧ okC m_12 a), fun x5_12 m_12 => Int.toNat (3 - x5_12), ?_, ?_⟩
      · exact ⟨g_m_3, by exact ⟨by omega, hI_3.2⟩⟩
      · intro x5_12 m_12 r_x5_12 hI_12
        obtain ⟨g_m_12, hI_12⟩ := hI_12
        have t1 := ty_s4 g_m_12.1 h_a
        refine ⟨fun hq => ?_, fun hq => ?_⟩
        · skip
          try have w3 : wr ((rd m_12 a 5) + 1) = (rd m_12 a 5) + 1 := wr_id (by omega) (by omega)
          intro m42 e_m42
          have g_m42 : GX (sT a) m m42 := by rw [e_m42]; exact GX.wt g_m_12 (tw_s5 g_m_12.1 h_a (wr_rg _)) sT_5
          try have w4 : wr (x4_3 + 1) = x4_3 + 1 := wr_id (by omega) (by omega)
          intro z4_45 e_z4_45
          have r_z4_45 : rg z4_45 := by rw [e_z4_45]; exact wr_rg _
          have k42 : lwOk m42 11 := by rw [e_m42]; exact lwOk_fr hI_12.2.1 (by rw [rd_wt, if_neg (by have := h_a.1; omega)]) (fun j => by rw [rd_wt, if_neg (by have := h_a.1; omega)])
          have o42 : okC m42 a := by rw [e_m42]; exact okC_wt hI_12.2.2 (by omega) (by omega) (by omega)
          exact ⟨⟨g_m42, by exact ⟨by omega, k42, o42⟩⟩, by (try dsimp only); omega⟩
        · skip
          refine CV.mono (ct_9   g_m_12.1 h_a r_x5_12 r_x3 hI_12.2.2 (by omega) hI_12.2.1) (by decide) ?_
          rintro m26 ⟨hx_m26, h_m26⟩
          have g_m26 : GX (sT a) m m26 := gx_in g_m_12 hx_m26 (fun _ _ h => h)
          try have w5 : wr (x5_12 + 1) = x5_12 + 1 := wr_id (by omega) (by omega)
          intro z5_29 e_z5_29
          have r_z5_29 : rg z5_29 := by rw [e_z5_29]; exact wr_rg _
          exact ⟨⟨g_m26, by exact ⟨by omega, lwOk_sT hI_12.2.1 hx_m26 h_a, h_m26⟩⟩, by (try dsimp only); omega⟩
