/-- the four laws stand in the rows behind b as E tells them -/
def LSd (m : Mm) (b : Nat) (E : Int → List (Rp × Rp × Rp) × Rp) : Prop := ∀ k : Int, 0 ≤ k → k < 4 → wfE (E k) ∧ 0 ≤ rd m (b + 3) (Int.toNat k) ∧ rd m (b + 3) (Int.toNat k) + ((lc (rd m (b + 3) (Int.toNat k)) (E k).1 (E k).2).length : Int) ≤ rd m b 4 ∧ sgC m (b + 2) (rd m (b + 3) (Int.toNat k)) (lc (rd m (b + 3) (Int.toNat k)) (E k).1 (E k).2)
theorem lsd_k {m : Mm} {E : Int → List (Rp × Rp × Rp) × Rp} (L : LSd m 20 E) {k : Int} (h1 : 0 ≤ k) (h2 : k < 4) : wfE (E k) ∧ 0 ≤ rd m 23 (Int.toNat k) ∧ rd m 23 (Int.toNat k) + ((lc (rd m 23 (Int.toNat k)) (E k).1 (E k).2).length : Int) ≤ rd m 20 4 ∧ sgC m 22 (rd m 23 (Int.toNat k)) (lc (rd m 23 (Int.toNat k)) (E k).1 (E k).2) := L k h1 h2
def dE (k : Int) : List (Rp × Rp × Rp) × Rp := ([], [(0, dfl k)])
theorem dfl_b (k : Int) : 0 ≤ dfl k ∧ dfl k ≤ 1 := by
  unfold dfl
  split <;> omega
theorem dE_wf (k : Int) : wfE (dE k) := ⟨fun _ h => absurd h List.not_mem_nil, ⟨by have := dfl_b k; exact ⟨this.1, by show dfl k ≤ 9999; omega⟩, by
  show if (0 : Int) < 2 then _ else _
  rw [if_pos (by decide)]
  exact ⟨Int.le_refl _, by decide, fun z => absurd z (by show ¬ (0 : Int) = 1; decide), rfl⟩⟩⟩
theorem ls_fr {m m2 : Mm} {b : Nat} {E : Int → List (Rp × Rp × Rp) × Rp} (h : LSd m b E) (e4 : rd m2 b 4 = rd m b 4) (e2 : ∀ j, rd m2 (b + 2) j = rd m (b + 2) j) (e3 : ∀ j, rd m2 (b + 3) j = rd m (b + 3) j) : LSd m2 b E := fun k h1 h2 => by
  obtain ⟨w, a, c, d⟩ := h k h1 h2
  rw [e3, e4]
  exact ⟨w, a, c, sg_fr a (fun j _ _ => e2 j) d⟩
theorem ls_wt {m m2 : Mm} {i j : Nat} {v : Int} {E : Int → List (Rp × Rp × Rp) × Rp} (h : LSd m 11 E) (hi : ¬ (i = 11 ∨ i = 13 ∨ i = 14)) (e : m2 = wt m i j v) : LSd m2 11 E :=
  ls_fr h (by rw [e, rd_wt, if_neg (by omega)]) (fun j => by rw [e, rd_wt, if_neg (by omega)]) (fun j => by rw [e, rd_wt, if_neg (by omega)])
theorem ls_cp {m m14 m28 m36 : Mm} {a b : Nat} {E : Int → List (Rp × Rp × Rp) × Rp} (p : a = 11 ∧ b = 20) (ts : 0 ≤ rd m b 4 ∧ rd m b 4 ≤ 420) (e14 : m14 = cpm m (b + 2) 0 (a + 2) 0 (Int.toNat (rd m b 4))) (e28 : m28 = cpm m14 (b + 3) 0 (a + 3) 0 4) (e36 : m36 = wt m28 a 4 (rd m28 b 4)) (h : LSd m b E) : LSd m36 a E := fun k h1 h2 => by
  obtain ⟨w, x, c, d⟩ := h k h1 h2
  have s28 : rd m28 b 4 = rd m b 4 := by rw [e28, rd_cpm, if_neg (by omega), e14, rd_cpm, if_neg (by omega)]
  have e4 : rd m36 a 4 = rd m b 4 := by rw [e36, rd_wt, if_pos ⟨rfl, rfl⟩, wr_i (rd_rg _ _ _), s28]
  have e3 : rd m36 (a + 3) (Int.toNat k) = rd m (b + 3) (Int.toNat k) := by
    rw [e36, rd_wt, if_neg (by omega), e28, rd_cpm, if_pos (by omega), e14, rd_cpm, if_neg (by omega)]; rfl
  have e2 : ∀ j : Nat, (j : Int) < rd m b 4 → rd m36 (a + 2) j = rd m (b + 2) j := fun j hj => by
    rw [e36, rd_wt, if_neg (by omega), e28, rd_cpm, if_neg (by omega), e14, rd_cpm, if_pos (by omega)]; rfl
  rw [e3, e4]
  exact ⟨w, x, c, sg_fr x (fun j _ q => e2 j (by omega)) d⟩
theorem ls_cl {m m2 : Mm} (h : clP m 20 4) (e4 : rd m2 20 4 = rd m 20 4) (e2 : ∀ j, rd m2 22 j = rd m 22 j) (e3 : ∀ j, rd m2 23 j = rd m 23 j) : LSd m2 20 dE ∧ rd m2 20 4 = 8 := by
  obtain ⟨a, c⟩ := h
  refine ⟨fun k h1 h2 => ?_, by omega⟩
  obtain ⟨c1, c2, c3⟩ := c k h1 h2
  rw [e3, e4, c1]
  have n : ((lc (2 * k) (dE k).1 (dE k).2).length : Int) = 2 := rfl
  refine ⟨dE_wf k, by omega, by omega, ?_, ?_, trivial⟩
  · rw [e2, c2]
    show dfl k * 8 = dfl k * 8 + 0
    omega
  · rw [e2, c3]
    rfl
/-- a sentence, a text: the laws told -/
def qStep (X : Tk) (s : Ps) (E : Int → List (Rp × Rp × Rp) × Rp) : Int → List (Rp × Rp × Rp) × Rp := if 4 ≤ X 0 (s 0 0) ∧ X 0 (s 0 0) ≤ 7 then fun k => if k = X 0 (s 0 0) - 4 then LT (X 0) (X 2) 4 (s 0 0 + 2) else E k else E
def qRun (X : Tk) : Nat → Ps → (Int → List (Rp × Rp × Rp) × Rp) → Int → List (Rp × Rp × Rp) × Rp
  | 0, _, E => E
  | n + 1, s, E => if s 0 1 = 0 ∧ ¬ X 0 (s 0 0) = 23 then qRun X n (pStep X s) (qStep X s E) else E
theorem qrun_st {X : Tk} {n : Nat} {s : Ps} {E : Int → List (Rp × Rp × Rp) × Rp} (h : s 0 1 = 0 ∧ ¬ X 0 (s 0 0) = 23) : qRun X (n + 1) s E = qRun X n (pStep X s) (qStep X s E) := if_pos h
theorem qrun_no {X : Tk} {n : Nat} {s : Ps} {E : Int → List (Rp × Rp × Rp) × Rp} (h : ¬ (s 0 1 = 0 ∧ ¬ X 0 (s 0 0) = 23)) : qRun X n s E = E := by
  cases n with
  | zero => rfl
  | succ n => exact if_neg h
def quI (X : Tk) (S : Ps) (Q : Int → List (Rp × Rp × Rp) × Rp) (m : Mm) (n : Nat) : Prop := ∃ (s2 : Ps) (E2 : Int → List (Rp × Rp × Rp) × Rp), RC s2 m ∧ pRun X n s2 = S ∧ qRun X n s2 E2 = Q ∧ (rd m 19 5 = 0 → rd m 20 4 ≤ rd m 19 4 + 8 ∧ LSd m 20 E2)
theorem qs_C {X : Tk} {s : Ps} {m m2 : Mm} {E : Int → List (Rp × Rp × Rp) × Rp} (h : RC s m) (hX : tX m = X) (l : tlQ m m2) (f0 : rd m 19 5 = 0) (b : rd m 20 4 ≤ rd m 19 4 + 8) (L : LSd m 20 E) (u : 0 ≤ rd m 20 4 ∧ rd m 20 4 ≤ 420) (z : rd m2 19 5 = 0) : rd m2 20 4 ≤ rd m2 19 4 + 8 ∧ LSd m2 20 (qStep X s E) := by
  subst hX
  have z0 : s 0 1 = 0 := h.1.1.symm.trans f0
  have t0 : rd m 19 4 = s 0 0 := (h.1.2.2 z0).1
  have kk : kC m (rd m 19 4) = tX m 0 (s 0 0) := by rw [t0]; rfl
  rcases l with ⟨⟨⟨a1, a2, a3⟩, a4⟩, k⟩ | l
  · have y := a4 z
    refine ⟨by omega, ?_⟩
    unfold qStep
    rw [← kk, if_neg k]
    exact ls_fr L a1 a2 a3
  · obtain ⟨hx, cw, c1, c2, c3, c4, c5, c6⟩ := l z b
    refine ⟨by omega, ?_⟩
    have eL : LT (tX m 0) (tX m 2) 4 (s 0 0 + 2) = LT (kC m) (vC m) 4 (rd m 19 4 + 2) := by rw [t0]; rfl
    unfold qStep
    rw [← kk, if_pos hx, eL]
    intro k h1 h2
    by_cases q : k = kC m (rd m 19 4) - 4
    · rw [q]
      show wfE _ ∧ 0 ≤ rd m2 23 _ ∧ _
      dsimp only
      rw [if_pos rfl, c2, c5]
      exact ⟨cw, u.1, by omega, c6⟩
    · obtain ⟨dw, d1, d2, d3⟩ := lsd_k L h1 h2
      show wfE _ ∧ 0 ≤ rd m2 23 _ ∧ _
      dsimp only
      rw [if_neg q, c3 _ (by omega), c5]
      exact ⟨dw, d1, by omega, sg_fr d1 (fun j _ w => c4 j (by omega)) d3⟩
theorem qu_B {X : Tk} {m6 m30 : Mm} {S : Ps} {Q : Int → List (Rp × Rp × Rp) × Rp} {x z : Int} (h : quI X S Q m6 (Int.toNat (401 - x))) (hX : tX m6 = X) (ex : 0 ≤ x ∧ x < 401 ∧ z = x + 1) (f0 : rd m6 19 5 = 0) (k : ¬ rd m6 2 (Int.toNat (rd m6 19 4)) = 23) (c : ∀ s : Ps, RC s m6 → s 0 1 = 0 → RC (pStep X s) m30) (l : tlQ m6 m30) (u : 0 ≤ rd m6 20 4 ∧ rd m6 20 4 ≤ 420) : quI X S Q m30 (Int.toNat (401 - z)) := by
  obtain ⟨s2, E2, r, p, q, L⟩ := h
  have z0 : s2 0 1 = 0 := r.1.1.symm.trans f0
  have cd : s2 0 1 = 0 ∧ ¬ X 0 (s2 0 0) = 23 := ⟨z0, by rw [rc_k r z0 hX]; exact k⟩
  have e : Int.toNat (401 - x) = Int.toNat (401 - z) + 1 := by omega
  rw [e, run_st cd] at p
  rw [e, qrun_st cd] at q
  exact ⟨pStep X s2, qStep X s2 E2, c s2 r z0, p, q, fun y => qs_C r hX l f0 (L f0).1 (L f0).2 u y⟩
theorem qu_R {X : Tk} {m6 : Mm} {S : Ps} {Q : Int → List (Rp × Rp × Rp) × Rp} {x : Int} (h : quI X S Q m6 (Int.toNat (401 - x))) (hX : tX m6 = X) (c : 401 ≤ x ∨ ¬ rd m6 19 5 = 0 ∨ rd m6 2 (Int.toNat (rd m6 19 4)) = 23) : rd m6 19 5 = 0 → LSd m6 20 Q := by
  intro f0
  obtain ⟨s2, E2, r, p, q, L⟩ := h
  have z0 : s2 0 1 = 0 := r.1.1.symm.trans f0
  rcases c with c | c | c
  · rw [show Int.toNat (401 - x) = 0 by omega] at q
    rw [← q]
    exact (L f0).2
  · exact absurd f0 c
  · rw [qrun_no (fun w => w.2 (by rw [rc_k r z0 hX]; exact c))] at q
    rw [← q]
    exact (L f0).2
-- TippedCrates$Laws.copyOf(LTippedCrates$Laws;)V
set_option maxRecDepth 20000 in
theorem ex_17 {m : Mm} {a : Nat} {b : Nat}  (T_m : Ty m) (h_a : isLw a) (h_b : isLw b) (p0 : a = 11 ∧ b = 20) : CV 1 17 [.ref a, .ref b] m (fun m2 => GX (sL a) m m2 ∧ ((lwOk m b → lwOk m2 a) ∧ (∀ E, LSd m b E → LSd m2 a E))) := by
  refine br_17 h_a h_b ?_
  unfold P_17
  have g_m : GX (sL a) m m := ⟨T_m, fun _ _ _ => rfl, fun _ _ => rfl⟩
  have ts := ty_lw4 T_m h_b
  have ha2 := p0.1
  have hb2 := p0.2
  refine ⟨⟨by omega, by omega, by omega, by omega, by omega⟩, ?_⟩
  intro m14 e_m14
  have g_m14 : GX (sL a) m m14 := by rw [e_m14]; exact GX.cp g_m (tcl_2 T_m h_a h_b) (fun _ => sL_w (by omega))
  intro m28 e_m28
  have g_m28 : GX (sL a) m m28 := by rw [e_m28]; exact GX.cp g_m14 (tcl_3 g_m14.1 h_a h_b) (fun _ => sL_w (by omega))
  have s28 : rd m28 b 4 = rd m b 4 := by rw [e_m28, rd_cpm, if_neg (by omega), e_m14, rd_cpm, if_neg (by omega)]
  intro m36 e_m36
  have g_m36 : GX (sL a) m m36 := by rw [e_m36]; exact GX.wt g_m28 (tw_lw4 g_m28.1 h_a ⟨by omega, by omega⟩) sL_4
  exact ⟨g_m36, by exact ⟨by exact fun hl j hj hm => (by
      have e4 : rd m36 a 4 = rd m b 4 := by rw [e_m36, rd_wt, if_pos ⟨rfl, rfl⟩, wr_i (rd_rg _ _ _), s28]
      have e2 : rd m36 (a + 2) j = rd m (b + 2) j := by rw [e_m36, rd_wt, if_neg (by omega), e_m28, rd_cpm, if_neg (by omega), e_m14, rd_cpm, if_pos (by omega)]; rfl
      rw [e2] at hm ⊢
      exact hl j (by omega) hm), by exact fun E h => ls_cp p0 ts e_m14 e_m28 e_m36 h⟩⟩
-- TippedCrates$Reader.fillPlan()V
set_option maxRecDepth 20000 in
theorem ex_54 {m : Mm}   (T_m : Ty m)  (p0 : 2 ≤ rd m 19 8 ∧ rd m 19 8 ≤ 5) (p1 : 2 ≤ rd m 19 9 ∧ rd m 19 9 ≤ 5) (p2 : ∀ k : Nat, (k : Int) < rd m 19 11 → (0 ≤ rd m 25 (2 * k) ∧ rd m 25 (2 * k) ≤ rd m 19 8 - 1 ∧ 0 ≤ rd m 25 (2 * k + 1) ∧ rd m 25 (2 * k + 1) ≤ rd m 19 9 - 1)) (p3 : ∀ k : Nat, (k : Int) < rd m 19 12 → (0 ≤ rd m 26 (3 * k) ∧ rd m 26 (3 * k) ≤ rd m 19 8 - 1 ∧ 0 ≤ rd m 26 (3 * k + 1) ∧ rd m 26 (3 * k + 1) ≤ rd m 19 9 - 1)) (p4 : ∀ k : Nat, (k : Int) < rd m 19 13 → (0 ≤ rd m 27 (2 * k) ∧ rd m 27 (2 * k) ≤ rd m 19 8 - 1 ∧ 0 ≤ rd m 27 (2 * k + 1) ∧ rd m 27 (2 * k + 1) ≤ rd m 19 9 - 1)) (p5 : ∀ k : Nat, (k : Int) < rd m 19 12 → rd m 26 (3 * k + 2) ≤ 9) (p6 : ∀ k : Nat, (k : Int) < 6 * rd m 19 13 → rd m 28 k ≤ 9) (p7 : lwOk m 20) : CV 4 54 [.ref 19] m (fun m2 => GX sFp m m2 ∧ ((rd m2 7 3 = rd m 19 13 ∧ lwOk m2 11 ∧ (∀ c : Nat, (c : Int) < rd m 19 13 → 0 ≤ rd m2 9 c) ∧ ∀ k : Nat, (k : Int) < 6 * rd m 19 13 → rd m2 10 k ≤ 9) ∧ (∀ E, LSd m 20 E → LSd m2 11 E))) := by
  refine br_54  ?_
  unfold P_54
  have g_m : GX sFp m m := ⟨T_m, fun _ _ _ => rfl, fun _ _ => rfl⟩
  have u11 := ty_19_11 T_m
  have u12 := ty_19_12 T_m
  have u13 := ty_19_13 T_m
  have t1 := ty_19_8 T_m
  have t2 := ty_19_9 T_m
  refine CV.mono (ct_27   T_m (rd_rg _ _ _) (rd_rg _ _ _) (by omega) (by omega)) (by decide) ?_
  rintro m12 ⟨hx_m12, h_m12⟩
  have g_m12 : GX sFp m m12 := gx_in g_m hx_m12 in_sPl_sFp
  intro m23 e_m23
  have g_m23 : GX sFp m m23 := by rw [e_m23]; exact GX.wt g_m12 (tw_7_2 g_m12.1 (rd_rg _ _ _)) (Eq.refl true)
  have a23 : rd m23 19 13 = rd m 19 13 := g_m23.2.1 19 13 rfl
  have t4 := ty_19_13 g_m23.1
  intro m34 e_m34
  have g_m34 : GX sFp m m34 := by rw [e_m34]; exact GX.wt g_m23 (tw_7_3 g_m23.1 ⟨by omega, by omega⟩) (Eq.refl true)
  have b0 : rd m34 7 0 = rd m 19 8 := by rw [e_m34, rd_wt, if_neg (by omega), e_m23, rd_wt, if_neg (by omega)]; exact h_m12.1
  have b3 : rd m34 7 3 = rd m 19 13 := by rw [e_m34, rd_wt, if_pos ⟨rfl, rfl⟩, wr_i (rd_rg _ _ _), a23]
  have l34 : lwOk m34 20 := lwOk_fr p7 (g_m34.2.1 20 4 rfl) (fun j => g_m34.2.1 22 j rfl)
  refine CV.mono (ex_17   g_m34.1 lw_11 lw_20 ⟨rfl, rfl⟩) (by decide) ?_
  rintro m48 ⟨hx_m48, h_m48⟩
  have g_m48 : GX sFp m m48 := gx_in g_m34 hx_m48 in_sL_sFp
  obtain ⟨h_m48, c_m48⟩ := h_m48
  have d0 : rd m48 7 0 = rd m 19 8 := (hx_m48.2.1 7 0 rfl).trans b0
  have d3 : rd m48 7 3 = rd m 19 13 := (hx_m48.2.1 7 3 rfl).trans b3
  have l48 := h_m48 l34
  have L48 : ∀ E, LSd m 20 E → LSd m48 11 E := fun E h => c_m48 E (ls_fr h (g_m34.2.1 20 4 rfl) (fun j => g_m34.2.1 22 j rfl) (fun j => g_m34.2.1 23 j rfl))
  refine ⟨fun x1_53 m_53 => GX sFp m m_53 ∧ (((0 ≤ x1_53 ∧ x1_53 ≤ 8) ∧ rd m_53 7 0 = rd m 19 8 ∧ rd m_53 7 3 = rd m 19 13 ∧ lwOk m_53 11) ∧ (∀ E, LSd m 20 E → LSd m_53 11 E)), fun x1_53 m_53 => Int.toNat (8 - x1_53), ?_, ?_⟩
  · exact ⟨g_m48, by exact ⟨by exact ⟨by omega, d0, d3, l48⟩, by exact L48⟩⟩
  · intro x1_53 m_53 r_x1_53 hI_53
    obtain ⟨g_m_53, hI_53⟩ := hI_53
    obtain ⟨hI_53, dI_53⟩ := hI_53
    have q11 : rd m_53 19 11 = rd m 19 11 := g_m_53.2.1 19 11 rfl
    have t5 := ty_19_11 g_m_53.1
    refine ⟨fun hq => ?_, fun hq => ?_⟩
    · skip
      refine ⟨fun x1_108 m_108 => GX sFp m m_108 ∧ (((0 ≤ x1_108 ∧ x1_108 ≤ 10) ∧ rd m_108 7 0 = rd m 19 8 ∧ rd m_108 7 3 = rd m 19 13 ∧ lwOk m_108 11) ∧ (∀ E, LSd m 20 E → LSd m_108 11 E)), fun x1_108 m_108 => Int.toNat (10 - x1_108), ?_, ?_⟩
      · exact ⟨g_m_53, by exact ⟨by exact ⟨by omega, hI_53.2⟩, by exact dI_53⟩⟩
      · intro x1_108 m_108 r_x1_108 hI_108
        obtain ⟨g_m_108, hI_108⟩ := hI_108
        obtain ⟨hI_108, dI_108⟩ := hI_108
        have q12 : rd m_108 19 12 = rd m 19 12 := g_m_108.2.1 19 12 rfl
        have t6 := ty_19_12 g_m_108.1
        refine ⟨fun hq => ?_, fun hq => ?_⟩
        · skip
          refine ⟨fun x1_167 m_167 => GX sFp m m_167 ∧ (((0 ≤ x1_167 ∧ x1_167 ≤ 3) ∧ rd m_167 7 0 = rd m 19 8 ∧ rd m_167 7 3 = rd m 19 13 ∧ lwOk m_167 11 ∧ ∀ c : Nat, (c : Int) < x1_167 → 0 ≤ rd m_167 9 c) ∧ (∀ E, LSd m 20 E → LSd m_167 11 E)), fun x1_167 m_167 => Int.toNat (3 - x1_167), ?_, ?_⟩
          · exact ⟨g_m_108, by exact ⟨by exact ⟨by omega, hI_108.2.1, hI_108.2.2.1, hI_108.2.2.2, fun c hc => by omega⟩, by exact dI_108⟩⟩
          · intro x1_167 m_167 r_x1_167 hI_167
            obtain ⟨g_m_167, hI_167⟩ := hI_167
            obtain ⟨hI_167, dI_167⟩ := hI_167
            have q13 : rd m_167 19 13 = rd m 19 13 := g_m_167.2.1 19 13 rfl
            have t7 := ty_19_13 g_m_167.1
            refine ⟨fun hq => ?_, fun hq => ?_⟩
            · skip
              intro m233 e_m233
              have g_m233 : GX sFp m m233 := by rw [e_m233]; exact GX.cp g_m_167 (g_m_167.1.cp (fun j _ _ => ty_28 g_m_167.1 _)) (fun _ => rfl)
              exact ⟨g_m233, by exact ⟨by exact ⟨by rw [e_m233, rd_cpm, if_neg (by omega)]; exact hI_167.2.2.1, lwOk_fr hI_167.2.2.2.1 (by rw [e_m233, rd_cpm, if_neg (by omega)]) (fun j => by rw [e_m233, rd_cpm, if_neg (by omega)]), fun c hc => by rw [e_m233, rd_cpm, if_neg (by omega)]; exact hI_167.2.2.2.2 c (by omega), fun k hk => by rw [e_m233, rd_cpm, if_pos (by omega), show k - 0 + 0 = k by omega, g_m_167.2.1 28 k rfl]; exact p6 k hk⟩, by exact fun E h => ls_fr (dI_167 E h) (by rw [e_m233, rd_cpm, if_neg (by omega)]) (fun j => by rw [e_m233, rd_cpm, if_neg (by omega)]) (fun j => by rw [e_m233, rd_cpm, if_neg (by omega)])⟩⟩
            · skip
              try have w8 : wr (x1_167 * 2) = x1_167 * 2 := wr_id (by omega) (by omega)
              refine ⟨⟨by omega, by omega⟩, ?_⟩
              try have w9 : wr ((wr (x1_167 * 2)) + 1) = (wr (x1_167 * 2)) + 1 := wr_id (by omega) (by omega)
              refine ⟨⟨by omega, by omega⟩, ?_⟩
              have t10 := ty_27 g_m_167.1 (Int.toNat (wr (x1_167 * 2)))
              have t11 := ty_27 g_m_167.1 (Int.toNat (wr ((wr (x1_167 * 2)) + 1)))
              have i1 : rd m_167 27 (Int.toNat (wr (x1_167 * 2))) = rd m 27 (2 * Int.toNat x1_167) := (g_m_167.2.1 27 _ rfl).trans (congrArg (rd m 27) (by omega))
              have i2 : rd m_167 27 (Int.toNat (wr ((wr (x1_167 * 2)) + 1))) = rd m 27 (2 * Int.toNat x1_167 + 1) := (g_m_167.2.1 27 _ rfl).trans (congrArg (rd m 27) (by omega))
              have yd := p4 (Int.toNat x1_167) (by omega)
              have fb := fl_b p0 p1 (x := rd m 27 (2 * Int.toNat x1_167)) (y := rd m 27 (2 * Int.toNat x1_167 + 1)) (by omega) (by omega)
              refine CK.mono (ct_29   g_m_167.1 (rd_rg _ _ _) (rd_rg _ _ _) (by omega) (by omega)) (by decide) ?_
              rintro m205 v205 r_v205 ⟨e_m205, h_m205⟩
              replace e_m205 := e_m205.symm
              subst e_m205
              rw [hI_167.2.1, i1, i2] at h_m205
              refine ⟨⟨by omega, by omega⟩, ?_⟩
              intro m208 e_m208
              have g_m208 : GX sFp m m208 := by rw [e_m208]; exact GX.wt g_m_167 (tw_9 g_m_167.1 ⟨by omega, by omega⟩) (Eq.refl true)
              have k208 : rd m208 7 0 = rd m 19 8 ∧ rd m208 7 3 = rd m 19 13 ∧ lwOk m208 11 := ⟨by rw [e_m208, rd_wt, if_neg (by omega)]; exact hI_167.2.1, by rw [e_m208, rd_wt, if_neg (by omega)]; exact hI_167.2.2.1, lwOk_fr hI_167.2.2.2.1 (by rw [e_m208, rd_wt, if_neg (by omega)]) (fun j => by rw [e_m208, rd_wt, if_neg (by omega)])⟩
              have c208 : ∀ c : Nat, (c : Int) < x1_167 + 1 → 0 ≤ rd m208 9 c := fun c hc => by
                rw [e_m208, rd_wt]
                split
                · rw [wr_id (by omega) (by omega)]; omega
                · exact hI_167.2.2.2.2 c (by omega)
              try have w12 : wr (x1_167 + 1) = x1_167 + 1 := wr_id (by omega) (by omega)
              intro z1_209 e_z1_209
              have r_z1_209 : rg z1_209 := by rw [e_z1_209]; exact wr_rg _
              exact ⟨⟨g_m208, by exact ⟨by exact ⟨by omega, k208.1, k208.2.1, k208.2.2, fun c hc => c208 c (by omega)⟩, by exact fun E h => ls_wt (dI_167 E h) (by omega) e_m208⟩⟩, by (try dsimp only); omega⟩
        · skip
          try have w13 : wr (x1_108 * 3) = x1_108 * 3 := wr_id (by omega) (by omega)
          refine ⟨⟨by omega, by omega⟩, ?_⟩
          try have w14 : wr ((wr (x1_108 * 3)) + 1) = (wr (x1_108 * 3)) + 1 := wr_id (by omega) (by omega)
          refine ⟨⟨by omega, by omega⟩, ?_⟩
          have t15 := ty_26 g_m_108.1 (Int.toNat (wr (x1_108 * 3)))
          have t16 := ty_26 g_m_108.1 (Int.toNat (wr ((wr (x1_108 * 3)) + 1)))
          have i1 : rd m_108 26 (Int.toNat (wr (x1_108 * 3))) = rd m 26 (3 * Int.toNat x1_108) := (g_m_108.2.1 26 _ rfl).trans (congrArg (rd m 26) (by omega))
          have i2 : rd m_108 26 (Int.toNat (wr ((wr (x1_108 * 3)) + 1))) = rd m 26 (3 * Int.toNat x1_108 + 1) := (g_m_108.2.1 26 _ rfl).trans (congrArg (rd m 26) (by omega))
          have yd := p3 (Int.toNat x1_108) (by omega)
          have fb := fl_b p0 p1 (x := rd m 26 (3 * Int.toNat x1_108)) (y := rd m 26 (3 * Int.toNat x1_108 + 1)) (by omega) (by omega)
          refine CK.mono (ct_29   g_m_108.1 (rd_rg _ _ _) (rd_rg _ _ _) (by omega) (by omega)) (by decide) ?_
          rintro m145 v145 r_v145 ⟨e_m145, h_m145⟩
          replace e_m145 := e_m145.symm
          subst e_m145
          rw [hI_108.2.1, i1, i2] at h_m145
          have pm := p5 (Int.toNat x1_108) (by omega)
          try have w17 : wr ((wr (x1_108 * 3)) + 2) = (wr (x1_108 * 3)) + 2 := wr_id (by omega) (by omega)
          refine ⟨⟨by omega, by omega⟩, ?_⟩
          refine ⟨⟨by omega, by omega⟩, ?_⟩
          have t18 := ty_26 g_m_108.1 (Int.toNat (wr ((wr (x1_108 * 3)) + 2)))
          intro m158 e_m158
          have g_m158 : GX sFp m m158 := by rw [e_m158]; exact GX.wt g_m_108 (tw_8 g_m_108.1 ⟨(ty_26 g_m_108.1 _).1, by rw [show rd m_108 26 (Int.toNat (wr ((wr (x1_108 * 3)) + 2))) = rd m 26 (3 * Int.toNat x1_108 + 2) from (g_m_108.2.1 26 _ rfl).trans (congrArg (rd m 26) (by omega))]; exact pm⟩) (Eq.refl true)
          have k158 : rd m158 7 0 = rd m 19 8 ∧ rd m158 7 3 = rd m 19 13 ∧ lwOk m158 11 := ⟨by rw [e_m158, rd_wt, if_neg (by omega)]; exact hI_108.2.1, by rw [e_m158, rd_wt, if_neg (by omega)]; exact hI_108.2.2.1, lwOk_fr hI_108.2.2.2 (by rw [e_m158, rd_wt, if_neg (by omega)]) (fun j => by rw [e_m158, rd_wt, if_neg (by omega)])⟩
          try have w19 : wr (x1_108 + 1) = x1_108 + 1 := wr_id (by omega) (by omega)
          intro z1_159 e_z1_159
          have r_z1_159 : rg z1_159 := by rw [e_z1_159]; exact wr_rg _
          exact ⟨⟨g_m158, by exact ⟨by exact ⟨by omega, k158⟩, by exact fun E h => ls_wt (dI_108 E h) (by omega) e_m158⟩⟩, by (try dsimp only); omega⟩
    · skip
      try have w20 : wr (x1_53 * 2) = x1_53 * 2 := wr_id (by omega) (by omega)
      refine ⟨⟨by omega, by omega⟩, ?_⟩
      try have w21 : wr ((wr (x1_53 * 2)) + 1) = (wr (x1_53 * 2)) + 1 := wr_id (by omega) (by omega)
      refine ⟨⟨by omega, by omega⟩, ?_⟩
      have t22 := ty_25 g_m_53.1 (Int.toNat (wr (x1_53 * 2)))
      have t23 := ty_25 g_m_53.1 (Int.toNat (wr ((wr (x1_53 * 2)) + 1)))
      refine CK.mono (ct_29   g_m_53.1 (rd_rg _ _ _) (rd_rg _ _ _) (by omega) (by omega)) (by decide) ?_
      rintro m92 v92 r_v92 ⟨e_m92, h_m92⟩
      replace e_m92 := e_m92.symm
      subst e_m92
      intro m97 e_m97
      have g_m97 : GX sFp m m97 := by rw [e_m97]; exact GX.wt g_m_53 (tw_7_4 g_m_53.1 (io_rg _ _ _)) (Eq.refl true)
      have k97 : rd m97 7 0 = rd m 19 8 ∧ rd m97 7 3 = rd m 19 13 ∧ lwOk m97 11 := ⟨by rw [e_m97, rd_wt, if_neg (by omega)]; exact hI_53.2.1, by rw [e_m97, rd_wt, if_neg (by omega)]; exact hI_53.2.2.1, lwOk_fr hI_53.2.2.2 (by rw [e_m97, rd_wt, if_neg (by omega)]) (fun j => by rw [e_m97, rd_wt, if_neg (by omega)])⟩
      try have w25 : wr (x1_53 + 1) = x1_53 + 1 := wr_id (by omega) (by omega)
      intro z1_100 e_z1_100
      have r_z1_100 : rg z1_100 := by rw [e_z1_100]; exact wr_rg _
      exact ⟨⟨g_m97, by exact ⟨by exact ⟨by omega, k97⟩, by exact fun E h => ls_wt (dI_53 E h) (by omega) e_m97⟩⟩, by (try dsimp only); omega⟩
-- TippedCrates$Reader.begin()V
set_option maxRecDepth 20000 in
theorem ex_35 {m0 m : Mm}   (g_m : QX m0 m)  (p0 : tkOk m) : CV 7 35 [.ref 19] m (fun m2 => QX m0 m2 ∧ ((((lwOk m2 20 ∧ vOk m2 ∧ tkOk m2) ∧ ∀ i j, (7 ≤ i ∧ i ≤ 18) → rd m2 i j = rd m i j) ∧ (RC ps_0 m2 ∧ tksC (uB m 5) (rd m 1 0) (ld m 6) m2)) ∧ (LSd m2 20 dE ∧ rd m2 20 4 = 8))) := by
  refine br_35  ?_
  unfold P_35
  intro m2 e_m2
  have g_m2 : QX m0 m2 := by rw [e_m2]; exact QX.wt g_m (tw_19_5 g_m.1 (by first | assumption | omega)) (Eq.refl true)
  intro m7 e_m7
  have g_m7 : QX m0 m7 := by rw [e_m7]; exact QX.wt g_m2 (tw_19_0 g_m2.1 (by first | assumption | omega)) (Eq.refl true)
  intro m12 e_m12
  have g_m12 : QX m0 m12 := by rw [e_m12]; exact QX.wt g_m7 (tw_19_6 g_m7.1 (by first | assumption | omega)) (Eq.refl true)
  intro m17 e_m17
  have g_m17 : QX m0 m17 := by rw [e_m17]; exact QX.wt g_m12 (tw_19_7 g_m12.1 (by first | assumption | omega)) (Eq.refl true)
  intro m22 e_m22
  have g_m22 : QX m0 m22 := by rw [e_m22]; exact QX.wt g_m17 (tw_19_8 g_m17.1 ⟨by omega, by omega⟩) (Eq.refl true)
  intro m27 e_m27
  have g_m27 : QX m0 m27 := by rw [e_m27]; exact QX.wt g_m22 (tw_19_9 g_m22.1 ⟨by omega, by omega⟩) (Eq.refl true)
  intro m32 e_m32
  have g_m32 : QX m0 m32 := by rw [e_m32]; exact QX.wt g_m27 (tw_19_10 g_m27.1 (by first | assumption | omega)) (Eq.refl true)
  intro m37 e_m37
  have g_m37 : QX m0 m37 := by rw [e_m37]; exact QX.wt g_m32 (tw_19_11 g_m32.1 ⟨by omega, by omega⟩) (Eq.refl true)
  intro m42 e_m42
  have g_m42 : QX m0 m42 := by rw [e_m42]; exact QX.wt g_m37 (tw_19_12 g_m37.1 ⟨by omega, by omega⟩) (Eq.refl true)
  intro m47 e_m47
  have g_m47 : QX m0 m47 := by rw [e_m47]; exact QX.wt g_m42 (tw_19_13 g_m42.1 ⟨by omega, by omega⟩) (Eq.refl true)
  have z5 : rd m47 19 5 = 0 := by rw [e_m47, rd_wt, if_neg (by omega), e_m42, rd_wt, if_neg (by omega), e_m37, rd_wt, if_neg (by omega), e_m32, rd_wt, if_neg (by omega), e_m27, rd_wt, if_neg (by omega), e_m22, rd_wt, if_neg (by omega), e_m17, rd_wt, if_neg (by omega), e_m12, rd_wt, if_neg (by omega), e_m7, rd_wt, if_neg (by omega), e_m2, rd_wt, if_pos ⟨rfl, rfl⟩]; rfl
  have z6 : rd m47 19 6 = 0 := by rw [e_m47, rd_wt, if_neg (by omega), e_m42, rd_wt, if_neg (by omega), e_m37, rd_wt, if_neg (by omega), e_m32, rd_wt, if_neg (by omega), e_m27, rd_wt, if_neg (by omega), e_m22, rd_wt, if_neg (by omega), e_m17, rd_wt, if_neg (by omega), e_m12, rd_wt, if_pos ⟨rfl, rfl⟩]; rfl
  have z8 : rd m47 19 8 = 4 := by rw [e_m47, rd_wt, if_neg (by omega), e_m42, rd_wt, if_neg (by omega), e_m37, rd_wt, if_neg (by omega), e_m32, rd_wt, if_neg (by omega), e_m27, rd_wt, if_neg (by omega), e_m22, rd_wt, if_pos ⟨rfl, rfl⟩]; rfl
  have z9 : rd m47 19 9 = 4 := by rw [e_m47, rd_wt, if_neg (by omega), e_m42, rd_wt, if_neg (by omega), e_m37, rd_wt, if_neg (by omega), e_m32, rd_wt, if_neg (by omega), e_m27, rd_wt, if_pos ⟨rfl, rfl⟩]; rfl
  have z12 : rd m47 19 12 = 0 := by rw [e_m47, rd_wt, if_neg (by omega), e_m42, rd_wt, if_pos ⟨rfl, rfl⟩]; rfl
  have z13 : rd m47 19 13 = 0 := by rw [e_m47, rd_wt, if_pos ⟨rfl, rfl⟩]; rfl
  have k47 : tkOk m47 := by rw [e_m47, e_m42, e_m37, e_m32, e_m27, e_m22, e_m17, e_m12, e_m7, e_m2]; exact tk_wt (tk_wt (tk_wt (tk_wt (tk_wt (tk_wt (tk_wt (tk_wt (tk_wt (tk_wt p0 (by omega)) (by omega)) (by omega)) (by omega)) (by omega)) (by omega)) (by omega)) (by omega)) (by omega)) (by omega)
  have pl47 : ∀ i j, ¬ i = 19 → rd m47 i j = rd m i j := fun i j h => by rw [e_m47, rd_wt, if_neg (by omega), e_m42, rd_wt, if_neg (by omega), e_m37, rd_wt, if_neg (by omega), e_m32, rd_wt, if_neg (by omega), e_m27, rd_wt, if_neg (by omega), e_m22, rd_wt, if_neg (by omega), e_m17, rd_wt, if_neg (by omega), e_m12, rd_wt, if_neg (by omega), e_m7, rd_wt, if_neg (by omega), e_m2, rd_wt, if_neg (by omega)]
  have Z0 : rd m47 19 0 = (-1) := by rw [e_m47, rd_wt, if_neg (by omega), e_m42, rd_wt, if_neg (by omega), e_m37, rd_wt, if_neg (by omega), e_m32, rd_wt, if_neg (by omega), e_m27, rd_wt, if_neg (by omega), e_m22, rd_wt, if_neg (by omega), e_m17, rd_wt, if_neg (by omega), e_m12, rd_wt, if_neg (by omega), e_m7, rd_wt, if_pos ⟨rfl, rfl⟩]; rfl
  have Z10 : rd m47 19 10 = 0 := by rw [e_m47, rd_wt, if_neg (by omega), e_m42, rd_wt, if_neg (by omega), e_m37, rd_wt, if_neg (by omega), e_m32, rd_wt, if_pos ⟨rfl, rfl⟩]; rfl
  have Z11 : rd m47 19 11 = 0 := by rw [e_m47, rd_wt, if_neg (by omega), e_m42, rd_wt, if_neg (by omega), e_m37, rd_wt, if_pos ⟨rfl, rfl⟩]; rfl
  refine CV.mono (ex_13   g_m47.1 lw_20) (by decide) ?_
  rintro m54 ⟨hx_m54, h_m54⟩
  have g_m54 : QX m0 m54 := QX.lw g_m47 hx_m54
  obtain ⟨h_m54, c_m54⟩ := h_m54
  have s54 : ∀ i j, ¬ (20 ≤ i ∧ i ≤ 23) → rd m54 i j = rd m47 i j := sL20 hx_m54
  have k54 : tkOk m54 := fun i hi hk => by rw [hx_m54.2.2]; rw [s54 2 i (by omega)] at hk; exact k47 i hi hk
  refine CV.mono (cy_87   (CX_rfl g_m54.1) k54) (by decide) ?_
  rintro m61 ⟨hc_m61, h_m61⟩
  have g_m61 : QX m0 m61 := QX.cx g_m54 hc_m61
  have tks61 := h_m61.1
  replace h_m61 := h_m61.2
  have s61 : ∀ i j, sCt i j = false → rd m61 i j = rd m54 i j := hc_m61.2.1
  intro m66 e_m66
  have g_m66 : QX m0 m66 := by rw [e_m66]; exact QX.wt g_m61 (tw_19_4 g_m61.1 ⟨by omega, by omega⟩) (Eq.refl true)
  have y5 : rd m66 19 5 = 0 := by rw [e_m66, rd_wt, if_neg (by omega), s61 19 5 rfl, s54 19 5 (by omega)]; exact z5
  have y6 : rd m66 19 6 = 0 := by rw [e_m66, rd_wt, if_neg (by omega), s61 19 6 rfl, s54 19 6 (by omega)]; exact z6
  have y8 : rd m66 19 8 = 4 := by rw [e_m66, rd_wt, if_neg (by omega), s61 19 8 rfl, s54 19 8 (by omega)]; exact z8
  have y9 : rd m66 19 9 = 4 := by rw [e_m66, rd_wt, if_neg (by omega), s61 19 9 rfl, s54 19 9 (by omega)]; exact z9
  have y12 : rd m66 19 12 = 0 := by rw [e_m66, rd_wt, if_neg (by omega), s61 19 12 rfl, s54 19 12 (by omega)]; exact z12
  have y13 : rd m66 19 13 = 0 := by rw [e_m66, rd_wt, if_neg (by omega), s61 19 13 rfl, s54 19 13 (by omega)]; exact z13
  have l66 : lwOk m66 20 := lwOk_fr h_m54 (by rw [e_m66, rd_wt, if_neg (by omega)]; exact s61 20 4 rfl) (fun j => by rw [e_m66, rd_wt, if_neg (by omega)]; exact s61 22 j rfl)
  have k66 : tkOk m66 := by rw [e_m66]; exact tk_wt h_m61 (by omega)
  have v66 : vOk m66 := fun _ _ => ⟨by omega, by omega, fun k hk => by omega, fun k hk => by omega⟩
  have pl66 : ∀ i j, (7 ≤ i ∧ i ≤ 18) → rd m66 i j = rd m i j := fun i j h => by rw [e_m66, rd_wt, if_neg (by omega), s61 i j (sCt_no (by omega)), s54 i j (by omega)]; exact pl47 i j (by omega)
  have Y0 : rd m66 19 0 = -1 := by rw [e_m66, rd_wt, if_neg (by omega), s61 19 0 rfl, s54 19 0 (by omega)]; exact Z0
  have Y10 : rd m66 19 10 = 0 := by rw [e_m66, rd_wt, if_neg (by omega), s61 19 10 rfl, s54 19 10 (by omega)]; exact Z10
  have Y11 : rd m66 19 11 = 0 := by rw [e_m66, rd_wt, if_neg (by omega), s61 19 11 rfl, s54 19 11 (by omega)]; exact Z11
  have Y4 : rd m66 19 4 = 0 := by rw [e_m66, rd_wt, if_pos ⟨rfl, rfl⟩]; rfl
  have tk66 : tksC (uB m 5) (rd m 1 0) (ld m 6) m66 := tks_fr tks61 (fun j => uB_eq (by rw [s54 5 j (by omega), pl47 5 j (by omega)])) (by rw [s54 1 0 (by omega), pl47 1 0 (by omega)]) (fun j => by rw [hx_m54.2.2, e_m47, e_m42, e_m37, e_m32, e_m27, e_m22, e_m17, e_m12, e_m7, e_m2]; rfl) (fun j => by rw [e_m66, rd_wt, if_neg (by omega)]) (fun j => by rw [e_m66, rd_wt, if_neg (by omega)]) (fun j => by rw [e_m66]; rfl)
  exact ⟨g_m66, by exact ⟨by exact ⟨by exact ⟨⟨l66, v66, k66⟩, pl66⟩, by exact ⟨rc_0 y5 Y0 Y4 y6 y8 y9 Y10 Y11 y12 y13, tk66⟩⟩, by exact ls_cl c_m54 (by rw [e_m66, rd_wt, if_neg (by omega)]; exact s61 20 4 rfl) (fun j => by rw [e_m66, rd_wt, if_neg (by omega)]; exact s61 22 j rfl) (fun j => by rw [e_m66, rd_wt, if_neg (by omega)]; exact s61 23 j rfl)⟩⟩
-- TippedCrates$Reader.readTape()I
set_option maxRecDepth 20000 in
theorem ex_34 {m0 m : Mm}   (g_m : QX m0 m)  (p0 : tkOk m) : CK 36 34 [.ref 19] m (fun m2 v => QX m0 m2 ∧ ((((lwOk m2 20 ∧ tkOk m2) ∧ ((¬ v = 0 ∧ ∀ i j, (7 ≤ i ∧ i ≤ 18) → rd m2 i j = rd m i j) ∨ (v = 0 ∧ planOk m2))) ∧ (tksC (uB m 5) (rd m 1 0) (ld m 6) m2 ∧ ansP (tX m2) (rd m 1 0) v (rd m2 19 0))) ∧ (v = 0 → LSd m2 11 (qRun (tX m2) 401 ps_0 dE)))) := by
  refine br_34  ?_
  unfold P_34
  refine CV.mono (ex_35   g_m (by omega)) (by decide) ?_
  rintro m1 ⟨g_m1, h_m1⟩
  obtain ⟨h_m1, u_m1⟩ := h_m1
  have hb1 := h_m1.2
  replace h_m1 := h_m1.1
  have r1 := RX_rfl g_m1.1 h_m1.1
  refine ⟨fun x1_6 m_6 => QX m0 m_6 ∧ ((((0 ≤ x1_6 ∧ x1_6 ≤ 401) ∧ RX m1 m_6) ∧ (∃ s2 : Ps, RC s2 m_6 ∧ pRun (tX m1) (Int.toNat (401 - x1_6)) s2 = (pRun (tX m1) 401 ps_0))) ∧ (quI (tX m1) (pRun (tX m1) 401 ps_0) (qRun (tX m1) 401 ps_0 dE) m_6 (Int.toNat (401 - x1_6)))), fun x1_6 m_6 => Int.toNat (401 - x1_6), ?_, ?_⟩
  · exact ⟨g_m1, by exact ⟨by exact ⟨by exact ⟨by omega, r1⟩, by exact ⟨ps_0, hb1.1, rfl⟩⟩, by exact ⟨ps_0, dE, hb1.1, rfl, rfl, fun _ => ⟨by have := u_m1.2; have := ty_19_4 g_m1.1; omega, u_m1.1⟩⟩⟩⟩
  · intro x1_6 m_6 r_x1_6 hI_6
    obtain ⟨g_m_6, hI_6⟩ := hI_6
    obtain ⟨hI_6, dI_6⟩ := hI_6
    obtain ⟨hI_6, cI_6⟩ := hI_6
    refine ⟨fun m_39 => QX m0 m_39 ∧ (((RX m1 m_39) ∧ (RC (pRun (tX m1) 401 ps_0) m_39)) ∧ (rd m_39 19 5 = 0 → LSd m_39 20 (qRun (tX m1) 401 ps_0 dE))), ?_, ?_⟩
    · skip
      refine ⟨fun hq => ?_, fun hq => ?_⟩
      · skip
        exact ⟨g_m_6, by exact ⟨by exact ⟨by exact hI_6.2, by exact ru_R cI_6 (tX_rx hI_6.2) (by omega)⟩, by exact qu_R dI_6 (tX_rx hI_6.2) (by omega)⟩⟩
      · skip
        refine ⟨fun hq => ?_, fun hq => ?_⟩
        · skip
          exact ⟨g_m_6, by exact ⟨by exact ⟨by exact hI_6.2, by exact ru_R cI_6 (tX_rx hI_6.2) (by omega)⟩, by exact qu_R dI_6 (tX_rx hI_6.2) (by omega)⟩⟩
        · skip
          refine CK.mono (ct_36   g_m_6.1) (by decide) ?_
          rintro m21 v21 r_v21 ⟨e_m21, h_m21⟩
          replace e_m21 := e_m21.symm
          subst e_m21
          refine ⟨fun hq => ?_, fun hq => ?_⟩
          · skip
            exact ⟨g_m_6, by exact ⟨by exact ⟨by exact hI_6.2, by exact ru_R cI_6 (tX_rx hI_6.2) (by omega)⟩, by exact qu_R dI_6 (tX_rx hI_6.2) (by omega)⟩⟩
          · skip
            refine CV.mono (ey_41   hI_6.2) (by decide) ?_
            rintro m30 ⟨hc_m30, h_m30⟩
            have g_m30 : QX m0 m30 := QX.rx g_m1 hc_m30
            obtain ⟨h_m30, l_m30⟩ := h_m30
            try have w2 : wr (x1_6 + 1) = x1_6 + 1 := wr_id (by omega) (by omega)
            intro z1_33 e_z1_33
            have r_z1_33 : rg z1_33 := by rw [e_z1_33]; exact wr_rg _
            exact ⟨⟨g_m30, by exact ⟨by exact ⟨by exact ⟨by omega, hc_m30⟩, by exact ru_B cI_6 (tX_rx hI_6.2) (by omega) (by omega) (by omega) h_m30.2⟩, by exact qu_B dI_6 (tX_rx hI_6.2) (by omega) (by omega) (by omega) h_m30.2 l_m30 (ty_lw4 g_m_6.1 lw_20)⟩⟩, by (try dsimp only); omega⟩
    · intro m_39  hR_39
      obtain ⟨g_m_39, hR_39⟩ := hR_39
      obtain ⟨hR_39, dR_39⟩ := hR_39
      obtain ⟨hR_39, cR_39⟩ := hR_39
      have pl39 : ∀ i j, (7 ≤ i ∧ i ≤ 18) → rd m_39 i j = rd m i j := fun i j h => (hR_39.2.2.2.2.1 i j (sRd_f (by omega))).trans (h_m1.2 i j h)
      refine ⟨fun m_69 => QX m0 m_69 ∧ ((((lwOk m_69 20 ∧ tkOk m_69) ∧ (∀ i j, (7 ≤ i ∧ i ≤ 18) → rd m_69 i j = rd m i j) ∧ (rd m_69 19 5 = 0 → vOk m_69 ∧ rd m_69 19 6 = 0)) ∧ (tX m_69 = tX m1 ∧ a69 (pRun (tX m1) 401 ps_0) m_69)) ∧ (rd m_69 19 5 = 0 → LSd m_69 20 (qRun (tX m1) 401 ps_0 dE))), ?_, ?_⟩
      · skip
        refine ⟨fun hq => ?_, fun hq => ?_⟩
        · skip
          exact ⟨g_m_39, by exact ⟨by exact ⟨by first | exact ⟨⟨hR_39.2.1, hR_39.2.2.2.1⟩, pl39, fun h => absurd h hq⟩ | exact ⟨⟨hR_39.2.1, hR_39.2.2.2.1⟩, pl39, fun h => ⟨hR_39.2.2.1, hq⟩⟩ | exact ⟨lt66, fun i j h => (q66 i j (by omega)).trans (pl39 i j h), fun h => by omega⟩, by first | exact ⟨tX_rx hR_39, a69_f cR_39 hq⟩ | exact ⟨tX_rx hR_39, a69_0 cR_39 (by omega) (by omega)⟩ | exact ⟨x66, a69_l cR_39 (by omega) (by omega) e_m58 e_m66⟩⟩, by first | exact dR_39 | exact fun z => absurd z (by omega)⟩⟩
        · skip
          refine ⟨fun hq => ?_, fun hq => ?_⟩
          · skip
            exact ⟨g_m_39, by exact ⟨by exact ⟨by first | exact ⟨⟨hR_39.2.1, hR_39.2.2.2.1⟩, pl39, fun h => absurd h hq⟩ | exact ⟨⟨hR_39.2.1, hR_39.2.2.2.1⟩, pl39, fun h => ⟨hR_39.2.2.1, hq⟩⟩ | exact ⟨lt66, fun i j h => (q66 i j (by omega)).trans (pl39 i j h), fun h => by omega⟩, by first | exact ⟨tX_rx hR_39, a69_f cR_39 hq⟩ | exact ⟨tX_rx hR_39, a69_0 cR_39 (by omega) (by omega)⟩ | exact ⟨x66, a69_l cR_39 (by omega) (by omega) e_m58 e_m66⟩⟩, by first | exact dR_39 | exact fun z => absurd z (by omega)⟩⟩
          · skip
            intro m58 e_m58
            have g_m58 : QX m0 m58 := by rw [e_m58]; exact QX.wt g_m_39 (tw_19_5 g_m_39.1 (rd_rg _ _ _)) (Eq.refl true)
            intro m66 e_m66
            have g_m66 : QX m0 m66 := by rw [e_m66]; exact QX.wt g_m58 (tw_19_0 g_m58.1 (rd_rg _ _ _)) (Eq.refl true)
            have z66 : rd m66 19 5 = rd m_39 19 6 := by rw [e_m66, rd_wt, if_neg (by omega), e_m58, rd_wt, if_pos ⟨rfl, rfl⟩, wr_i (rd_rg _ _ _)]
            have q66 : ∀ i j, ¬ i = 19 → rd m66 i j = rd m_39 i j := fun i j h => by rw [e_m66, rd_wt, if_neg (by omega), e_m58, rd_wt, if_neg (by omega)]
            have lt66 : (lwOk m66 20 ∧ tkOk m66) := ⟨lwOk_fr hR_39.2.1 (q66 20 4 (by omega)) (fun j => q66 22 j (by omega)), by rw [e_m66, e_m58]; exact tk_wt (tk_wt hR_39.2.2.2.1 (by omega)) (by omega)⟩
            have x66 : tX m66 = tX m1 := (tX_eq (fun j => q66 2 j (by omega)) (fun j => q66 3 j (by omega)) (fun j => by rw [e_m66, e_m58]; rfl)).trans (tX_rx hR_39)
            exact ⟨g_m66, by exact ⟨by exact ⟨by first | exact ⟨⟨hR_39.2.1, hR_39.2.2.2.1⟩, pl39, fun h => absurd h hq⟩ | exact ⟨⟨hR_39.2.1, hR_39.2.2.2.1⟩, pl39, fun h => ⟨hR_39.2.2.1, hq⟩⟩ | exact ⟨lt66, fun i j h => (q66 i j (by omega)).trans (pl39 i j h), fun h => by omega⟩, by first | exact ⟨tX_rx hR_39, a69_f cR_39 hq⟩ | exact ⟨tX_rx hR_39, a69_0 cR_39 (by omega) (by omega)⟩ | exact ⟨x66, a69_l cR_39 (by omega) (by omega) e_m58 e_m66⟩⟩, by first | exact dR_39 | exact fun z => absurd z (by omega)⟩⟩
      · intro m_69  hR_69
        obtain ⟨g_m_69, hR_69⟩ := hR_69
        obtain ⟨hR_69, dR_69⟩ := hR_69
        obtain ⟨hR_69, cR_69⟩ := hR_69
        refine ⟨fun m_100 => QX m0 m_100 ∧ ((((lwOk m_100 20 ∧ tkOk m_100) ∧ (∀ i j, (7 ≤ i ∧ i ≤ 18) → rd m_100 i j = rd m i j) ∧ (rd m_100 19 5 = 0 → fpOk m_100)) ∧ (tX m_100 = tX m1 ∧ ansP (tX m1) (rd m 1 0) (rd m_100 19 5) (rd m_100 19 0))) ∧ (rd m_100 19 5 = 0 → LSd m_100 20 (qRun (tX m1) 401 ps_0 dE))), ?_, ?_⟩
        · skip
          refine ⟨fun hq => ?_, fun hq => ?_⟩
          · skip
            exact ⟨g_m_69, by exact ⟨by exact ⟨by first | exact ⟨hR_69.1, hR_69.2.1, fun h => absurd h hq⟩ | exact ⟨lt97, fun i j h => (q97 i j (by omega)).trans (hR_69.2.1 i j h), fun h => by omega⟩ | exact ⟨hR_69.1, hR_69.2.1, fun h => fp_of (hR_69.2.2 h).1 h (hR_69.2.2 h).2 (h_m77.2 (by omega))⟩, by first | exact ⟨cR_69.1, an_f cR_69.2 hq⟩ | exact ⟨x97.trans cR_69.1, an_6 cR_69.2 (by omega) g_m_69.1 (hb77.1 (by omega)) ((g_m_69.2.1 1 0 rfl).trans (g_m.2.1 1 0 rfl).symm) e_m86 e_m97⟩ | exact ⟨cR_69.1, an_0 cR_69.2 (by omega) g_m_69.1 (hb77.2 (by omega))⟩⟩, by first | exact dR_69 | exact fun z => absurd z (by omega)⟩⟩
          · skip
            refine CK.mono (cx_51   g_m_69.1) (by decide) ?_
            rintro m77 v77 r_v77 ⟨e_m77, h_m77⟩
            replace e_m77 := e_m77.symm
            subst e_m77
            have hb77 := h_m77.2
            replace h_m77 := h_m77.1
            refine ⟨fun hq => ?_, fun hq => ?_⟩
            · skip
              exact ⟨g_m_69, by exact ⟨by exact ⟨by first | exact ⟨hR_69.1, hR_69.2.1, fun h => absurd h hq⟩ | exact ⟨lt97, fun i j h => (q97 i j (by omega)).trans (hR_69.2.1 i j h), fun h => by omega⟩ | exact ⟨hR_69.1, hR_69.2.1, fun h => fp_of (hR_69.2.2 h).1 h (hR_69.2.2 h).2 (h_m77.2 (by omega))⟩, by first | exact ⟨cR_69.1, an_f cR_69.2 hq⟩ | exact ⟨x97.trans cR_69.1, an_6 cR_69.2 (by omega) g_m_69.1 (hb77.1 (by omega)) ((g_m_69.2.1 1 0 rfl).trans (g_m.2.1 1 0 rfl).symm) e_m86 e_m97⟩ | exact ⟨cR_69.1, an_0 cR_69.2 (by omega) g_m_69.1 (hb77.2 (by omega))⟩⟩, by first | exact dR_69 | exact fun z => absurd z (by omega)⟩⟩
            · skip
              intro m86 e_m86
              have g_m86 : QX m0 m86 := by rw [e_m86]; exact QX.wt g_m_69 (tw_19_5 g_m_69.1 (by first | assumption | omega)) (Eq.refl true)
              have t7 := ty_1_0 g_m86.1
              intro m97 e_m97
              have g_m97 : QX m0 m97 := by rw [e_m97]; exact QX.wt g_m86 (tw_19_0 g_m86.1 (rd_rg _ _ _)) (Eq.refl true)
              have z97 : rd m97 19 5 = 6 := by rw [e_m97, rd_wt, if_neg (by omega), e_m86, rd_wt, if_pos ⟨rfl, rfl⟩]; rfl
              have q97 : ∀ i j, ¬ i = 19 → rd m97 i j = rd m_69 i j := fun i j h => by rw [e_m97, rd_wt, if_neg (by omega), e_m86, rd_wt, if_neg (by omega)]
              have lt97 : (lwOk m97 20 ∧ tkOk m97) := ⟨lwOk_fr hR_69.1.1 (q97 20 4 (by omega)) (fun j => q97 22 j (by omega)), by rw [e_m97, e_m86]; exact tk_wt (tk_wt hR_69.1.2 (by omega)) (by omega)⟩
              have x97 : tX m97 = tX m_69 := tX_eq (fun j => q97 2 j (by omega)) (fun j => q97 3 j (by omega)) (fun j => by rw [e_m97, e_m86]; rfl)
              exact ⟨g_m97, by exact ⟨by exact ⟨by first | exact ⟨hR_69.1, hR_69.2.1, fun h => absurd h hq⟩ | exact ⟨lt97, fun i j h => (q97 i j (by omega)).trans (hR_69.2.1 i j h), fun h => by omega⟩ | exact ⟨hR_69.1, hR_69.2.1, fun h => fp_of (hR_69.2.2 h).1 h (hR_69.2.2 h).2 (h_m77.2 (by omega))⟩, by first | exact ⟨cR_69.1, an_f cR_69.2 hq⟩ | exact ⟨x97.trans cR_69.1, an_6 cR_69.2 (by omega) g_m_69.1 (hb77.1 (by omega)) ((g_m_69.2.1 1 0 rfl).trans (g_m.2.1 1 0 rfl).symm) e_m86 e_m97⟩ | exact ⟨cR_69.1, an_0 cR_69.2 (by omega) g_m_69.1 (hb77.2 (by omega))⟩⟩, by first | exact dR_69 | exact fun z => absurd z (by omega)⟩⟩
        · intro m_100  hR_100
          obtain ⟨g_m_100, hR_100⟩ := hR_100
          obtain ⟨hR_100, dR_100⟩ := hR_100
          obtain ⟨hR_100, cR_100⟩ := hR_100
          refine ⟨fun m_111 => QX m0 m_111 ∧ ((((lwOk m_111 20 ∧ tkOk m_111) ∧ ((¬ rd m_111 19 5 = 0 ∧ ∀ i j, (7 ≤ i ∧ i ≤ 18) → rd m_111 i j = rd m i j) ∨ (rd m_111 19 5 = 0 ∧ planOk m_111))) ∧ (tX m_111 = tX m1 ∧ ansP (tX m1) (rd m 1 0) (rd m_111 19 5) (rd m_111 19 0))) ∧ (rd m_111 19 5 = 0 → LSd m_111 11 (qRun (tX m1) 401 ps_0 dE))), ?_, ?_⟩
          · skip
            refine ⟨fun hq => ?_, fun hq => ?_⟩
            · skip
              exact ⟨g_m_100, by exact ⟨by exact ⟨by first | exact ⟨hR_100.1, Or.inl ⟨hq, hR_100.2.1⟩⟩ | exact ⟨lt108, Or.inr ⟨by omega, po108⟩⟩, by first | exact cR_100 | exact ⟨x108.trans cR_100.1, by rw [hx_m108.2.1 19 5 rfl, hx_m108.2.1 19 0 rfl]; exact cR_100.2⟩⟩, by first | exact fun z => L_m108 _ (dR_100 (by omega)) | exact fun z => absurd z (by omega)⟩⟩
            · skip
              have fp := hR_100.2.2 hq
              refine CV.mono (ex_54   g_m_100.1 fp.1 fp.2.1 fp.2.2.1 fp.2.2.2.1 fp.2.2.2.2.1 fp.2.2.2.2.2.1 fp.2.2.2.2.2.2 hR_100.1.1) (by decide) ?_
              rintro m108 ⟨hx_m108, h_m108⟩
              have g_m108 : QX m0 m108 := QX.fp g_m_100 hx_m108
              obtain ⟨h_m108, L_m108⟩ := h_m108
              have z108 : rd m108 19 5 = rd m_100 19 5 := hx_m108.2.1 19 5 rfl
              have lt108 : (lwOk m108 20 ∧ tkOk m108) := ⟨lwOk_fr hR_100.1.1 (hx_m108.2.1 20 4 rfl) (fun j => hx_m108.2.1 22 j rfl), fun i hi hk => by rw [hx_m108.2.2]; rw [hx_m108.2.1 2 i rfl] at hk; exact hR_100.1.2 i hi hk⟩
              have po108 : planOk m108 := ⟨h_m108.2.1, fun c hc => h_m108.2.2.1 c (by omega), fun k hk => h_m108.2.2.2 k (by omega)⟩
              have x108 : tX m108 = tX m_100 := tX_eq (fun j => hx_m108.2.1 2 j rfl) (fun j => hx_m108.2.1 3 j rfl) (fun j => hx_m108.2.2 4 j)
              exact ⟨g_m108, by exact ⟨by exact ⟨by first | exact ⟨hR_100.1, Or.inl ⟨hq, hR_100.2.1⟩⟩ | exact ⟨lt108, Or.inr ⟨by omega, po108⟩⟩, by first | exact cR_100 | exact ⟨x108.trans cR_100.1, by rw [hx_m108.2.1 19 5 rfl, hx_m108.2.1 19 0 rfl]; exact cR_100.2⟩⟩, by first | exact fun z => L_m108 _ (dR_100 (by omega)) | exact fun z => absurd z (by omega)⟩⟩
          · intro m_111  hR_111
            obtain ⟨g_m_111, hR_111⟩ := hR_111
            obtain ⟨hR_111, dR_111⟩ := hR_111
            obtain ⟨hR_111, cR_111⟩ := hR_111
            exact ⟨g_m_111, by exact ⟨by exact ⟨by exact hR_111, by exact ⟨tks_X hb1.2 cR_111.1, by rw [cR_111.1]; exact cR_111.2⟩⟩, by exact fun z => by rw [cR_111.1]; exact dR_111 z⟩⟩
