/-- what a term leaves as it was -/
def exFr (m m2 : Mm) : Prop := ∀ i j : Nat, ¬ (i = 284 ∧ (j = 11 ∨ j = 12 ∨ j = 13 ∨ j = 14 ∨ j = 44 ∨ j = 48)) → ¬ i = 316 → ¬ ((i = 314 ∨ i = 315) ∧ rd m 284 44 ≤ (j : Int)) → rd m2 i j = rd m i j
def exF (m m2 : Mm) : Prop := exFr m m2 ∧ 0 ≤ rd m2 284 13 ∧ rd m 284 11 ≤ rd m2 284 11 ∧ rd m 284 44 ≤ rd m2 284 44 ∧ (rd m2 284 13 = 0 → rd m 284 13 = 0)
def exP (m m2 : Mm) (s : Int) : Prop := exF m m2 ∧ (rd m2 284 13 = 0 → segOk m2 (rd m 284 44) (rd m2 284 44) ∧ rd m2 284 12 = 0 ∧ rd m 284 11 + 1 ≤ rd m2 284 11 ∧ rd m2 284 44 - 420 * s ≤ rd m2 284 11)
theorem exF_0 {m m2 : Mm} (h : 0 ≤ rd m 284 13) (e : m2 = wt m 284 48 0) : exF m m2 := by
  have f : ∀ i j : Nat, ¬ (i = 284 ∧ j = 48) → rd m2 i j = rd m i j := fun i j q => by rw [e, rd_wt, if_neg q]
  exact ⟨fun i j a b c => f i j (by omega), by rw [f 284 13 (by omega)]; exact h, by rw [f 284 11 (by omega)]; exact Int.le_refl _, by rw [f 284 44 (by omega)]; exact Int.le_refl _, fun q => by rw [f 284 13 (by omega)] at q; exact q⟩
theorem exI_0 {m m2 : Mm} {s : Int} (h13 : rd m 284 13 = 0) (e : m2 = wt m 284 48 0) (p : rd m 284 12 = 0 ∧ 420 * s ≤ rd m 284 44 ∧ rd m 284 44 - 420 * s ≤ rd m 284 11) (h0 : 0 ≤ rd m 284 44) : exI m2 s (rd m 284 44) 0 := by
  have f : ∀ i j : Nat, ¬ (i = 284 ∧ j = 48) → rd m2 i j = rd m i j := fun i j q => by rw [e, rd_wt, if_neg q]
  have w : rd m2 284 48 = 0 := by rw [e, rd_wt, if_pos ⟨rfl, rfl⟩]; rfl
  have c := f 284 44 (by omega)
  unfold exI
  rw [w, c, f 284 12 (by omega), f 284 11 (by omega), Int.sub_self]
  exact ⟨⟨h0, Int.le_refl _, p.2.1, Int.le_refl _⟩, fun i hi => by omega, rfl, fun i hi => by omega, p.1, by omega, by show rd m 284 44 - 420 * s + (0 - 0) ≤ _; omega⟩
theorem exF_co {m m1 m2 : Mm} (h : exF m m1) (f : ∀ i j : Nat, ¬ (i = 284 ∧ (j = 11 ∨ j = 12 ∨ j = 13 ∨ j = 14 ∨ j = 44 ∨ j = 48)) → ¬ i = 316 → ¬ ((i = 314 ∨ i = 315) ∧ rd m 284 44 ≤ (j : Int)) → rd m2 i j = rd m1 i j) (h13 : 0 ≤ rd m2 284 13) (h11 : rd m1 284 11 ≤ rd m2 284 11) (h44 : rd m1 284 44 ≤ rd m2 284 44) (hz : rd m2 284 13 = 0 → rd m1 284 13 = 0) : exF m m2 :=
  ⟨fun i j a b c => (f i j a b c).trans (h.1 i j a b c), h13, Int.le_trans h.2.2.1 h11, Int.le_trans h.2.2.2.1 h44, fun q => h.2.2.2.2 (hz q)⟩
theorem exF_un {m m1 m2 : Mm} (h : exF m m1) (u : unRel m1 m2) : exF m m2 :=
  exF_co h (fun i j a b c => u.2.2.2.2 i j (by omega) (by have := h.2.2.2.1; omega)) u.2.1 u.2.2.1 u.2.2.2.1 (fun q => (u.1 q).1)
theorem exF_step2 {m m1 m2 : Mm} {s a : Int} (h : exF m m1) (c : coRel m1 m2 s a) : exF m m2 := by
  have e13 := c.2.2.2.2 284 13 (by omega) (by omega)
  have e11 := c.2.2.2.2 284 11 (by omega) (by omega)
  have h4 := h.2.2.2.1
  have h2 := h.2.1
  exact exF_co h (fun i j p q r => c.2.2.2.2 i j (by omega) (by omega)) (by omega) (by omega) c.2.2.2.1 (fun q => by omega)
theorem exF_ft {m m1 m2 : Mm} (h : exF m m1) (f : ftRel m1 m2) (h13 : 0 ≤ rd m2 284 13) (h11 : rd m1 284 11 ≤ rd m2 284 11) (hz : rd m2 284 13 = 0 → rd m1 284 13 = 0) : exF m m2 :=
  exF_co h (fun i j p q r => f i j (by omega)) h13 h11 (by rw [f 284 44 (by omega)]; exact Int.le_refl _) hz
theorem exI_ft {m m2 : Mm} {s a k : Int} (h : exI m s a k) (f : ftRel m m2) (h11 : rd m 284 11 ≤ rd m2 284 11) : exI m2 s a k :=
  exI_fr h (f 284 44 (by omega)) (f 284 48 (by omega)) (f 284 12 (by omega)) h11 (fun j _ => f 314 j (by omega)) (fun j _ => f 315 j (by omega)) (fun j _ => f 316 j (by omega))
theorem exI_open {m m2 : Mm} {s a : Int} (h : exI m s a 0) (fr : ∀ i j : Nat, ¬ (i = 284 ∧ (j = 11 ∨ j = 12 ∨ j = 13 ∨ j = 14 ∨ j = 48)) → ¬ (i = 316 ∧ (j : Int) = rd m 284 48) → rd m2 i j = rd m i j) (ew : rd m2 284 48 = rd m 284 48 + 1) (e12 : rd m2 284 12 = rd m 284 12 + 1) (e6 : rd m2 316 (Int.toNat (rd m 284 48)) = 6) (h6 : rd m 284 12 + 1 ≤ 6) (et : rd m 284 11 ≤ rd m2 284 11) : exI m2 s a 0 := by
  have wb := exI_w h
  obtain ⟨h1, h2, h3, h4, h5, h6, h7⟩ := h
  have ho : opn m2 (Int.toNat (rd m 284 48)) = opn m (Int.toNat (rd m 284 48)) := opn_fr _ (fun j hj => fr 316 j (by omega) (by omega))
  have e1 : Int.toNat (rd m 284 48 + 1) = Int.toNat (rd m 284 48) + 1 := by omega
  have o1 : opn m2 (Int.toNat (rd m 284 48 + 1)) = opn m (Int.toNat (rd m 284 48)) + 1 := by
    rw [e1]
    show opn m2 _ + (if rd m2 316 _ = 6 then 1 else 0) = _
    rw [if_pos e6, ho]
  have c := fr 284 44 (by omega) (by omega)
  unfold exI
  rw [ew, e12, o1, c]
  refine ⟨by omega, fun i hi => cCo_fr (h2 i hi) (fun j hj => fr 314 _ (by omega) (by omega)) (fr 315 _ (by omega) (by omega)), ?_, fun i hi => ?_, by omega, by omega, by omega⟩
  · rw [hgt_fr _ (fun j hj => fr 314 _ (by omega) (by omega)), h3]
    omega
  · by_cases e : (i : Int) < rd m 284 48
    · exact wCo_fr (h4 i e) (fun j hj => fr 316 j (by omega) (by omega))
    · have ei : i = Int.toNat (rd m 284 48) := by omega
      subst ei
      refine Or.inl ⟨e6, ?_⟩
      rw [← e1, o1]
      omega
theorem exI_close {m m2 : Mm} {s a : Int} (h : exI m s a 1) (hw : 0 < rd m 284 48) (ht : rd m 316 (Int.toNat (rd m 284 48 - 1)) = 6) (fr : ∀ i j : Nat, ¬ (i = 284 ∧ (j = 11 ∨ j = 12 ∨ j = 13 ∨ j = 14 ∨ j = 48)) → rd m2 i j = rd m i j) (ew : rd m2 284 48 = rd m 284 48 - 1) (e12 : rd m2 284 12 = rd m 284 12 - 1) (et : rd m 284 11 ≤ rd m2 284 11) : exI m2 s a 1 := by
  have on := opn_6 hw ht
  obtain ⟨h1, h2, h3, h4, h5, h6, h7⟩ := h
  have ho : opn m2 (Int.toNat (rd m 284 48 - 1)) = opn m (Int.toNat (rd m 284 48 - 1)) := opn_fr _ (fun j hj => fr 316 j (by omega))
  have c := fr 284 44 (by omega)
  unfold exI
  rw [ew, e12, ho, c]
  refine ⟨by omega, fun i hi => cCo_fr (h2 i hi) (fun j hj => fr 314 _ (by omega)) (fr 315 _ (by omega)), ?_, fun i hi => wCo_fr (h4 i (by omega)) (fun j hj => fr 316 j (by omega)), by omega, by omega, by omega⟩
  rw [hgt_fr _ (fun j hj => fr 314 _ (by omega)), h3]
  omega
theorem exI_op {m m2 : Mm} {s a x v : Int} (h : exI m s a 1) (ht : coTop m x) (hx : (x = 1 ∧ (v = 10 ∨ v = 15)) ∨ (x = 0 ∧ (v = 8 ∨ v = 9))) (fr : ∀ i j : Nat, ¬ (i = 284 ∧ (j = 11 ∨ j = 12 ∨ j = 13 ∨ j = 14 ∨ j = 48)) → ¬ (i = 316 ∧ (j : Int) = rd m 284 48) → rd m2 i j = rd m i j) (ew : rd m2 284 48 = rd m 284 48 + 1) (e12 : rd m2 284 12 = rd m 284 12) (e6 : rd m2 316 (Int.toNat (rd m 284 48)) = v) (et : rd m 284 11 + 1 ≤ rd m2 284 11) : exI m2 s a 0 := by
  obtain ⟨h1, h2, h3, h4, h5, h6, h7⟩ := h
  have ho : opn m2 (Int.toNat (rd m 284 48)) = opn m (Int.toNat (rd m 284 48)) := opn_fr _ (fun j hj => fr 316 j (by omega) (by omega))
  have ob := opn_b m (Int.toNat (rd m 284 48))
  have e1 : Int.toNat (rd m 284 48 + 1) = Int.toNat (rd m 284 48) + 1 := by omega
  have o1 : opn m2 (Int.toNat (rd m 284 48 + 1)) = opn m (Int.toNat (rd m 284 48)) := by
    rw [e1]
    show opn m2 _ + (if rd m2 316 _ = 6 then 1 else 0) = _
    rw [if_neg (by rw [e6]; omega), ho, Int.add_zero]
  have c := fr 284 44 (by omega) (by omega)
  have tp : rd m 284 48 ≤ 3 * opn m (Int.toNat (rd m 284 48)) + (if x = 0 then 0 else 1) := by
    rcases ht with q | ⟨q0, q⟩
    · have : (0 : Int) ≤ (if x = 0 then 0 else 1) := by split <;> decide
      omega
    · have z := h4 (Int.toNat (rd m 284 48 - 1)) (by omega)
      have e2 : Int.toNat (rd m 284 48 - 1) + 1 = Int.toNat (rd m 284 48) := by omega
      unfold wCo at z
      rw [e2] at z
      split <;> omega
  unfold exI
  rw [ew, e12, o1, c]
  refine ⟨by omega, fun i hi => cCo_fr (h2 i hi) (fun j hj => fr 314 _ (by omega) (by omega)) (fr 315 _ (by omega) (by omega)), ?_, fun i hi => ?_, by omega, by omega, by omega⟩
  · rw [hgt_fr _ (fun j hj => fr 314 _ (by omega) (by omega)), h3]
    omega
  · by_cases e : (i : Int) < rd m 284 48
    · exact wCo_fr (h4 i e) (fun j hj => fr 316 j (by omega) (by omega))
    · have ei : i = Int.toNat (rd m 284 48) := by omega
      subst ei
      unfold wCo
      rw [← e1, o1, e6]
      rcases hx with ⟨rfl, hv⟩ | ⟨rfl, hv⟩
      · rw [if_neg (by decide)] at tp
        exact Or.inr (Or.inr ⟨hv, by omega⟩)
      · rw [if_pos rfl] at tp
        exact Or.inr (Or.inl ⟨hv, by omega⟩)
theorem co_pos {m : Mm} {s a : Int} (h : exI m s a 1) (ht : coTop m 0) (ho : 0 < rd m 284 12) : 0 < rd m 284 48 ∧ rd m 316 (Int.toNat (rd m 284 48 - 1)) = 6 := by
  obtain ⟨h1, h2, h3, h4, h5, h6, h7⟩ := h
  have ob := opn_b m (Int.toNat (rd m 284 48))
  rcases ht with q | ⟨q0, q | ⟨q, -⟩⟩
  · omega
  · exact ⟨q0, q⟩
  · exact absurd rfl q
theorem exP_f {m m2 : Mm} {s : Int} (h : exF m m2) (z : ¬ rd m2 284 13 = 0) : exP m m2 s := ⟨h, fun q => absurd q z⟩
theorem exI_seg {m : Mm} {s a : Int} (T : Ty m) (h : exI m s a 1) (hw : rd m 284 48 = 0) : segOk m a (rd m 284 44) := by
  obtain ⟨h1, h2, h3, h4, h5, h6, h7⟩ := h
  have t := ty_284_11 T
  have tc := ty_284_44 T
  rw [hw] at h3 h7
  have h3' : hgt m (Int.toNat a) (Int.toNat (rd m 284 44 - a)) = 1 := h3
  have h7' : rd m 284 44 - 420 * s + (0 - 0) ≤ rd m 284 11 := h7
  refine ⟨by omega, fun c => hgt m (Int.toNat a) (c - Int.toNat a), ?_, ?_, fun c x y => ?_⟩
  · show hgt m (Int.toNat a) (Int.toNat a - Int.toNat a) = 0
    rw [Nat.sub_self]
    rfl
  · show hgt m (Int.toNat a) (Int.toNat (rd m 284 44) - Int.toNat a) = 1
    rw [show Int.toNat (rd m 284 44) - Int.toNat a = Int.toNat (rd m 284 44 - a) by omega]
    exact h3'
  · have q := h2 (c - Int.toNat a) (by omega)
    have e : Int.toNat a + (c - Int.toNat a) = c := by omega
    have e2 : c + 1 - Int.toNat a = (c - Int.toNat a) + 1 := by omega
    have st : hgt m (Int.toNat a) (c + 1 - Int.toNat a) = hgt m (Int.toNat a) (c - Int.toNat a) + (if rd m 314 c < 2 then 1 else -1) := by
      rw [e2]
      show hgt m _ _ + (if rd m 314 (Int.toNat a + (c - Int.toNat a)) < 2 then 1 else -1) = _
      rw [e]
    unfold cCo at q
    rw [e] at q
    show (rd m 314 c < 2 ∧ hgt m (Int.toNat a) (c + 1 - Int.toNat a) = hgt m (Int.toNat a) (c - Int.toNat a) + 1 ∧ (rd m 314 c = 1 → rd m 315 c ≤ 8)) ∨ (2 ≤ rd m 314 c ∧ 2 ≤ hgt m (Int.toNat a) (c - Int.toNat a) ∧ hgt m (Int.toNat a) (c + 1 - Int.toNat a) = hgt m (Int.toNat a) (c - Int.toNat a) - 1)
    rcases q with ⟨q1, q2⟩ | ⟨q1, q2⟩
    · rw [if_pos q1] at st
      exact Or.inl ⟨q1, st, q2⟩
    · rw [if_neg (by omega)] at st
      exact Or.inr ⟨q1, q2, by omega⟩
theorem exP_e {m m1 m2 : Mm} {s : Int} (h : exF m m1) (h11 : rd m 284 11 + 1 ≤ rd m1 284 11) (ho : rd m1 284 13 = 0 → rd m1 284 12 ≤ 0) (T : Ty m2) (co : coRel m1 m2 s (rd m 284 44)) (ht : coTop m2 0) : exP m m2 s := by
  have xf := exF_step2 h co
  have e13 := co.2.2.2.2 284 13 (by omega) (by omega)
  have e12 := co.2.2.2.2 284 12 (by omega) (by omega)
  have e11 := co.2.2.2.2 284 11 (by omega) (by omega)
  refine ⟨xf, fun z => ?_⟩
  have o := ho (by omega)
  have b := exI_b co.1
  have hw : rd m2 284 48 = 0 := by
    by_cases q : 0 < rd m2 284 48
    · exfalso
      have on := co.1.2.2.2.2.1
      rcases ht with r | ⟨-, r | ⟨r, -⟩⟩
      · omega
      · have := opn_6 q r
        have := opn_b m2 (Int.toNat (rd m2 284 48 - 1))
        omega
      · exact absurd rfl r
    · omega
  exact ⟨exI_seg T co.1 hw, by omega, by omega, by omega⟩
-- TippedCratesModel.expression()V
set_option maxRecDepth 20000 in
theorem ct_199 {m0 m : Mm}   (g_m : PX m0 m)  (p0 : 0 ≤ rd m 284 13) (p1 : rd m 284 13 = 0 → rd m 284 12 = 0 ∧ 420 * rd m0 284 19 ≤ rd m 284 44 ∧ rd m 284 44 - 420 * rd m0 284 19 ≤ rd m 284 11) : CV 4 199 [.ref 284] m (fun m2 => PX m0 m2 ∧ (exP m m2 (rd m0 284 19))) := by
  refine br_199  ?_
  unfold P_199
  have hs := PX.s g_m
  have tt := ty_284_11 g_m.1
  have tc := ty_284_44 g_m.1
  intro m2 e_m2
  have g_m2 : PX m0 m2 := by rw [e_m2]; exact PX.wt g_m (tw_284_48 g_m.1 ⟨by omega, by omega⟩) (inP_284 (by omega))
  have n12 : rd m2 284 12 = rd m 284 12 := by rw [e_m2, rd_wt, if_neg (by omega)]
  have n13 : rd m2 284 13 = rd m 284 13 := by rw [e_m2, rd_wt, if_neg (by omega)]
  have t1 := ty_284_12 g_m2.1
  intro z1_9 e_z1_9
  have r_z1_9 : rg z1_9 := by rw [e_z1_9]; exact (rd_rg _ _ _)
  refine ⟨fun x2_12 m_12 => PX m0 m_12 ∧ ((x2_12 = 1 ∧ exF m m_12) ∧ (rd m_12 284 13 = 0 → exI m_12 (rd m0 284 19) (rd m 284 44) 0)), fun x2_12 m_12 => Int.toNat (10000 - rd m_12 284 11 - 1000 * rd m_12 284 13), ?_, ?_⟩
  · exact ⟨g_m2, by exact ⟨⟨rfl, exF_0 p0 e_m2⟩, fun h => exI_0 (by omega) e_m2 (p1 (by omega)) (by omega)⟩⟩
  · intro x2_12 m_12 r_x2_12 hI_12
    obtain ⟨g_m_12, hI_12⟩ := hI_12
    have f12 := hI_12.1.2.2.1
    have t12 := ty_284_11 g_m_12.1
    refine ⟨x2_12 = 0 ∨ ¬ rd m_12 284 13 = 0, ?_, ?_⟩
    · skip
      refine ⟨fun hq => ?_, fun hq => ?_⟩
      · skip
        (first | trivial | omega | (refine ⟨?_, ?_⟩ <;> omega))
      · skip
        refine ⟨fun hq => ?_, fun hq => ?_⟩
        · skip
          (first | trivial | omega | (refine ⟨?_, ?_⟩ <;> omega))
        · skip
          refine ⟨fun m_23 => PX m0 m_23 ∧ ((exF m m_23 ∧ rd m_12 284 11 ≤ rd m_23 284 11) ∧ (rd m_23 284 13 = 0 → exI m_23 (rd m0 284 19) (rd m 284 44) 0)), fun m_23 => Int.toNat (10000 - rd m_23 284 11 - 1000 * rd m_23 284 13), ?_, ?_⟩
          · exact ⟨g_m_12, by exact ⟨⟨hI_12.1.2, Int.le_refl _⟩, hI_12.2⟩⟩
          · intro m_23  hI_23
            obtain ⟨g_m_23, hI_23⟩ := hI_23
            have f23 := hI_23.1.1.2.1
            have t23 := ty_284_11 g_m_23.1
            refine CK.mono (ct_180   g_m_23.1 (by unfold rg; decide)) (by decide) ?_
            rintro m26 v26 r_v26 ⟨e_m26, h_m26⟩
            replace e_m26 := e_m26.symm
            subst e_m26
            refine ⟨fun hq => ?_, fun hq => ?_⟩
            · skip
              refine CV.mono (ct_200   g_m_23 f23 (fun h => by have := exI_b (hI_23.2 h); omega)) (by decide) ?_
              rintro m85 ⟨g_m85, h_m85⟩
              have un := h_m85
              have u11 := un.2.2.1
              have u13 := un.2.1
              have xf85 : exF m m85 := exF_un hI_23.1.1 un
              refine ⟨fun hq => ?_, fun hq => ?_⟩
              · skip
                refine ⟨fun m_96 => PX m0 m_96 ∧ ((exF m m_96 ∧ rd m_12 284 11 + 1 ≤ rd m_96 284 11) ∧ exI m_96 (rd m0 284 19) (rd m 284 44) 1), fun m_96 => Int.toNat (10000 - rd m_96 284 11 - 1000 * rd m_96 284 13), ?_, ?_⟩
                · exact ⟨g_m85, by exact ⟨⟨xf85, by have := (un.1 (by omega)).2.1; omega⟩, exI_unit (hI_23.2 (un.1 (by omega)).1) un (by omega)⟩⟩
                · intro m_96  hI_96
                  obtain ⟨g_m_96, hI_96⟩ := hI_96
                  have zb : z1_9 = 0 := by have := p1 (hI_12.1.2.2.2.2.2 (by omega)); omega
                  have f96 := hI_96.1.1.2.1
                  have t96 := ty_284_11 g_m_96.1
                  have eb96 := exI_b hI_96.2
                  refine CK.mono (ct_180   g_m_96.1 (by unfold rg; decide)) (by decide) ?_
                  rintro m99 v99 r_v99 ⟨e_m99, h_m99⟩
                  replace e_m99 := e_m99.symm
                  subst e_m99
                  refine ⟨True, ?_, ?_⟩
                  · skip
                    refine ⟨fun hq => ?_, fun hq => ?_⟩
                    · skip
                      (first | trivial | omega | (refine ⟨?_, ?_⟩ <;> omega))
                    · skip
                      have t4 := ty_284_12 g_m_96.1
                      refine ⟨fun hq => ?_, fun hq => ?_⟩
                      · skip
                        (first | trivial | omega | (refine ⟨?_, ?_⟩ <;> omega))
                      · skip
                        refine CV.mono (ct_198   g_m_96 (by unfold rg; decide) hI_96.2) (by decide) ?_
                        rintro m115 ⟨g_m115, h_m115⟩
                        have co := h_m115.1
                        have o115 : rd m115 284 12 = rd m_96 284 12 := co.2.2.2.2 284 12 (by omega) (by omega)
                        have a115 : rd m115 284 11 = rd m_96 284 11 := co.2.2.2.2 284 11 (by omega) (by omega)
                        have b115 : rd m115 284 13 = rd m_96 284 13 := co.2.2.2.2 284 13 (by omega) (by omega)
                        have pos := co_pos h_m115.1.1 h_m115.2 (by omega)
                        have eb115 := exI_b co.1
                        have t5 := ty_284_48 g_m115.1
                        try have w6 : wr ((rd m115 284 48) - 1) = (rd m115 284 48) - 1 := wr_id (by omega) (by omega)
                        intro m125 e_m125
                        have g_m125 : PX m0 m125 := by rw [e_m125]; exact PX.wt g_m115 (tw_284_48 g_m115.1 ⟨by omega, by omega⟩) (inP_284 (by omega))
                        have o125 : rd m125 284 12 = rd m_96 284 12 := by rw [e_m125, rd_wt, if_neg (by omega)]; exact o115
                        have t7 := ty_284_12 g_m125.1
                        try have w8 : wr ((rd m125 284 12) - 1) = (rd m125 284 12) - 1 := wr_id (by omega) (by omega)
                        intro m135 e_m135
                        have g_m135 : PX m0 m135 := by rw [e_m135]; exact PX.wt g_m125 (tw_284_12 g_m125.1 ⟨by omega, by omega⟩) (inP_284 (by omega))
                        have a135 : rd m135 284 11 = rd m_96 284 11 := by rw [e_m135, rd_wt, if_neg (by omega), e_m125, rd_wt, if_neg (by omega)]; exact a115
                        have b135 : rd m135 284 13 = rd m_96 284 13 := by rw [e_m135, rd_wt, if_neg (by omega), e_m125, rd_wt, if_neg (by omega)]; exact b115
                        refine CV.mono (ct_183   g_m135.1 (by omega)) (by decide) ?_
                        rintro m139 ⟨hx_m139, h_m139⟩
                        have g_m139 : PX m0 m139 := PX.ft g_m135 hx_m139
                        have ft139 := ft_go hx_m139 h_m139.2.1 h_m139.2.2
                        have FR139 : ∀ i j : Nat, ¬ (i = 284 ∧ (j = 11 ∨ j = 12 ∨ j = 13 ∨ j = 14 ∨ j = 48)) → rd m139 i j = rd m115 i j := fun i j h1 => by
                          rw [ft139 i j (by omega), e_m135, rd_wt, if_neg (by omega), e_m125, rd_wt, if_neg (by omega)]
                        have w139 : rd m139 284 48 = rd m115 284 48 - 1 := by rw [ft139 284 48 (by omega), e_m135, rd_wt, if_neg (by omega), e_m125, rd_wt, if_pos ⟨rfl, rfl⟩, wr_i (wr_rg _), wr_id (by omega) (by omega)]
                        have o139 : rd m139 284 12 = rd m115 284 12 - 1 := by rw [ft139 284 12 (by omega), e_m135, rd_wt, if_pos ⟨rfl, rfl⟩, wr_i (wr_rg _), o125, wr_id (by omega) (by omega), o115]
                        have xi139 := exI_close co.1 pos.1 pos.2 FR139 w139 o139 (by omega)
                        have xf139 : exF m m139 := exF_co (exF_step2 hI_96.1.1 co) (fun i j h1 h2 h3 => FR139 i j (by omega)) (by omega) (by omega) (by rw [FR139 284 44 (by omega)]; exact Int.le_refl _) (by omega)
                        exact ⟨⟨g_m139, by exact ⟨⟨xf139, by omega⟩, xi139⟩⟩, by (try dsimp only); omega⟩
                  · intro   hR_145
                    refine CK.mono (ct_180   g_m_96.1 (by unfold rg; decide)) (by decide) ?_
                    rintro m148 v148 r_v148 ⟨e_m148, h_m148⟩
                    replace e_m148 := e_m148.symm
                    subst e_m148
                    refine ⟨fun s0_186 m_186 => PX m0 m_186 ∧ (m_186 = m_96 ∧ ((s0_186 = 1 ∧ rd m_96 284 13 = 0 ∧ (rd m_96 287 (Int.toNat (rd m_96 284 11)) = 8 ∨ rd m_96 287 (Int.toNat (rd m_96 284 11)) = 9 ∨ rd m_96 287 (Int.toNat (rd m_96 284 11)) = 10 ∨ rd m_96 287 (Int.toNat (rd m_96 284 11)) = 15)) ∨ s0_186 = 0)), ?_, ?_⟩
                    · skip
                      refine ⟨fun m_181 => PX m0 m_181 ∧ (m_181 = m_96 ∧ rd m_96 284 13 = 0 ∧ (rd m_96 287 (Int.toNat (rd m_96 284 11)) = 8 ∨ rd m_96 287 (Int.toNat (rd m_96 284 11)) = 9 ∨ rd m_96 287 (Int.toNat (rd m_96 284 11)) = 10 ∨ rd m_96 287 (Int.toNat (rd m_96 284 11)) = 15)), ?_, ?_⟩
                      · skip
                        refine ⟨fun hq => ?_, fun hq => ?_⟩
                        · skip
                          exact ⟨g_m_96, by exact ⟨rfl, by omega, by omega⟩⟩
                        · skip
                          refine CK.mono (ct_180   g_m_96.1 (by unfold rg; decide)) (by decide) ?_
                          rintro m157 v157 r_v157 ⟨e_m157, h_m157⟩
                          replace e_m157 := e_m157.symm
                          subst e_m157
                          refine ⟨fun hq => ?_, fun hq => ?_⟩
                          · skip
                            exact ⟨g_m_96, by exact ⟨rfl, by omega, by omega⟩⟩
                          · skip
                            refine CK.mono (ct_180   g_m_96.1 (by unfold rg; decide)) (by decide) ?_
                            rintro m166 v166 r_v166 ⟨e_m166, h_m166⟩
                            replace e_m166 := e_m166.symm
                            subst e_m166
                            refine ⟨fun hq => ?_, fun hq => ?_⟩
                            · skip
                              exact ⟨g_m_96, by exact ⟨rfl, by omega, by omega⟩⟩
                            · skip
                              refine CK.mono (ct_180   g_m_96.1 (by unfold rg; decide)) (by decide) ?_
                              rintro m175 v175 r_v175 ⟨e_m175, h_m175⟩
                              replace e_m175 := e_m175.symm
                              subst e_m175
                              refine ⟨fun hq => ?_, fun hq => ?_⟩
                              · skip
                                exact ⟨g_m_96, by first | exact ⟨rfl, Or.inr rfl⟩ | exact ⟨rfl, Or.inl ⟨rfl, by omega, by omega⟩⟩⟩
                              · skip
                                exact ⟨g_m_96, by exact ⟨rfl, by omega, by omega⟩⟩
                      · intro m_181  hR_181
                        obtain ⟨g_m_181, hR_181⟩ := hR_181
                        obtain ⟨q181, hR_181⟩ := hR_181
                        subst q181
                        exact ⟨g_m_181, by first | exact ⟨rfl, Or.inr rfl⟩ | exact ⟨rfl, Or.inl ⟨rfl, by omega, by omega⟩⟩⟩
                    · intro s0_186 m_186 r_s0_186 hR_186
                      obtain ⟨g_m_186, hR_186⟩ := hR_186
                      obtain ⟨q186, hR_186⟩ := hR_186
                      subst q186
                      refine ⟨fun hq => ?_, fun hq => ?_⟩
                      · skip
                        refine CK.mono (ct_180   g_m_186.1 (by unfold rg; decide)) (by decide) ?_
                        rintro m214 v214 r_v214 ⟨e_m214, h_m214⟩
                        replace e_m214 := e_m214.symm
                        subst e_m214
                        refine ⟨fun s1_234 m_234 => PX m0 m_234 ∧ (m_234 = m_186 ∧ ((s1_234 = 1 ∧ (rd m_186 287 (Int.toNat (rd m_186 284 11)) = 10 ∨ rd m_186 287 (Int.toNat (rd m_186 284 11)) = 15)) ∨ (s1_234 = 0 ∧ (rd m_186 287 (Int.toNat (rd m_186 284 11)) = 8 ∨ rd m_186 287 (Int.toNat (rd m_186 284 11)) = 9)))), ?_, ?_⟩
                        · skip
                          refine ⟨fun m_229 => PX m0 m_229 ∧ (m_229 = m_186 ∧ (rd m_186 287 (Int.toNat (rd m_186 284 11)) = 10 ∨ rd m_186 287 (Int.toNat (rd m_186 284 11)) = 15)), ?_, ?_⟩
                          · skip
                            refine ⟨fun hq => ?_, fun hq => ?_⟩
                            · skip
                              exact ⟨g_m_186, by exact ⟨rfl, by omega⟩⟩
                            · skip
                              refine CK.mono (ct_180   g_m_186.1 (by unfold rg; decide)) (by decide) ?_
                              rintro m223 v223 r_v223 ⟨e_m223, h_m223⟩
                              replace e_m223 := e_m223.symm
                              subst e_m223
                              refine ⟨fun hq => ?_, fun hq => ?_⟩
                              · skip
                                exact ⟨g_m_186, by first | exact ⟨rfl, Or.inr ⟨rfl, by omega⟩⟩ | exact ⟨rfl, Or.inl ⟨rfl, by omega⟩⟩⟩
                              · skip
                                exact ⟨g_m_186, by exact ⟨rfl, by omega⟩⟩
                          · intro m_229  hR_229
                            obtain ⟨g_m_229, hR_229⟩ := hR_229
                            obtain ⟨q229, hR_229⟩ := hR_229
                            subst q229
                            exact ⟨g_m_229, by first | exact ⟨rfl, Or.inr ⟨rfl, by omega⟩⟩ | exact ⟨rfl, Or.inl ⟨rfl, by omega⟩⟩⟩
                        · intro s1_234 m_234 r_s1_234 hR_234
                          obtain ⟨g_m_234, hR_234⟩ := hR_234
                          obtain ⟨q234, hR_234⟩ := hR_234
                          subst q234
                          refine CV.mono (ct_198   g_m_234 r_s1_234 hI_96.2) (by decide) ?_
                          rintro m234 ⟨g_m234, h_m234⟩
                          have co := h_m234.1
                          have t234 : rd m234 284 11 = rd m_234 284 11 := co.2.2.2.2 284 11 (by omega) (by omega)
                          have b234 : rd m234 284 13 = rd m_234 284 13 := co.2.2.2.2 284 13 (by omega) (by omega)
                          have k234 : rd m234 287 (Int.toNat (rd m234 284 11)) = rd m_234 287 (Int.toNat (rd m_234 284 11)) := by rw [t234]; exact co.2.2.2.2 287 _ (by omega) (by omega)
                          have eb234 := exI_b co.1
                          have t9 := ty_284_11 g_m234.1
                          refine ⟨⟨by omega, by omega⟩, ?_⟩
                          have t10 := ty_284_48 g_m234.1
                          refine ⟨⟨by omega, by omega⟩, ?_⟩
                          have t11 := ty_287 g_m234.1 (Int.toNat (rd m234 284 11))
                          intro m254 e_m254
                          have g_m254 : PX m0 m254 := by rw [e_m254]; exact PX.wt g_m234 (tw_316 g_m234.1 (rd_rg _ _ _)) inP_316
                          have w254 : rd m254 284 48 = rd m234 284 48 := by rw [e_m254, rd_wt, if_neg (by omega)]
                          have t12 := ty_284_48 g_m254.1
                          try have w13 : wr ((rd m254 284 48) + 1) = (rd m254 284 48) + 1 := wr_id (by omega) (by omega)
                          intro m262 e_m262
                          have g_m262 : PX m0 m262 := by rw [e_m262]; exact PX.wt g_m254 (tw_284_48 g_m254.1 ⟨by omega, by omega⟩) (inP_284 (by omega))
                          have a262 : rd m262 284 11 = rd m234 284 11 := by rw [e_m262, rd_wt, if_neg (by omega), e_m254, rd_wt, if_neg (by omega)]
                          have b262 : rd m262 284 13 = rd m234 284 13 := by rw [e_m262, rd_wt, if_neg (by omega), e_m254, rd_wt, if_neg (by omega)]
                          refine CV.mono (ct_183   g_m262.1 (by omega)) (by decide) ?_
                          rintro m266 ⟨hx_m266, h_m266⟩
                          have g_m266 : PX m0 m266 := PX.ft g_m262 hx_m266
                          have ft266 := ft_go hx_m266 h_m266.2.1 h_m266.2.2
                          have FR266 : ∀ i j : Nat, ¬ (i = 284 ∧ (j = 11 ∨ j = 12 ∨ j = 13 ∨ j = 14 ∨ j = 48)) → ¬ (i = 316 ∧ (j : Int) = rd m234 284 48) → rd m266 i j = rd m234 i j := fun i j h1 h2 => by
                            rw [ft266 i j (by omega), e_m262, rd_wt, if_neg (by omega), e_m254, rd_wt, if_neg (by omega)]
                          have o266 : rd m266 284 12 = rd m234 284 12 := by rw [ft266 284 12 (by omega), e_m262, rd_wt, if_neg (by omega), e_m254, rd_wt, if_neg (by omega)]
                          have w266 : rd m266 284 48 = rd m234 284 48 + 1 := by rw [ft266 284 48 (by omega), e_m262, rd_wt, if_pos ⟨rfl, rfl⟩, w254, wr_i (wr_rg _), wr_id (by omega) (by omega)]
                          have s266 : rd m266 316 (Int.toNat (rd m234 284 48)) = rd m234 287 (Int.toNat (rd m234 284 11)) := by rw [ft266 316 _ (by omega), e_m262, rd_wt, if_neg (by omega), e_m254, rd_wt, if_pos ⟨rfl, rfl⟩, wr_i (rd_rg _ _ _)]
                          have xf266 : exF m m266 := exF_co (exF_step2 hI_96.1.1 co) (fun i j h1 h2 h3 => FR266 i j (by omega) (by omega)) (by omega) (by omega) (by rw [FR266 284 44 (by omega) (by omega)]; exact Int.le_refl _) (by omega)
                          exact ⟨⟨g_m266, by exact ⟨⟨by omega, xf266⟩, fun h => exI_op co.1 h_m234.2 (by omega) FR266 w266 o266 s266 (by omega)⟩⟩, by (try dsimp only); omega⟩
                      · skip
                        have t14 := ty_284_12 g_m_186.1
                        refine ⟨fun m_204 => PX m0 m_204 ∧ (exF m m_204 ∧ exI m_204 (rd m0 284 19) (rd m 284 44) 1 ∧ rd m 284 11 + 1 ≤ rd m_204 284 11 ∧ (rd m_204 284 13 = 0 → rd m_204 284 12 ≤ 0)), ?_, ?_⟩
                        · skip
                          refine ⟨fun hq => ?_, fun hq => ?_⟩
                          · skip
                            exact ⟨g_m_186, by first | exact ⟨exF_ft hI_96.1.1 ft201 (by omega) (by omega) (by omega), exI_ft hI_96.2 ft201 (by omega), by have := hI_96.1.1.2.2.1; have := hI_12.1.2.2.2.1; omega, fun h => by omega⟩ | exact ⟨hI_96.1.1, hI_96.2, by have := hI_12.1.2.2.2.1; omega, fun h => by omega⟩⟩
                          · skip
                            refine CV.mono (ct_181   g_m_186.1 (by unfold rg; decide) (by omega) (by omega)) (by decide) ?_
                            rintro m201 ⟨hx_m201, h_m201⟩
                            have g_m201 : PX m0 m201 := PX.ft g_m_186 hx_m201
                            have ft201 := ft_go hx_m201 h_m201.2.2.1 h_m201.2.2.2
                            exact ⟨g_m201, by first | exact ⟨exF_ft hI_96.1.1 ft201 (by omega) (by omega) (by omega), exI_ft hI_96.2 ft201 (by omega), by have := hI_96.1.1.2.2.1; have := hI_12.1.2.2.2.1; omega, fun h => by omega⟩ | exact ⟨hI_96.1.1, hI_96.2, by have := hI_12.1.2.2.2.1; omega, fun h => by omega⟩⟩
                        · intro m_204  hR_204
                          obtain ⟨g_m_204, hR_204⟩ := hR_204
                          have xf204 : exF m m_204 := hR_204.1
                          refine CV.mono (ct_198   g_m_204 (by unfold rg; decide) hR_204.2.1) (by decide) ?_
                          rintro m206 ⟨g_m206, h_m206⟩
                          exact ⟨g_m206, by first | exact exP_f hI_12.1.2 (by omega) | exact exP_f xf85 (by omega) | exact exP_e hR_204.1 hR_204.2.2.1 hR_204.2.2.2 g_m206.1 h_m206.1 h_m206.2⟩
              · skip
                exact ⟨g_m85, by first | exact exP_f hI_12.1.2 (by omega) | exact exP_f xf85 (by omega) | exact exP_e hR_204.1 hR_204.2.2.1 hR_204.2.2.2 g_m206.1 h_m206.1 h_m206.2⟩
            · skip
              have t15 := ty_284_12 g_m_23.1
              refine ⟨fun m_46 => PX m0 m_46 ∧ (ftRel m_23 m_46 ∧ rd m_46 284 11 = rd m_23 284 11 ∧ 0 ≤ rd m_46 284 13 ∧ (rd m_46 284 13 = 0 → ¬ rd m_23 284 12 = 6)), ?_, ?_⟩
              · skip
                refine ⟨fun hq => ?_, fun hq => ?_⟩
                · skip
                  exact ⟨g_m_23, by first | exact ⟨fun _ _ _ => rfl, rfl, by omega, fun _ => by omega⟩ | exact ⟨ft_go hx_m43 h_m43.2.2.1 h_m43.2.2.2, h_m43.2.1, by omega, fun h => by omega⟩⟩
                · skip
                  refine CV.mono (ct_181   g_m_23.1 (by unfold rg; decide) (by omega) (by omega)) (by decide) ?_
                  rintro m43 ⟨hx_m43, h_m43⟩
                  have g_m43 : PX m0 m43 := PX.ft g_m_23 hx_m43
                  exact ⟨g_m43, by first | exact ⟨fun _ _ _ => rfl, rfl, by omega, fun _ => by omega⟩ | exact ⟨ft_go hx_m43 h_m43.2.2.1 h_m43.2.2.2, h_m43.2.1, by omega, fun h => by omega⟩⟩
              · intro m_46  hR_46
                obtain ⟨g_m_46, hR_46⟩ := hR_46
                have eb23 := exI_b (hI_23.2 (by omega))
                have o46 : rd m_46 284 12 = rd m_23 284 12 := hR_46.1 284 12 (by omega)
                have t16 := ty_284_12 g_m_46.1
                try have w17 : wr ((rd m_46 284 12) + 1) = (rd m_46 284 12) + 1 := wr_id (by omega) (by omega)
                intro m53 e_m53
                have g_m53 : PX m0 m53 := by rw [e_m53]; exact PX.wt g_m_46 (tw_284_12 g_m_46.1 ⟨by omega, by omega⟩) (inP_284 (by omega))
                have b53 : rd m53 284 13 = rd m_46 284 13 := by rw [e_m53, rd_wt, if_neg (by omega)]
                refine CV.mono (ct_183   g_m53.1 (by omega)) (by decide) ?_
                rintro m57 ⟨hx_m57, h_m57⟩
                have g_m57 : PX m0 m57 := PX.ft g_m53 hx_m57
                have ft57 := ft_go hx_m57 h_m57.2.1 h_m57.2.2
                have w57 : rd m57 284 48 = rd m_23 284 48 := by rw [ft57 284 48 (by omega), e_m53, rd_wt, if_neg (by omega), hR_46.1 284 48 (by omega)]
                have a53 : rd m53 284 11 = rd m_23 284 11 := by rw [e_m53, rd_wt, if_neg (by omega)]; exact hR_46.2.1
                have b53 : rd m53 284 13 = rd m_46 284 13 := by rw [e_m53, rd_wt, if_neg (by omega)]
                have t18 := ty_284_48 g_m57.1
                refine ⟨⟨by omega, by omega⟩, ?_⟩
                intro m70 e_m70
                have g_m70 : PX m0 m70 := by rw [e_m70]; exact PX.wt g_m57 (tw_316 g_m57.1 (by first | assumption | omega)) inP_316
                have w70 : rd m70 284 48 = rd m_23 284 48 := by rw [e_m70, rd_wt, if_neg (by omega)]; exact w57
                have t19 := ty_284_48 g_m70.1
                try have w20 : wr ((rd m70 284 48) + 1) = (rd m70 284 48) + 1 := wr_id (by omega) (by omega)
                intro m78 e_m78
                have g_m78 : PX m0 m78 := by rw [e_m78]; exact PX.wt g_m70 (tw_284_48 g_m70.1 ⟨by omega, by omega⟩) (inP_284 (by omega))
                have FR78 : ∀ i j : Nat, ¬ (i = 284 ∧ (j = 11 ∨ j = 12 ∨ j = 13 ∨ j = 14 ∨ j = 48)) → ¬ (i = 316 ∧ (j : Int) = rd m_23 284 48) → rd m78 i j = rd m_23 i j := fun i j h1 h2 => by
                  rw [e_m78, rd_wt, if_neg (by omega), e_m70, rd_wt, if_neg (by omega), ft57 i j (by omega), e_m53, rd_wt, if_neg (by omega), hR_46.1 i j (by omega)]
                have w78 : rd m78 284 48 = rd m_23 284 48 + 1 := by rw [e_m78, rd_wt, if_pos ⟨rfl, rfl⟩, w70, wr_i (wr_rg _), wr_id (by omega) (by omega)]
                have o78 : rd m78 284 12 = rd m_23 284 12 + 1 := by rw [e_m78, rd_wt, if_neg (by omega), e_m70, rd_wt, if_neg (by omega), ft57 284 12 (by omega), e_m53, rd_wt, if_pos ⟨rfl, rfl⟩, wr_i (wr_rg _), hR_46.1 284 12 (by omega), wr_id (by omega) (by omega)]
                have s78 : rd m78 316 (Int.toNat (rd m_23 284 48)) = 6 := by rw [e_m78, rd_wt, if_neg (by omega), e_m70, w57, rd_wt, if_pos ⟨rfl, rfl⟩]; rfl
                have t78 : rd m78 284 11 = rd m57 284 11 := by rw [e_m78, rd_wt, if_neg (by omega), e_m70, rd_wt, if_neg (by omega)]
                have f78 : rd m78 284 13 = rd m57 284 13 := by rw [e_m78, rd_wt, if_neg (by omega), e_m70, rd_wt, if_neg (by omega)]
                exact ⟨⟨g_m78, by exact ⟨⟨exF_co hI_23.1.1 (fun i j h1 h2 h3 => FR78 i j (by omega) (by omega)) (by omega) (by omega) (by rw [FR78 284 44 (by omega) (by omega)]; exact Int.le_refl _) (by omega), by omega⟩, fun h => exI_open (hI_23.2 (by omega)) FR78 w78 o78 s78 (by omega) (by omega)⟩⟩, by (try dsimp only); omega⟩
    · intro   hR_272
      exact ⟨g_m_12, by first | exact exP_f hI_12.1.2 (by omega) | exact exP_f xf85 (by omega) | exact exP_e hR_204.1 hR_204.2.2.1 hR_204.2.2.2 g_m206.1 h_m206.1 h_m206.2⟩
