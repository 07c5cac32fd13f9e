/-- what a call answers, as a function of the memory: the small machine is one -/
noncomputable def valOf (k : Nat) (as : List Value) (m : Mm) : Int := Classical.epsilon (fun v : Int => rg v ∧ ∃ (N D : Nat) (h : mm_H), mm_E N D k as (fm m) = some (h, some (iv v)))
theorem iv_inj {v w : Int} (hv : rg v) (hw : rg w) (h : iv v = iv w) : v = w := by
  have e : Int32.ofInt v = Int32.ofInt w := Value.int.inj h
  have e2 := congrArg Int32.toInt e
  rw [to_of_rg hv, to_of_rg hw] at e2
  exact e2
theorem CK_val {d k : Nat} {as : List Value} {m : Mm} {Q : Mm → Int → Prop} (h : CK d k as m Q) : CK d k as m (fun m2 v => Q m2 v ∧ v = valOf k as m) := by
  obtain ⟨N, h2, r, e, m2, v, e1, e2, e3, q⟩ := h
  subst e2
  refine ⟨N, h2, _, e, m2, v, e1, rfl, e3, q, ?_⟩
  have sp := Classical.epsilon_spec (p := fun v : Int => rg v ∧ ∃ (N D : Nat) (h : mm_H), mm_E N D k as (fm m) = some (h, some (iv v))) ⟨v, e3, N, d, h2, e⟩
  obtain ⟨r2, N2, D2, h3, e4⟩ := sp
  have a1 := mm_E_mo (Nat.le_max_left N N2) (Nat.le_max_left d D2) _ _ _ _ e
  have a2 := mm_E_mo (Nat.le_max_right N N2) (Nat.le_max_right d D2) _ _ _ _ e4
  rw [a1] at a2
  have a3 := congrArg Prod.snd (Option.some.inj a2)
  exact iv_inj e3 r2 (Option.some.inj a3)
theorem ct_260v {m : Mm} {x1 : Int} {x2 : Int}  (T_m : Ty m) (r_x1 : rg x1) (r_x2 : rg x2) (p0 : 0 ≤ x1 ∧ x1 ≤ 2) (p1 : 0 ≤ x2 ∧ x2 ≤ 599) : CK 4 260 [.ref 284, iv x1, iv x2] m (fun m2 v => m2 = m ∧ ((v = -2 ∨ (0 ≤ v ∧ v ≤ 3)) ∧ v = valOf 260 [.ref 284, iv x1, iv x2] m)) :=
  (CK_val (ct_260 T_m r_x1 r_x2 p0 p1)).mono (Nat.le_refl _) (fun _ _ _ h => ⟨h.1.1, h.1.2, h.2⟩)
def smf (f : Nat → Nat) : Nat → Nat
  | 0 => 0
  | n + 1 => smf f n + f n
theorem sm_eq {f g : Nat → Nat} : ∀ N : Nat, (∀ j, j < N → f j = g j) → smf f N = smf g N
  | 0, _ => rfl
  | N + 1, h => by
    show smf f N + f N = smf g N + g N
    rw [sm_eq N (fun j hj => h j (by omega)), h N (by omega)]
theorem sm_up {f g : Nat → Nat} {z : Nat} (h : ∀ j, ¬ j = z → g j = f j) : ∀ N : Nat, z < N → smf g N + f z = smf f N + g z
  | 0, hz => absurd hz (by omega)
  | N + 1, hz => by
    show smf g N + g N + f z = smf f N + f N + g z
    by_cases e : z = N
    · subst e
      have := sm_eq (f := g) (g := f) z (fun j hj => h j (by omega))
      omega
    · have := sm_up h N (by omega)
      have := h N (by omega)
      omega
theorem sm_le {f : Nat → Nat} {c : Nat} (h : ∀ j, f j ≤ c) : ∀ N : Nat, smf f N ≤ c * N
  | 0 => Nat.zero_le _
  | N + 1 => by
    show smf f N + f N ≤ c * (N + 1)
    have := sm_le h N
    have := h N
    rw [Nat.mul_add]
    omega
theorem sm_ge {f : Nat → Nat} {z : Nat} : ∀ N : Nat, z < N → f z ≤ smf f N
  | 0, hz => absurd hz (by omega)
  | N + 1, hz => by
    show f z ≤ smf f N + f N
    by_cases e : z = N
    · subst e; omega
    · have := sm_ge (f := f) (z := z) N (by omega); omega
def chN (m : Mm) : Nat := smf (fun s => if rd m 330 s < 0 then 0 else 1) 600
def chPot (m : Mm) : Nat := smf (fun s => if rd m 330 s < 0 then 60000 else Int.toNat (rd m 330 s)) 600
def chOk (m : Mm) : Prop := ∀ s : Nat, s < 600 → rd m 330 s + 99 ≤ 99 * (chN m : Int)
theorem chN_le (m : Mm) : chN m ≤ 600 := by
  have := sm_le (f := fun s => if rd m 330 s < 0 then 0 else 1) (c := 1) (fun j => by show (if rd m 330 j < 0 then 0 else 1) ≤ 1; split <;> omega) 600
  unfold chN
  omega
theorem ch_one {m : Mm} {z : Nat} (hz : z < 600) (h : ∀ j : Nat, j < 600 → rd m 330 j = -1) : chOk (wt m 330 z 0) := by
  have e : ∀ s : Nat, s < 600 → rd (wt m 330 z 0) 330 s ≤ 0 := fun s hs => by
    rw [rd_wt]
    split
    · decide
    · rw [h s hs]; decide
  have ez : rd (wt m 330 z 0) 330 z = 0 := by rw [rd_wt, if_pos ⟨rfl, rfl⟩]; rfl
  have := sm_ge (f := fun s => if rd (wt m 330 z 0) 330 s < 0 then 0 else 1) (z := z) 600 hz
  have e1 : (if rd (wt m 330 z 0) 330 z < 0 then 0 else 1) = 1 := by rw [ez]; rfl
  have n1 : 1 ≤ chN (wt m 330 z 0) := by
    unfold chN
    have q : (fun s => if rd (wt m 330 z 0) 330 s < 0 then 0 else 1) z = 1 := e1
    omega
  intro s hs
  have := e s hs
  omega
theorem ch_set {m : Mm} {z : Nat} {v : Int} (h : chOk m) (hz : z < 600) (h0 : 0 ≤ v) (h1 : v ≤ 99 * (chN m : Int)) (hs : rd m 330 z < 0 ∨ v < rd m 330 z) : chOk (wt m 330 z v) ∧ chPot (wt m 330 z v) < chPot m := by
  have hn := chN_le m
  have wv : wr v = v := wr_id (by omega) (by omega)
  have ez : rd (wt m 330 z v) 330 z = v := by rw [rd_wt, if_pos ⟨rfl, rfl⟩, wv]
  have en : ∀ j, ¬ j = z → rd (wt m 330 z v) 330 j = rd m 330 j := fun j hj => by rw [rd_wt, if_neg (fun q => hj q.2)]
  have s1 := sm_up (f := fun s => if rd m 330 s < 0 then 0 else 1) (g := fun s => if rd (wt m 330 z v) 330 s < 0 then 0 else 1) (z := z) (fun j hj => by show (if rd (wt m 330 z v) 330 j < 0 then 0 else 1) = (if rd m 330 j < 0 then 0 else 1); rw [en j hj]) 600 hz
  have s2 := sm_up (f := fun s => if rd m 330 s < 0 then 60000 else Int.toNat (rd m 330 s)) (g := fun s => if rd (wt m 330 z v) 330 s < 0 then 60000 else Int.toNat (rd (wt m 330 z v) 330 s)) (z := z) (fun j hj => by show (if rd (wt m 330 z v) 330 j < 0 then 60000 else Int.toNat (rd (wt m 330 z v) 330 j)) = (if rd m 330 j < 0 then 60000 else Int.toNat (rd m 330 j)); rw [en j hj]) 600 hz
  have f1 : chN (wt m 330 z v) + (if rd m 330 z < 0 then 0 else 1) = chN m + (if rd (wt m 330 z v) 330 z < 0 then 0 else 1) := s1
  have f2 : chPot (wt m 330 z v) + (if rd m 330 z < 0 then 60000 else Int.toNat (rd m 330 z)) = chPot m + (if rd (wt m 330 z v) 330 z < 0 then 60000 else Int.toNat (rd (wt m 330 z v) 330 z)) := s2
  have i1 : (if v < 0 then 0 else 1) = (1 : Nat) := if_neg (by omega)
  have i2 : (if v < 0 then 60000 else Int.toNat v) = Int.toNat v := if_neg (by omega)
  rw [ez, i1] at f1
  rw [ez, i2] at f2
  have hz2 := h z hz
  have key : (rd m 330 z < 0 ∧ chN (wt m 330 z v) = chN m + 1 ∧ chPot (wt m 330 z v) + 60000 = chPot m + Int.toNat v) ∨ (v < rd m 330 z ∧ chN (wt m 330 z v) = chN m ∧ chPot (wt m 330 z v) + Int.toNat (rd m 330 z) = chPot m + Int.toNat v) := by
    by_cases c : rd m 330 z < 0
    · rw [if_pos c] at f1 f2
      exact Or.inl ⟨c, by omega, f2⟩
    · rw [if_neg c] at f1 f2
      exact Or.inr ⟨by omega, by omega, f2⟩
  refine ⟨fun s hs2 => ?_, by omega⟩
  by_cases e : s = z
  · subst e
    rw [ez]
    omega
  · rw [en s e]
    have := h s hs2
    omega
-- TippedCratesModel.fewest(IIII)I
set_option maxRecDepth 20000 in
theorem ct_250 {m0 m : Mm} {x1 : Int} {x2 : Int} {x3 : Int} {x4 : Int}  (g_m : G m0 m) (r_x1 : rg x1) (r_x2 : rg x2) (r_x3 : rg x3) (r_x4 : rg x4) (p0 : MW m0) : CK 6 250 [.ref 284, iv x1, iv x2, iv x3, iv x4] m (fun m2 v => G m0 m2 ∧ (True)) := by
  refine br_250 r_x1 r_x2 r_x3 r_x4 ?_
  unfold P_250
  refine CK.mono (ct_210   g_m.1 r_x1) (by decide) ?_
  rintro m2 v2 r_v2 ⟨e_m2, h_m2⟩
  replace e_m2 := e_m2.symm
  subst e_m2
  refine ⟨fun m_29 => G m0 m_29 ∧ (True), ?_, ?_⟩
  · skip
    refine ⟨fun hq => ?_, fun hq => ?_⟩
    · skip
      exact ⟨g_m, by first | trivial | omega | (refine ⟨?_, ?_⟩ <;> omega)⟩
    · skip
      refine CK.mono (ct_209   g_m.1 r_x2 (MW_G p0 g_m)) (by decide) ?_
      rintro m10 v10 r_v10 ⟨e_m10, h_m10⟩
      replace e_m10 := e_m10.symm
      subst e_m10
      refine ⟨fun hq => ?_, fun hq => ?_⟩
      · skip
        exact ⟨g_m, by first | trivial | omega | (refine ⟨?_, ?_⟩ <;> omega)⟩
      · skip
        refine CK.mono (ct_211   r_x3) (by decide) ?_
        rintro m17 v17 r_v17 ⟨e_m17, h_m17⟩
        replace e_m17 := e_m17.symm
        subst e_m17
        refine ⟨fun hq => ?_, fun hq => ?_⟩
        · skip
          exact ⟨g_m, by first | trivial | omega | (refine ⟨?_, ?_⟩ <;> omega)⟩
        · skip
          refine ⟨fun hq => ?_, fun hq => ?_⟩
          · skip
            refine CV.mono (ct_249   g_m r_x1 p0 (by omega)) (by decide) ?_
            rintro m33 ⟨g_m33, h_m33⟩
            refine ⟨fun x5_39 m_39 => G m0 m_39 ∧ ((0 ≤ x5_39 ∧ x5_39 ≤ rd m_39 284 67) ∧ lineOk m_39), fun x5_39 m_39 => Int.toNat (600 - x5_39), ?_, ?_⟩
            · exact ⟨g_m33, by exact ⟨by have := h_m33.1; omega, h_m33⟩⟩
            · intro x5_39 m_39 r_x5_39 hI_39
              obtain ⟨g_m_39, hI_39⟩ := hI_39
              have t67 := ty_284_67 g_m_39.1
              have t1 := ty_284_67 g_m_39.1
              refine ⟨fun m_85 => G m0 m_85 ∧ ((0 ≤ x5_39 ∧ x5_39 ≤ rd m_85 284 67) ∧ lineOk m_85), ?_, ?_⟩
              · skip
                refine ⟨fun hq => ?_, fun hq => ?_⟩
                · skip
                  exact ⟨g_m_39, by exact ⟨by omega, hI_39.2⟩⟩
                · skip
                  refine ⟨⟨by omega, by omega⟩, ?_⟩
                  have t2 := ty_329 g_m_39.1 (Int.toNat x5_39)
                  try have q3 : dvI (rd m_39 329 (Int.toNat x5_39)) 24 = (rd m_39 329 (Int.toNat x5_39)) / 24 := dv_eq (by omega) (by omega) (by omega) (by omega)
                  refine ⟨fun m_79 => G m0 m_79 ∧ ((0 ≤ x5_39 ∧ x5_39 < rd m_79 284 67) ∧ lineOk m_79), ?_, ?_⟩
                  · skip
                    refine ⟨fun hq => ?_, fun hq => ?_⟩
                    · skip
                      exact ⟨g_m_39, by exact ⟨by omega, hI_39.2⟩⟩
                    · skip
                      refine ⟨⟨by omega, by omega⟩, ?_⟩
                      refine CK.mono (ct_248   g_m_39.1 r_x1 (rd_rg _ _ _) (by unfold rg; decide) (by omega) (by omega) (by omega)) (by decide) ?_
                      rintro m72 v72 r_v72 ⟨e_m72, h_m72⟩
                      replace e_m72 := e_m72.symm
                      subst e_m72
                      refine ⟨fun hq => ?_, fun hq => ?_⟩
                      · skip
                        exact ⟨g_m_39, by exact ⟨by omega, hI_39.2⟩⟩
                      · skip
                        exact ⟨g_m_39, by exact ⟨by omega, hI_39.2⟩⟩
                  · intro m_79  hR_79
                    obtain ⟨g_m_79, hR_79⟩ := hR_79
                    try have w4 : wr (x5_39 + 1) = x5_39 + 1 := wr_id (by omega) (by omega)
                    intro z5_79 e_z5_79
                    have r_z5_79 : rg z5_79 := by rw [e_z5_79]; exact wr_rg _
                    exact ⟨⟨g_m_79, by exact ⟨by omega, hR_79.2⟩⟩, by (try dsimp only); omega⟩
              · intro m_85  hR_85
                obtain ⟨g_m_85, hR_85⟩ := hR_85
                have t85 := ty_284_67 g_m_85.1
                have t5 := ty_284_67 g_m_85.1
                refine ⟨fun hq => ?_, fun hq => ?_⟩
                · skip
                  refine ⟨⟨by omega, by omega⟩, ?_⟩
                  have t6 := ty_329 g_m_85.1 (Int.toNat x5_39)
                  intro z6_104 e_z6_104
                  have r_z6_104 : rg z6_104 := by rw [e_z6_104]; exact (rd_rg _ _ _)
                  have f6 := hR_85.2.2.1 (Int.toNat x5_39) (by omega)
                  rw [← e_z6_104] at f6
                  refine ⟨fun hq => ?_, fun hq => ?_⟩
                  · skip
                    refine ⟨⟨by omega, by omega⟩, ?_⟩
                    refine ⟨fun hq => ?_, fun hq => ?_⟩
                    · skip
                      refine ⟨fun x6_134 => 0 ≤ x6_134 ∧ x6_134 ≤ 599, fun x6_134 => Int.toNat (rd m_85 326 (Int.toNat x6_134)), ?_, ?_⟩
                      · (first | omega | (refine ⟨?_, ?_⟩ <;> omega) | trivial)
                      · intro x6_134 r_x6_134 hI_134
                        refine ⟨⟨by omega, by omega⟩, ?_⟩
                        try have w9 : wr (x4 + 1) = x4 + 1 := wr_id (by omega) (by omega)
                        refine ⟨fun hq => ?_, fun hq => ?_⟩
                        · skip
                          refine ⟨⟨by omega, by omega⟩, ?_⟩
                          exact ⟨g_m_85, by first | trivial | omega | (refine ⟨?_, ?_⟩ <;> omega)⟩
                        · skip
                          refine ⟨⟨by omega, by omega⟩, ?_⟩
                          have t11 := ty_327 g_m_85.1 (Int.toNat x6_134)
                          intro z6_155 e_z6_155
                          have r_z6_155 : rg z6_155 := by rw [e_z6_155]; exact (rd_rg _ _ _)
                          have q4 := hR_85.2.2.2.2 (Int.toNat x6_134) (by omega) (by omega)
                          rw [← e_z6_155] at q4
                          exact ⟨by first | omega | (refine ⟨?_, ?_⟩ <;> omega) | trivial, by (try dsimp only); omega⟩
                    · skip
                      exact ⟨g_m_85, by first | trivial | omega | (refine ⟨?_, ?_⟩ <;> omega)⟩
                  · skip
                    refine ⟨⟨by omega, by omega⟩, ?_⟩
                    exact ⟨g_m_85, by first | trivial | omega | (refine ⟨?_, ?_⟩ <;> omega)⟩
                · skip
                  exact ⟨g_m_85, by first | trivial | omega | (refine ⟨?_, ?_⟩ <;> omega)⟩
          · skip
            exact ⟨g_m, by first | trivial | omega | (refine ⟨?_, ?_⟩ <;> omega)⟩
  · intro m_29  hR_29
    obtain ⟨g_m_29, hR_29⟩ := hR_29
    exact ⟨g_m_29, by first | trivial | omega | (refine ⟨?_, ?_⟩ <;> omega)⟩
-- TippedCratesModel.cheapest(II)I
set_option maxRecDepth 20000 in
theorem ct_251 {m0 m : Mm} {x1 : Int} {x2 : Int}  (g_m : G m0 m) (r_x1 : rg x1) (r_x2 : rg x2) (p0 : MW m0) (p1 : lawsM m0) : CK 6 251 [.ref 284, iv x1, iv x2] m (fun m2 v => G m0 m2 ∧ (True)) := by
  refine br_251 r_x1 r_x2 ?_
  unfold P_251
  refine CK.mono (ct_210   g_m.1 r_x1) (by decide) ?_
  rintro m2 v2 r_v2 ⟨e_m2, h_m2⟩
  replace e_m2 := e_m2.symm
  subst e_m2
  refine ⟨fun m_16 => G m0 m_16 ∧ (True), ?_, ?_⟩
  · skip
    refine ⟨fun hq => ?_, fun hq => ?_⟩
    · skip
      exact ⟨g_m, by first | trivial | omega | (refine ⟨?_, ?_⟩ <;> omega)⟩
    · skip
      refine CK.mono (ct_209   g_m.1 r_x2 (MW_G p0 g_m)) (by decide) ?_
      rintro m10 v10 r_v10 ⟨e_m10, h_m10⟩
      replace e_m10 := e_m10.symm
      subst e_m10
      refine ⟨fun hq => ?_, fun hq => ?_⟩
      · skip
        refine CV.mono (ct_249   g_m r_x1 p0 (by omega)) (by decide) ?_
        rintro m20 ⟨g_m20, h_m20⟩
        refine ⟨fun x3_25 m_25 => G m0 m_25 ∧ (0 ≤ x3_25 ∧ x3_25 ≤ 600), fun x3_25 m_25 => Int.toNat (600 - x3_25), ?_, ?_⟩
        · exact ⟨g_m20, by first | omega | (refine ⟨?_, ?_⟩ <;> omega) | trivial⟩
        · intro x3_25 m_25 r_x3_25 hI_25
          obtain ⟨g_m_25, hI_25⟩ := hI_25
          have t1 := ty_284_67 g_m_25.1
          refine ⟨fun hq => ?_, fun hq => ?_⟩
          · skip
            refine ⟨fun x3_116 m_116 => G m0 m_116 ∧ ((0 ≤ x3_116 ∧ x3_116 ≤ 600) ∧ ∀ j : Nat, (j : Int) < x3_116 → rd m_116 330 j = -1), fun x3_116 m_116 => Int.toNat (600 - x3_116), ?_, ?_⟩
            · exact ⟨g_m_25, by exact ⟨by omega, fun j hj => by omega⟩⟩
            · intro x3_116 m_116 r_x3_116 hI_116
              obtain ⟨g_m_116, hI_116⟩ := hI_116
              refine ⟨fun hq => ?_, fun hq => ?_⟩
              · skip
                have t2 := ty_329 g_m_116.1 0
                refine ⟨⟨by omega, by omega⟩, ?_⟩
                intro m147 e_m147
                have g_m147 : G m0 m147 := by rw [e_m147]; exact GX.wt g_m_116 (tw_330 g_m_116.1 (by first | assumption | omega)) (Eq.refl true)
                have c147 : chOk m147 := by rw [e_m147]; exact ch_one (by omega) (fun j hj => hI_116.2 j (by omega))
                refine ⟨fun x3_150 m_150 => G m0 m_150 ∧ ((x3_150 = 0 ∨ x3_150 = 1) ∧ chOk m_150), fun x3_150 m_150 => 2 * chPot m_150 + Int.toNat x3_150, ?_, ?_⟩
                · exact ⟨g_m147, by exact ⟨by omega, c147⟩⟩
                · intro x3_150 m_150 r_x3_150 hI_150
                  obtain ⟨g_m_150, hI_150⟩ := hI_150
                  refine ⟨fun hq => ?_, fun hq => ?_⟩
                  · skip
                    try have w3 : wr (24 * x2) = 24 * x2 := wr_id (by omega) (by omega)
                    intro z5_292 e_z5_292
                    have r_z5_292 : rg z5_292 := by rw [e_z5_292]; exact (wr_rg _)
                    refine ⟨fun x4_294 x5_294 => 24 * x2 ≤ x5_294 ∧ x5_294 ≤ 24 * x2 + 24, fun x4_294 x5_294 => Int.toNat (24 * x2 + 24 - x5_294), ?_, ?_⟩
                    · (first | omega | (refine ⟨?_, ?_⟩ <;> omega) | trivial)
                    · intro x4_294 x5_294 r_x4_294 r_x5_294 hI_294
                      try have w4 : wr ((wr (24 * x2)) + 24) = (wr (24 * x2)) + 24 := wr_id (by omega) (by omega)
                      refine ⟨fun hq => ?_, fun hq => ?_⟩
                      · skip
                        exact ⟨g_m_150, by first | trivial | omega | (refine ⟨?_, ?_⟩ <;> omega)⟩
                      · skip
                        refine ⟨⟨by omega, by omega⟩, ?_⟩
                        refine ⟨fun y4_342 => True, ?_, ?_⟩
                        · skip
                          refine ⟨fun hq => ?_, fun hq => ?_⟩
                          · skip
                            (first | trivial | omega | (refine ⟨?_, ?_⟩ <;> omega))
                          · skip
                            refine ⟨True, ?_, ?_⟩
                            · skip
                              refine ⟨fun hq => ?_, fun hq => ?_⟩
                              · skip
                                (first | trivial | omega | (refine ⟨?_, ?_⟩ <;> omega))
                              · skip
                                refine ⟨⟨by omega, by omega⟩, ?_⟩
                                refine ⟨fun hq => ?_, fun hq => ?_⟩
                                · skip
                                  (first | trivial | omega | (refine ⟨?_, ?_⟩ <;> omega))
                                · skip
                                  (first | trivial | omega | (refine ⟨?_, ?_⟩ <;> omega))
                            · intro   hR_333
                              refine ⟨⟨by omega, by omega⟩, ?_⟩
                              intro z4_340 e_z4_340
                              have r_z4_340 : rg z4_340 := by rw [e_z4_340]; exact (rd_rg _ _ _)
                              (first | trivial | omega | (refine ⟨?_, ?_⟩ <;> omega))
                        · intro y4_342 r_y4_342 hR_342
                          try have w6 : wr (x5_294 + 1) = x5_294 + 1 := wr_id (by omega) (by omega)
                          intro z5_342 e_z5_342
                          have r_z5_342 : rg z5_342 := by rw [e_z5_342]; exact wr_rg _
                          exact ⟨by first | omega | (refine ⟨?_, ?_⟩ <;> omega) | trivial, by (try dsimp only); omega⟩
                  · skip
                    refine ⟨fun x3_159 x4_159 m_159 => G m0 m_159 ∧ ((0 ≤ x4_159 ∧ x4_159 ≤ 2400) ∧ ((x3_159 = 0 ∧ chPot m_159 = chPot m_150) ∨ (x3_159 = 1 ∧ chPot m_159 < chPot m_150)) ∧ chOk m_159), fun x3_159 x4_159 m_159 => Int.toNat (2400 - x4_159), ?_, ?_⟩
                    · exact ⟨g_m_150, by exact ⟨by omega, by omega, hI_150.2⟩⟩
                    · intro x3_159 x4_159 m_159 r_x3_159 r_x4_159 hI_159
                      obtain ⟨g_m_159, hI_159⟩ := hI_159
                      have t7 := ty_284_67 g_m_159.1
                      try have w8 : wr (4 * (rd m_159 284 67)) = 4 * (rd m_159 284 67) := wr_id (by omega) (by omega)
                      refine ⟨fun hq => ?_, fun hq => ?_⟩
                      · skip
                        exact ⟨⟨g_m_159, by exact ⟨by omega, hI_159.2.2⟩⟩, by (try dsimp only); omega⟩
                      · skip
                        try have q9 : dvI x4_159 4 = x4_159 / 4 := dv_eq (by omega) (by omega) (by omega) (by omega)
                        refine ⟨⟨by omega, by omega⟩, ?_⟩
                        have t10 := ty_329 g_m_159.1 (Int.toNat (dvI x4_159 4))
                        intro z5_179 e_z5_179
                        have r_z5_179 : rg z5_179 := by rw [e_z5_179]; exact (rd_rg _ _ _)
                        have cb5 := hI_159.2.2 (Int.toNat z5_179) (by omega)
                        have nb5 := chN_le m_159
                        try have w11 : wr (4 * z5_179) = 4 * z5_179 := wr_id (by omega) (by omega)
                        try have q12 : rmI x4_159 4 = x4_159 % 4 := rm_eq (by omega) (by omega) (by omega) (by omega)
                        try have w13 : wr ((wr (4 * z5_179)) + (rmI x4_159 4)) = (wr (4 * z5_179)) + (rmI x4_159 4) := wr_id (by omega) (by omega)
                        refine ⟨⟨by omega, by omega⟩, ?_⟩
                        have t14 := ty_325 g_m_159.1 (Int.toNat (wr ((wr (4 * z5_179)) + (rmI x4_159 4))))
                        intro z6_195 e_z6_195
                        have r_z6_195 : rg z6_195 := by rw [e_z6_195]; exact (rd_rg _ _ _)
                        refine ⟨fun y3_275 m_275 => G m0 m_275 ∧ (((y3_275 = 0 ∧ chPot m_275 = chPot m_150) ∨ (y3_275 = 1 ∧ chPot m_275 < chPot m_150)) ∧ chOk m_275), ?_, ?_⟩
                        · skip
                          refine ⟨fun hq => ?_, fun hq => ?_⟩
                          · skip
                            exact ⟨g_m_159, by first | exact hI_159.2 | exact ⟨by omega, cs.1⟩⟩
                          · skip
                            refine ⟨⟨by omega, by omega⟩, ?_⟩
                            refine ⟨fun hq => ?_, fun hq => ?_⟩
                            · skip
                              refine ⟨⟨by omega, by omega⟩, ?_⟩
                              refine ⟨⟨by omega, by omega⟩, ?_⟩
                              have t16 := ty_331 g_m_159.1 (Int.toNat (wr ((wr (4 * z5_179)) + (rmI x4_159 4))))
                              try have w17 : wr ((rd m_159 330 (Int.toNat z5_179)) + (rd m_159 331 (Int.toNat (wr ((wr (4 * z5_179)) + (rmI x4_159 4)))))) = (rd m_159 330 (Int.toNat z5_179)) + (rd m_159 331 (Int.toNat (wr ((wr (4 * z5_179)) + (rmI x4_159 4))))) := wr_id (by omega) (by omega)
                              intro z7_237 e_z7_237
                              have r_z7_237 : rg z7_237 := by rw [e_z7_237]; exact (wr_rg _)
                              refine ⟨⟨by omega, by omega⟩, ?_⟩
                              refine ⟨rd m_159 330 (Int.toNat z6_195) < 0 ∨ z7_237 < rd m_159 330 (Int.toNat z6_195), ?_, ?_⟩
                              · skip
                                refine ⟨fun hq => ?_, fun hq => ?_⟩
                                · skip
                                  (first | trivial | omega | (refine ⟨?_, ?_⟩ <;> omega))
                                · skip
                                  refine ⟨⟨by omega, by omega⟩, ?_⟩
                                  refine ⟨fun hq => ?_, fun hq => ?_⟩
                                  · skip
                                    (first | trivial | omega | (refine ⟨?_, ?_⟩ <;> omega))
                                  · skip
                                    exact ⟨g_m_159, by first | exact hI_159.2 | exact ⟨by omega, cs.1⟩⟩
                              · intro   hR_264
                                refine ⟨⟨by omega, by omega⟩, ?_⟩
                                intro m272 e_m272
                                have g_m272 : G m0 m272 := by rw [e_m272]; exact GX.wt g_m_159 (tw_330 g_m_159.1 (by first | assumption | omega)) (Eq.refl true)
                                have cs := ch_set hI_159.2.2 (z := Int.toNat z6_195) (v := z7_237) (by omega) (by omega) (by omega) hR_264
                                rw [← e_m272] at cs
                                exact ⟨g_m272, by first | exact hI_159.2 | exact ⟨by omega, cs.1⟩⟩
                            · skip
                              exact ⟨g_m_159, by first | exact hI_159.2 | exact ⟨by omega, cs.1⟩⟩
                        · intro y3_275 m_275 r_y3_275 hR_275
                          obtain ⟨g_m_275, hR_275⟩ := hR_275
                          try have w19 : wr (x4_159 + 1) = x4_159 + 1 := wr_id (by omega) (by omega)
                          intro z4_275 e_z4_275
                          have r_z4_275 : rg z4_275 := by rw [e_z4_275]; exact wr_rg _
                          exact ⟨⟨g_m_275, by exact ⟨by omega, hR_275⟩⟩, by (try dsimp only); omega⟩
              · skip
                refine ⟨⟨by omega, by omega⟩, ?_⟩
                intro m129 e_m129
                have g_m129 : G m0 m129 := by rw [e_m129]; exact GX.wt g_m_116 (tw_330 g_m_116.1 (by first | assumption | omega)) (Eq.refl true)
                have f129 : ∀ j : Nat, (j : Int) < x3_116 + 1 → rd m129 330 j = -1 := fun j hj => by
                  rw [e_m129, rd_wt]
                  split
                  · rfl
                  · next q => exact hI_116.2 j (by omega)
                try have w20 : wr (x3_116 + 1) = x3_116 + 1 := wr_id (by omega) (by omega)
                intro z3_130 e_z3_130
                have r_z3_130 : rg z3_130 := by rw [e_z3_130]; exact wr_rg _
                exact ⟨⟨g_m129, by exact ⟨by omega, fun j hj => f129 j (by omega)⟩⟩, by (try dsimp only); omega⟩
          · skip
            refine ⟨fun x4_36 m_36 => G m0 m_36 ∧ (0 ≤ x4_36 ∧ x4_36 ≤ 4), fun x4_36 m_36 => Int.toNat (4 - x4_36), ?_, ?_⟩
            · exact ⟨g_m_25, by first | omega | (refine ⟨?_, ?_⟩ <;> omega) | trivial⟩
            · intro x4_36 m_36 r_x4_36 hI_36
              obtain ⟨g_m_36, hI_36⟩ := hI_36
              refine ⟨fun hq => ?_, fun hq => ?_⟩
              · skip
                try have w21 : wr (x3_25 + 1) = x3_25 + 1 := wr_id (by omega) (by omega)
                intro z3_108 e_z3_108
                have r_z3_108 : rg z3_108 := by rw [e_z3_108]; exact wr_rg _
                exact ⟨⟨g_m_36, by first | omega | (refine ⟨?_, ?_⟩ <;> omega) | trivial⟩, by (try dsimp only); omega⟩
              · skip
                refine ⟨⟨by omega, by omega⟩, ?_⟩
                have t22 := ty_329 g_m_36.1 (Int.toNat x3_25)
                try have w23 : wr (4 * (rd m_36 329 (Int.toNat x3_25))) = 4 * (rd m_36 329 (Int.toNat x3_25)) := wr_id (by omega) (by omega)
                try have w24 : wr ((wr (4 * (rd m_36 329 (Int.toNat x3_25)))) + x4_36) = (wr (4 * (rd m_36 329 (Int.toNat x3_25)))) + x4_36 := wr_id (by omega) (by omega)
                refine ⟨⟨by omega, by omega⟩, ?_⟩
                have t25 := ty_325 g_m_36.1 (Int.toNat (wr ((wr (4 * (rd m_36 329 (Int.toNat x3_25)))) + x4_36)))
                refine ⟨fun m_102 => G m0 m_102 ∧ (True), ?_, ?_⟩
                · skip
                  refine ⟨fun hq => ?_, fun hq => ?_⟩
                  · skip
                    exact ⟨g_m_36, by first | trivial | omega | (refine ⟨?_, ?_⟩ <;> omega)⟩
                  · skip
                    refine ⟨⟨by omega, by omega⟩, ?_⟩
                    refine ⟨⟨by omega, by omega⟩, ?_⟩
                    refine ⟨⟨by omega, by omega⟩, ?_⟩
                    try have q26 : dvI (rd m_36 329 (Int.toNat x3_25)) 24 = (rd m_36 329 (Int.toNat x3_25)) / 24 := dv_eq (by omega) (by omega) (by omega) (by omega)
                    try have q27 : rmI (rd m_36 329 (Int.toNat x3_25)) 24 = (rd m_36 329 (Int.toNat x3_25)) % 24 := rm_eq (by omega) (by omega) (by omega) (by omega)
                    refine CK.mono (ct_228   g_m_36.1 r_x1 (io_rg _ _ _) (io_rg _ _ _) r_x4_36 (MW_G p0 g_m_36) (laws_G p1 g_m_36) (by omega) (by omega) (by omega) (by omega)) (by decide) ?_
                    rintro m98 v98 r_v98 ⟨hx_m98, h_m98⟩
                    have g_m98 : G m0 m98 := gx_in g_m_36 hx_m98 in_sV_scr
                    refine ⟨⟨by omega, by omega⟩, ?_⟩
                    intro m101 e_m101
                    have g_m101 : G m0 m101 := by rw [e_m101]; exact GX.wt g_m98 (tw_331 g_m98.1 ⟨by omega, by omega⟩) (Eq.refl true)
                    exact ⟨g_m101, by first | trivial | omega | (refine ⟨?_, ?_⟩ <;> omega)⟩
                · intro m_102  hR_102
                  obtain ⟨g_m_102, hR_102⟩ := hR_102
                  try have w28 : wr (x4_36 + 1) = x4_36 + 1 := wr_id (by omega) (by omega)
                  intro z4_102 e_z4_102
                  have r_z4_102 : rg z4_102 := by rw [e_z4_102]; exact wr_rg _
                  exact ⟨⟨g_m_102, by first | omega | (refine ⟨?_, ?_⟩ <;> omega) | trivial⟩, by (try dsimp only); omega⟩
      · skip
        exact ⟨g_m, by first | trivial | omega | (refine ⟨?_, ?_⟩ <;> omega)⟩
  · intro m_16  hR_16
    obtain ⟨g_m_16, hR_16⟩ := hR_16
    exact ⟨g_m_16, by first | trivial | omega | (refine ⟨?_, ?_⟩ <;> omega)⟩
-- TippedCratesModel.richest(III)I
set_option maxRecDepth 20000 in
theorem ct_261 {m0 m : Mm} {x1 : Int} {x2 : Int} {x3 : Int}  (g_m : G m0 m) (r_x1 : rg x1) (r_x2 : rg x2) (r_x3 : rg x3) (p0 : MW m0) : CK 5 261 [.ref 284, iv x1, iv x2, iv x3] m (fun m2 v => G m0 m2 ∧ (True)) := by
  refine br_261 r_x1 r_x2 r_x3 ?_
  unfold P_261
  refine CK.mono (ct_210   g_m.1 r_x1) (by decide) ?_
  rintro m2 v2 r_v2 ⟨e_m2, h_m2⟩
  replace e_m2 := e_m2.symm
  subst e_m2
  refine ⟨fun m_27 => G m0 m_27 ∧ (True), ?_, ?_⟩
  · skip
    refine ⟨fun hq => ?_, fun hq => ?_⟩
    · skip
      exact ⟨g_m, by first | trivial | omega | (refine ⟨?_, ?_⟩ <;> omega)⟩
    · skip
      refine CK.mono (ct_206   r_x2 (by unfold rg; decide) (by unfold rg; decide)) (by decide) ?_
      rintro m12 v12 r_v12 ⟨e_m12, h_m12⟩
      replace e_m12 := e_m12.symm
      subst e_m12
      refine ⟨fun hq => ?_, fun hq => ?_⟩
      · skip
        exact ⟨g_m, by first | trivial | omega | (refine ⟨?_, ?_⟩ <;> omega)⟩
      · skip
        refine CK.mono (ct_206   r_x3 (by unfold rg; decide) (by unfold rg; decide)) (by decide) ?_
        rintro m21 v21 r_v21 ⟨e_m21, h_m21⟩
        replace e_m21 := e_m21.symm
        subst e_m21
        refine ⟨fun hq => ?_, fun hq => ?_⟩
        · skip
          refine CV.mono (ct_246   g_m r_x1 p0 (by omega)) (by decide) ?_
          rintro m31 ⟨g_m31, h_m31⟩
          refine ⟨fun hq => ?_, fun hq => ?_⟩
          · skip
            refine ⟨fun x4_52 m_52 => G m0 m_52 ∧ (0 ≤ x4_52 ∧ x4_52 ≤ 600), fun x4_52 m_52 => Int.toNat (600 - x4_52), ?_, ?_⟩
            · exact ⟨g_m31, by first | omega | (refine ⟨?_, ?_⟩ <;> omega) | trivial⟩
            · intro x4_52 m_52 r_x4_52 hI_52
              obtain ⟨g_m_52, hI_52⟩ := hI_52
              refine ⟨fun hq => ?_, fun hq => ?_⟩
              · skip
                refine ⟨fun x4_77 m_77 => G m0 m_77 ∧ (1 ≤ x4_77 ∧ x4_77 ≤ 41), fun x4_77 m_77 => Int.toNat (41 - x4_77), ?_, ?_⟩
                · exact ⟨g_m_52, by first | omega | (refine ⟨?_, ?_⟩ <;> omega) | trivial⟩
                · intro x4_77 m_77 r_x4_77 hI_77
                  obtain ⟨g_m_77, hI_77⟩ := hI_77
                  refine ⟨fun hq => ?_, fun hq => ?_⟩
                  · skip
                    try have w1 : wr (43 + x1) = 43 + x1 := wr_id (by omega) (by omega)
                    refine ⟨⟨by omega, by omega⟩, ?_⟩
                    have t2 := tr_323 g_m_77.1 (Int.toNat (wr (43 + x1)))
                    try have w3 : wr (24 * (rd m_77 323 (Int.toNat (wr (43 + x1))))) = 24 * (rd m_77 323 (Int.toNat (wr (43 + x1)))) := wr_id (by omega) (by omega)
                    intro z4_158 e_z4_158
                    have r_z4_158 : rg z4_158 := by rw [e_z4_158]; exact (wr_rg _)
                    refine CK.mono (ct_260v g_m_77.1 r_x1 r_z4_158 (by omega) (by omega)) (by decide) ?_
                    rintro m164 v164 r_v164 ⟨e_m164, h_m164⟩
                    replace e_m164 := e_m164.symm
                    subst e_m164
                    refine ⟨fun s0_193 m_193 => G m0 m_193 ∧ (True), ?_, ?_⟩
                    · skip
                      refine ⟨True, ?_, ?_⟩
                      · skip
                        refine ⟨fun hq => ?_, fun hq => ?_⟩
                        · skip
                          (first | trivial | omega | (refine ⟨?_, ?_⟩ <;> omega))
                        · skip
                          refine ⟨fun hq => ?_, fun hq => ?_⟩
                          · skip
                            refine CK.mono (ct_259   g_m_77.1 r_x1 r_z4_158 r_v164 (by omega) (by omega) (by omega)) (by decide) ?_
                            rintro m190 v190 r_v190 ⟨e_m190, h_m190⟩
                            replace e_m190 := e_m190.symm
                            subst e_m190
                            exact ⟨g_m_77, by first | trivial | omega | (refine ⟨?_, ?_⟩ <;> omega)⟩
                          · skip
                            (first | trivial | omega | (refine ⟨?_, ?_⟩ <;> omega))
                      · intro   hR_179
                        exact ⟨g_m_77, by first | trivial | omega | (refine ⟨?_, ?_⟩ <;> omega)⟩
                    · intro s0_193 m_193 r_s0_193 hR_193
                      obtain ⟨g_m_193, hR_193⟩ := hR_193
                      exact ⟨g_m_193, by first | trivial | omega | (refine ⟨?_, ?_⟩ <;> omega)⟩
                  · skip
                    refine ⟨fun x5_86 m_86 => G m0 m_86 ∧ (0 ≤ x5_86 ∧ x5_86 ≤ 600), fun x5_86 m_86 => Int.toNat (600 - x5_86), ?_, ?_⟩
                    · exact ⟨g_m_77, by first | omega | (refine ⟨?_, ?_⟩ <;> omega) | trivial⟩
                    · intro x5_86 m_86 r_x5_86 hI_86
                      obtain ⟨g_m_86, hI_86⟩ := hI_86
                      refine CK.mono (ct_247   g_m_86.1 (MW_G p0 g_m_86)) (by decide) ?_
                      rintro m89 v89 r_v89 ⟨e_m89, h_m89⟩
                      replace e_m89 := e_m89.symm
                      subst e_m89
                      refine ⟨fun hq => ?_, fun hq => ?_⟩
                      · skip
                        refine CV.mono (ct_258   g_m_86 p0) (by decide) ?_
                        rintro m137 ⟨g_m137, h_m137⟩
                        try have w4 : wr (x4_77 + 1) = x4_77 + 1 := wr_id (by omega) (by omega)
                        intro z4_140 e_z4_140
                        have r_z4_140 : rg z4_140 := by rw [e_z4_140]; exact wr_rg _
                        exact ⟨⟨g_m137, by first | omega | (refine ⟨?_, ?_⟩ <;> omega) | trivial⟩, by (try dsimp only); omega⟩
                      · skip
                        refine CK.mono (ct_260v g_m_86.1 r_x1 r_x5_86 (by omega) (by omega)) (by decide) ?_
                        rintro m105 v105 r_v105 ⟨e_m105, h_m105⟩
                        replace e_m105 := e_m105.symm
                        subst e_m105
                        refine ⟨fun s2_129 m_129 => G m0 m_129 ∧ (True), ?_, ?_⟩
                        · skip
                          refine ⟨fun hq => ?_, fun hq => ?_⟩
                          · skip
                            refine CK.mono (ct_260v g_m_86.1 r_x1 r_x5_86 (by omega) (by omega)) (by decide) ?_
                            rintro m123 v123 r_v123 ⟨e_m123, h_m123⟩
                            replace e_m123 := e_m123.symm
                            subst e_m123
                            refine CK.mono (ct_259   g_m_86.1 r_x1 r_x5_86 r_v123 (by omega) (by omega) (by omega)) (by decide) ?_
                            rintro m126 v126 r_v126 ⟨e_m126, h_m126⟩
                            replace e_m126 := e_m126.symm
                            subst e_m126
                            exact ⟨g_m_86, by first | trivial | omega | (refine ⟨?_, ?_⟩ <;> omega)⟩
                          · skip
                            exact ⟨g_m_86, by first | trivial | omega | (refine ⟨?_, ?_⟩ <;> omega)⟩
                        · intro s2_129 m_129 r_s2_129 hR_129
                          obtain ⟨g_m_129, hR_129⟩ := hR_129
                          refine ⟨⟨by omega, by omega⟩, ?_⟩
                          intro m129 e_m129
                          have g_m129 : G m0 m129 := by rw [e_m129]; exact GX.wt g_m_129 (tw_333 g_m_129.1 (by first | assumption | omega)) (Eq.refl true)
                          try have w5 : wr (x5_86 + 1) = x5_86 + 1 := wr_id (by omega) (by omega)
                          intro z5_130 e_z5_130
                          have r_z5_130 : rg z5_130 := by rw [e_z5_130]; exact wr_rg _
                          exact ⟨⟨g_m129, by first | omega | (refine ⟨?_, ?_⟩ <;> omega) | trivial⟩, by (try dsimp only); omega⟩
              · skip
                refine ⟨⟨by omega, by omega⟩, ?_⟩
                intro m67 e_m67
                have g_m67 : G m0 m67 := by rw [e_m67]; exact GX.wt g_m_52 (tw_332 g_m_52.1 (by first | assumption | omega)) (Eq.refl true)
                try have w6 : wr (x4_52 + 1) = x4_52 + 1 := wr_id (by omega) (by omega)
                intro z4_68 e_z4_68
                have r_z4_68 : rg z4_68 := by rw [e_z4_68]; exact wr_rg _
                exact ⟨⟨g_m67, by first | omega | (refine ⟨?_, ?_⟩ <;> omega) | trivial⟩, by (try dsimp only); omega⟩
          · skip
            refine ⟨fun s0_48 => (s0_48 = (-2) ∨ s0_48 = 0), ?_, ?_⟩
            · skip
              refine ⟨fun hq => ?_, fun hq => ?_⟩
              · skip
                (first | trivial | omega | (refine ⟨?_, ?_⟩ <;> omega))
              · skip
                (first | trivial | omega | (refine ⟨?_, ?_⟩ <;> omega))
            · intro s0_48 r_s0_48 hR_48
              exact ⟨g_m31, by first | trivial | omega | (refine ⟨?_, ?_⟩ <;> omega)⟩
        · skip
          exact ⟨g_m, by first | trivial | omega | (refine ⟨?_, ?_⟩ <;> omega)⟩
  · intro m_27  hR_27
    obtain ⟨g_m_27, hR_27⟩ := hR_27
    exact ⟨g_m_27, by first | trivial | omega | (refine ⟨?_, ?_⟩ <;> omega)⟩
