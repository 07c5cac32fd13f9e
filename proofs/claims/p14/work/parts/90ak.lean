theorem sTk_nn {i j : Nat} (h : ¬ (i = 19 ∧ (j = 0 ∨ j = 4 ∨ j = 5 ∨ j = 6 ∨ j = 7))) : sTk i j = false := by
  cases q : sTk i j with
  | false => rfl
  | true =>
    unfold sTk at q
    rw [Bool.and_eq_true, Bool.or_eq_true, Bool.or_eq_true, Bool.or_eq_true, Bool.or_eq_true] at q
    exfalso
    apply h
    refine ⟨nb_eq q.1, ?_⟩
    rcases q.2 with (((h | h) | h) | h) | h
    · exact Or.inl (nb_eq h)
    · exact Or.inr (Or.inl (nb_eq h))
    · exact Or.inr (Or.inr (Or.inl (nb_eq h)))
    · exact Or.inr (Or.inr (Or.inr (Or.inl (nb_eq h))))
    · exact Or.inr (Or.inr (Or.inr (Or.inr (nb_eq h))))
/-- what is read so far stays -/
def suF (m m2 : Mm) : Prop := (∀ i j : Nat, (i = 19 ∧ 8 ≤ j ∧ j ≤ 13) ∨ (25 ≤ i ∧ i ≤ 28) → rd m2 i j = rd m i j) ∧ ∀ j : Nat, ld m2 29 j = ld m 29 j
theorem suF_rfl (m : Mm) : suF m m := ⟨fun _ _ _ => rfl, fun _ => rfl⟩
theorem suF.trans {a b c : Mm} (h : suF a b) (k : suF b c) : suF a c := ⟨fun i j q => (k.1 i j q).trans (h.1 i j q), fun j => (k.2 j).trans (h.2 j)⟩
theorem suF_tk {m m2 : Mm} (g : GX sTk m m2) : suF m m2 := ⟨fun i j q => g.2.1 i j (sTk_nn (by omega)), fun j => g.2.2 29 j⟩
theorem suF_lw {m m2 : Mm} (g : GX (sL 20) m m2) : suF m m2 := ⟨fun i j q => sL20 g i j (by omega), fun j => g.2.2 29 j⟩
/-- the class's memory tells what the function holds -/
def dC (s : Ps) (m : Mm) : Prop := (rd m 19 8 = s 0 5 ∧ rd m 19 9 = s 0 6 ∧ rd m 19 10 = s 0 7 ∧ rd m 19 11 = s 0 8 ∧ rd m 19 12 = s 0 9 ∧ rd m 19 13 = s 0 10) ∧ (∀ j : Nat, (j : Int) < s 0 8 → rd m 25 (2 * j) = s 1 j ∧ rd m 25 (2 * j + 1) = s 2 j) ∧ (∀ j : Nat, (j : Int) < s 0 9 → rd m 26 (3 * j) = s 3 j ∧ rd m 26 (3 * j + 1) = s 4 j ∧ rd m 26 (3 * j + 2) = s 5 j) ∧ (∀ j : Nat, (j : Int) < s 0 10 → rd m 27 (2 * j) = s 6 j ∧ rd m 27 (2 * j + 1) = s 7 j ∧ ld m 29 j = s 9 j) ∧ ∀ j : Nat, (j : Int) < 6 * s 0 10 → rd m 28 j = s 8 j
def RC (s : Ps) (m : Mm) : Prop := cR s (rd m 19 5) (rd m 19 0) (rd m 19 4) (rd m 19 6) (rd m 19 7) ∧ (s 0 1 = 0 → rd m 19 0 = -1 ∧ dC s m)
theorem tX_rx {m0 m : Mm} (g : RX m0 m) : tX m = tX m0 := by
  funext i t
  match i with
  | 0 => exact g.2.2.2.2.1 2 _ rfl
  | 1 => exact g.2.2.2.2.1 3 _ rfl
  | n + 2 => exact g.2.2.2.2.2 4 _ (by decide)
theorem dC_sd {s s2 : Ps} {m : Mm} (h : dC s m) (e : sd s s2) : dC s2 m := by
  have E : ∀ i j : Nat, ¬ (i = 0 ∧ j ≤ 4) → s2 i j = s i j := e
  unfold dC
  rw [E 0 5 (by omega), E 0 6 (by omega), E 0 7 (by omega), E 0 8 (by omega), E 0 9 (by omega), E 0 10 (by omega)]
  obtain ⟨h1, h2, h3, h4, h5⟩ := h
  refine ⟨h1, fun j hj => ?_, fun j hj => ?_, fun j hj => ?_, fun j hj => ?_⟩
  · rw [E 1 j (by omega), E 2 j (by omega)]; exact h2 j hj
  · rw [E 3 j (by omega), E 4 j (by omega), E 5 j (by omega)]; exact h3 j hj
  · rw [E 6 j (by omega), E 7 j (by omega), E 9 j (by omega)]; exact h4 j hj
  · rw [E 8 j (by omega)]; exact h5 j hj
theorem dC_fr {s : Ps} {m m2 : Mm} (h : dC s m) (e : suF m m2) : dC s m2 := by
  obtain ⟨F, l⟩ := e
  unfold dC
  rw [F 19 8 (by omega), F 19 9 (by omega), F 19 10 (by omega), F 19 11 (by omega), F 19 12 (by omega), F 19 13 (by omega)]
  obtain ⟨h1, h2, h3, h4, h5⟩ := h
  refine ⟨h1, fun j hj => ?_, fun j hj => ?_, fun j hj => ?_, fun j hj => ?_⟩
  · rw [F 25 _ (by omega), F 25 _ (by omega)]; exact h2 j hj
  · rw [F 26 _ (by omega), F 26 _ (by omega), F 26 _ (by omega)]; exact h3 j hj
  · rw [F 27 _ (by omega), F 27 _ (by omega), l]; exact h4 j hj
  · rw [F 28 _ (by omega)]; exact h5 j hj
section RCS
variable {X : Tk} {s : Ps} {m m2 : Mm}
theorem rc_T {k v : Int} (h : RC s m) (g : GX sTk m m2) (hX : tX m = X) (t : tkP m m2 k v) : RC (pT X k s) m2 := by
  subst hX
  have st : stT k (rd m 2 (Int.toNat (rd m 19 4))) (rd m 3 (Int.toNat (rd m 19 4))) (rd m 19 5) (rd m 19 0) (rd m 19 4) (rd m 19 6) (rd m 19 7) (rd m2 19 5) (rd m2 19 0) (rd m2 19 4) (rd m2 19 6) (rd m2 19 7) := by
    rcases t.1 with ⟨a1, -, a2, a3, -⟩ | ⟨a1, a2, a3, -, a4, -, a5⟩ | ⟨a1, -, a2, a3, -⟩
    · exact Or.inl ⟨a1, a2, a3⟩
    · exact Or.inr (Or.inl ⟨a1, a2, a3, a4, a5, t.2.1, t.2.2⟩)
    · exact Or.inr (Or.inr ⟨a1, a2, a3⟩)
  have c := c_T (X := tX m) h.1 (fun _ => Iff.rfl) (fun _ => rfl) st
  refine ⟨c, fun z => ?_⟩
  have z0 := pT_z z
  have q5 : rd m2 19 5 = 0 := c.1.trans z
  have y5 : rd m 19 5 = 0 := h.1.1.trans z0
  have q0 : rd m2 19 0 = rd m 19 0 := by have := t.1; omega
  exact ⟨q0.trans (h.2 z0).1, dC_sd (dC_fr (h.2 z0).2 (suF_tk g)) sd_T⟩
theorem rc_I {lo hi v : Int} (h : RC s m) (g : GX sTk m m2) (hX : tX m = X) (t : tiP m m2 lo hi v) : RC (pI X lo hi s) m2 ∧ (pI X lo hi s 0 1 = 0 → v = X 2 (s 0 0)) := by
  subst hX
  have st : stI lo hi (rd m 2 (Int.toNat (rd m 19 4))) (rd m 3 (Int.toNat (rd m 19 4))) (ld m 4 (Int.toNat (rd m 19 4))) v (rd m 19 5) (rd m 19 0) (rd m 19 4) (rd m 19 6) (rd m 19 7) (rd m2 19 5) (rd m2 19 0) (rd m2 19 4) (rd m2 19 6) (rd m2 19 7) := by
    rcases t with ⟨-, t⟩ | ⟨q1, q2, q3, q4, q5, -, q7, q8⟩
    · rcases t.1 with ⟨a1, -, a2, a3, -⟩ | ⟨-, -, -, a, -⟩ | ⟨a1, -, a2, a3, -⟩
      · exact Or.inl ⟨a1, a2, a3⟩
      · exact absurd a (by decide)
      · exact Or.inr (Or.inr ⟨a1, a2, a3⟩)
    · exact Or.inr (Or.inl ⟨q1, q2, q3, q5, q7, q4, q8⟩)
  have c := c_I (X := tX m) h.1 (fun _ => Iff.rfl) (fun _ => rfl) (fun _ _ => rfl) st
  refine ⟨⟨c.1, fun z => ?_⟩, c.2⟩
  have z0 := pI_z z
  have q5 : rd m2 19 5 = 0 := c.1.1.trans z
  have y5 : rd m 19 5 = 0 := h.1.1.trans z0
  have q0 : rd m2 19 0 = rd m 19 0 := by
    rcases t with ⟨-, t⟩ | ⟨-, -, -, -, -, q, -⟩
    · have := t.1; omega
    · exact q
  exact ⟨q0.trans (h.2 z0).1, dC_sd (dC_fr (h.2 z0).2 (suF_tk g)) sd_I⟩
theorem pF_n {k : Int} (hk : ¬ k = 0) : ¬ pF X k s 0 1 = 0 := by
  unfold pF
  split
  · exact hk
  · assumption
theorem rc_F {k : Int} (h : RC s m) (hX : tX m = X) (hk : ¬ k = 0) (t : ((rd m 19 5 = 0 ∧ rd m2 19 5 = k ∧ rd m2 19 0 = rd m 3 (Int.toNat (rd m 19 4))) ∨ (¬ rd m 19 5 = 0 ∧ rd m2 19 5 = rd m 19 5 ∧ rd m2 19 0 = rd m 19 0)) ∧ rd m2 19 4 = rd m 19 4 ∧ rd m2 19 6 = rd m 19 6 ∧ rd m2 19 7 = rd m 19 7) : RC (pF X k s) m2 := by
  subst hX
  exact ⟨c_F (X := tX m) h.1 hk (fun _ => rfl) t.1, fun z => absurd z (pF_n hk)⟩
theorem rc_S (h : RC s m) (hX : tX m = X) (u : suP m m2 0) (f : suF m m2) (h4 : rd m2 19 4 ≤ 400) : RC (pS X s) m2 := by
  subst hX
  have st : stS (tX m) (rd m 19 5) (rd m 19 0) (rd m 19 4) (rd m 19 6) (rd m 19 7) (rd m2 19 5) (rd m2 19 0) (rd m2 19 4) (rd m2 19 6) (rd m2 19 7) := by
    by_cases z : rd m 19 5 = 0
    · rcases u.1.2.2 z with ⟨a1, -, a3⟩ | ⟨a1, tt, a2, a3⟩
      · refine Or.inr (Or.inl ⟨z, a1, ?_, u.1.1.1, u.1.1.2.1⟩)
        show AU (kC m) (rd m 19 4) 0 0 = (0, rd m2 19 4)
        rw [a3]
        exact AU_z h4 (u.2 a1) (by decide)
      · exact Or.inr (Or.inr ⟨z, a1, tt, a2, a3⟩)
    · have := u.1.2.1 z
      exact Or.inl ⟨z, this.1, this.2⟩
  have c := c_S (X := tX m) h.1 st
  refine ⟨c, fun z => ?_⟩
  have z0 := pS_z z
  have q5 : rd m2 19 5 = 0 := c.1.trans z
  exact ⟨(u.1.1.2.2 q5).trans (h.2 z0).1, dC_sd (dC_fr (h.2 z0).2 f) sd_S⟩
theorem rc_lw (h : RC s m) (g : GX (sL 20) m m2) : RC s m2 := by
  have F := sL20 g
  refine ⟨?_, fun z => ?_⟩
  · rw [F 19 5 (by omega), F 19 0 (by omega), F 19 4 (by omega), F 19 6 (by omega), F 19 7 (by omega)]
    exact h.1
  · rw [F 19 0 (by omega)]
    exact ⟨(h.2 z).1, dC_fr (h.2 z).2 (suF_lw g)⟩
/-- a row of what is read, beyond what counts -/
theorem rc_up {i j : Nat} {v : Int} (h : RC s m) (hi : ¬ i = 19) (e : m2 = wt m i j v) (d : s 0 1 = 0 → dC s m → dC s m2) : RC s m2 := by
  have F : ∀ k, rd m2 19 k = rd m 19 k := fun k => by rw [e, rd_wt, if_neg (fun w => hi w.1.symm)]
  refine ⟨?_, fun z => ?_⟩
  · rw [F 5, F 0, F 4, F 6, F 7]
    exact h.1
  · rw [F 0]
    exact ⟨(h.2 z).1, d z (h.2 z).2⟩
theorem rc_w25 {j : Nat} {v : Int} (h : RC s m) (e : m2 = wt m 25 j v) (hj : s 0 1 = 0 → 2 * s 0 8 ≤ j) : RC s m2 := by
  refine rc_up h (by decide) e (fun z d => ?_)
  have jz := hj z
  subst e
  have F : ∀ a b, ¬ a = 25 → rd (wt m 25 j v) a b = rd m a b := fun a b q => by rw [rd_wt, if_neg (fun w => q w.1)]
  obtain ⟨h1, h2, h3, h4, h5⟩ := d
  refine ⟨?_, fun q hq => ?_, fun q hq => ?_, fun q hq => ?_, fun q hq => ?_⟩
  · rw [F 19 8 (by omega), F 19 9 (by omega), F 19 10 (by omega), F 19 11 (by omega), F 19 12 (by omega), F 19 13 (by omega)]; exact h1
  · rw [rd_wt, if_neg (by omega), rd_wt, if_neg (by omega)]; exact h2 q hq
  · rw [F 26 _ (by omega), F 26 _ (by omega), F 26 _ (by omega)]; exact h3 q hq
  · rw [F 27 _ (by omega), F 27 _ (by omega), ld_wt]; exact h4 q hq
  · rw [F 28 _ (by omega)]; exact h5 q hq
theorem rc_w26 {j : Nat} {v : Int} (h : RC s m) (e : m2 = wt m 26 j v) (hj : s 0 1 = 0 → 3 * s 0 9 ≤ j) : RC s m2 := by
  refine rc_up h (by decide) e (fun z d => ?_)
  have jz := hj z
  subst e
  have F : ∀ a b, ¬ a = 26 → rd (wt m 26 j v) a b = rd m a b := fun a b q => by rw [rd_wt, if_neg (fun w => q w.1)]
  obtain ⟨h1, h2, h3, h4, h5⟩ := d
  refine ⟨?_, fun q hq => ?_, fun q hq => ?_, fun q hq => ?_, fun q hq => ?_⟩
  · rw [F 19 8 (by omega), F 19 9 (by omega), F 19 10 (by omega), F 19 11 (by omega), F 19 12 (by omega), F 19 13 (by omega)]; exact h1
  · rw [F 25 _ (by omega), F 25 _ (by omega)]; exact h2 q hq
  · rw [rd_wt, if_neg (by omega), rd_wt, if_neg (by omega), rd_wt, if_neg (by omega)]; exact h3 q hq
  · rw [F 27 _ (by omega), F 27 _ (by omega), ld_wt]; exact h4 q hq
  · rw [F 28 _ (by omega)]; exact h5 q hq
theorem rc_w27 {j : Nat} {v : Int} (h : RC s m) (e : m2 = wt m 27 j v) (hj : s 0 1 = 0 → 2 * s 0 10 ≤ j) : RC s m2 := by
  refine rc_up h (by decide) e (fun z d => ?_)
  have jz := hj z
  subst e
  have F : ∀ a b, ¬ a = 27 → rd (wt m 27 j v) a b = rd m a b := fun a b q => by rw [rd_wt, if_neg (fun w => q w.1)]
  obtain ⟨h1, h2, h3, h4, h5⟩ := d
  refine ⟨?_, fun q hq => ?_, fun q hq => ?_, fun q hq => ?_, fun q hq => ?_⟩
  · rw [F 19 8 (by omega), F 19 9 (by omega), F 19 10 (by omega), F 19 11 (by omega), F 19 12 (by omega), F 19 13 (by omega)]; exact h1
  · rw [F 25 _ (by omega), F 25 _ (by omega)]; exact h2 q hq
  · rw [F 26 _ (by omega), F 26 _ (by omega), F 26 _ (by omega)]; exact h3 q hq
  · rw [rd_wt, if_neg (by omega), rd_wt, if_neg (by omega), ld_wt]; exact h4 q hq
  · rw [F 28 _ (by omega)]; exact h5 q hq
theorem rc_w28 {j : Nat} {v : Int} (h : RC s m) (e : m2 = wt m 28 j v) (hj : s 0 1 = 0 → 6 * s 0 10 ≤ j) : RC s m2 := by
  refine rc_up h (by decide) e (fun z d => ?_)
  have jz := hj z
  subst e
  have F : ∀ a b, ¬ a = 28 → rd (wt m 28 j v) a b = rd m a b := fun a b q => by rw [rd_wt, if_neg (fun w => q w.1)]
  obtain ⟨h1, h2, h3, h4, h5⟩ := d
  refine ⟨?_, fun q hq => ?_, fun q hq => ?_, fun q hq => ?_, fun q hq => ?_⟩
  · rw [F 19 8 (by omega), F 19 9 (by omega), F 19 10 (by omega), F 19 11 (by omega), F 19 12 (by omega), F 19 13 (by omega)]; exact h1
  · rw [F 25 _ (by omega), F 25 _ (by omega)]; exact h2 q hq
  · rw [F 26 _ (by omega), F 26 _ (by omega), F 26 _ (by omega)]; exact h3 q hq
  · rw [F 27 _ (by omega), F 27 _ (by omega), ld_wt]; exact h4 q hq
  · rw [rd_wt, if_neg (by omega)]; exact h5 q hq
theorem rc_w29 {j : Nat} {v : Int} (h : RC s m) (e : m2 = wl m 29 j v) (hj : s 0 1 = 0 → s 0 10 ≤ j) : RC s m2 := by
  subst e
  refine ⟨h.1, fun z => ⟨(h.2 z).1, ?_⟩⟩
  have jz := hj z
  obtain ⟨h1, h2, h3, h4, h5⟩ := (h.2 z).2
  exact ⟨h1, h2, h3, fun q hq => by rw [ld_wl, if_neg (by omega)]; exact h4 q hq, h5⟩
end RCS
-- TippedCrates$Reader.readUnit(I)V
set_option maxRecDepth 20000 in
theorem cy_49 {m0 m : Mm} {x1 : Int} {D : Nat} (hD : 3 ≤ D) (ih : ∀ {m0 m : Mm} {y : Int} (_ : RX m0 m) (_ : rg y) (_ : 0 ≤ y ∧ y ≤ 7) (_ : y = 7 → ¬ rd m 19 5 = 0) (_ : x1 < y), CV D 47 [.ref 19, iv y] m (fun m2 => RX m0 m2 ∧ ((suP m m2 y) ∧ (suF m m2)))) (g_m : RX m0 m) (r_x1 : rg x1) (p0 : 0 ≤ x1 ∧ x1 ≤ 7) (p1 : x1 = 7 → ¬ rd m 19 5 = 0) : CV (D + 1) 49 [.ref 19, iv x1] m (fun m2 => RX m0 m2 ∧ ((auP m m2 x1) ∧ (suF m m2))) := by
  refine br_49 (d := D) r_x1 ?_
  unfold P_49
  have tt := ty_19_4 g_m.1
  refine ⟨fun hq => ?_, fun hq => ?_⟩
  · skip
    refine CK.mono (ct_36   g_m.1) (by omega) ?_
    rintro m9 v9 r_v9 ⟨e_m9, h_m9⟩
    replace e_m9 := e_m9.symm
    subst e_m9
    refine ⟨fun m_135 => RX m0 m_135 ∧ ((auP m m_135 x1) ∧ (suF m m_135)), ?_, ?_⟩
    · skip
      refine ⟨fun hq => ?_, fun hq => ?_⟩
      · skip
        refine CK.mono (ct_36   g_m.1) (by omega) ?_
        rintro m50 v50 r_v50 ⟨e_m50, h_m50⟩
        replace e_m50 := e_m50.symm
        subst e_m50
        refine CK.mono (ct_166   r_v50 (by unfold rg; decide) (by unfold rg; decide)) (by omega) ?_
        rintro m57 v57 r_v57 ⟨e_m57, h_m57⟩
        replace e_m57 := e_m57.symm
        subst e_m57
        refine ⟨fun hq => ?_, fun hq => ?_⟩
        · skip
          refine CK.mono (ct_36   g_m.1) (by omega) ?_
          rintro m92 v92 r_v92 ⟨e_m92, h_m92⟩
          replace e_m92 := e_m92.symm
          subst e_m92
          refine ⟨¬ v92 = 40 ∨ x1 < 6, ?_, ?_⟩
          · skip
            refine ⟨fun hq => ?_, fun hq => ?_⟩
            · skip
              (first | trivial | omega | (refine ⟨?_, ?_⟩ <;> omega))
            · skip
              refine ⟨fun hq => ?_, fun hq => ?_⟩
              · skip
                (first | trivial | omega | (refine ⟨?_, ?_⟩ <;> omega))
              · skip
                refine CV.mono (ct_37   g_m.1 (by unfold rg; decide) (by omega)) (by omega) ?_
                rintro m108 ⟨hx_m108, h_m108⟩
                have g_m108 : RX m0 m108 := RX.tk g_m hx_m108 (by omega) (by omega)
                have au108 : auP m m108 x1 := au_6 (by omega) (by omega) (by omega) h_m108
                exact ⟨g_m108, by exact ⟨by first | exact au42 | exact au84 | exact au108 | exact au131, by first | exact (suF_lw hx_m35).trans (suF_tk hx_m42) | exact (suF_lw hx_m75).trans (suF_tk hx_m84) | exact suF_tk hx_m108 | exact ((suF_tk hx_m117).trans f_m125).trans (suF_tk hx_m131)⟩⟩
          · intro   hR_114
            refine CK.mono (ct_39   g_m.1 (by unfold rg; decide)) (by omega) ?_
            rintro m117 v117 r_v117 ⟨hx_m117, h_m117⟩
            have g_m117 : RX m0 m117 := RX.tk g_m hx_m117 (by omega) (by omega)
            have wx : wr (x1 + 1) = x1 + 1 := wr_id (by omega) (by omega)
            try have w2 : wr (x1 + 1) = x1 + 1 := wr_id (by omega) (by omega)
            refine CV.mono (ih g_m117 (wr_rg _) (by omega) (by omega) (by omega)) (by omega) ?_
            rintro m125 ⟨g_m125, h_m125⟩
            obtain ⟨h_m125, f_m125⟩ := h_m125
            refine CK.mono (ct_39   g_m125.1 (by unfold rg; decide)) (by omega) ?_
            rintro m131 v131 r_v131 ⟨hx_m131, h_m131⟩
            have g_m131 : RX m0 m131 := RX.tk g_m125 hx_m131 (by omega) (by omega)
            have t125 := ty_19_4 g_m125.1
            have k17 : kC m117 = kC m := kC_eq g_m g_m117
            have s17 : ∀ j, rd m117 3 j = rd m 3 j := st_eq g_m g_m117
            have k25 : kC m125 = kC m := kC_eq g_m g_m125
            have s25 : ∀ j, rd m125 3 j = rd m 3 j := st_eq g_m g_m125
            have au131 : auP m m131 x1 := au_par (by omega) (by omega) (by omega) (by omega) h_m117 k17 s17 (by rw [wx] at h_m125; exact h_m125) k25 s25 h_m131
            exact ⟨g_m131, by exact ⟨by first | exact au42 | exact au84 | exact au108 | exact au131, by first | exact (suF_lw hx_m35).trans (suF_tk hx_m42) | exact (suF_lw hx_m75).trans (suF_tk hx_m84) | exact suF_tk hx_m108 | exact ((suF_tk hx_m117).trans f_m125).trans (suF_tk hx_m131)⟩⟩
        · skip
          refine CK.mono (ct_36   g_m.1) (by omega) ?_
          rintro m69 v69 r_v69 ⟨e_m69, h_m69⟩
          replace e_m69 := e_m69.symm
          subst e_m69
          try have w3 : wr (v69 - 12) = v69 - 12 := wr_id (by omega) (by omega)
          refine CK.mono (ct_15   g_m.1 lw_20 (by unfold rg; decide) (wr_rg _) (by omega) (by omega) (fun h => by omega) g_m.2.1) (by omega) ?_
          rintro m75 v75 r_v75 ⟨hx_m75, h_m75⟩
          have g_m75 : RX m0 m75 := RX.lw g_m hx_m75 h_m75.1
          have l75 : lwF m m75 := lwF_of hx_m75
          refine CK.mono (ct_36   g_m75.1) (by omega) ?_
          rintro m81 v81 r_v81 ⟨e_m81, h_m81⟩
          replace e_m81 := e_m81.symm
          subst e_m81
          refine CK.mono (ct_39   g_m75.1 r_v81) (by omega) ?_
          rintro m84 v84 r_v84 ⟨hx_m84, h_m84⟩
          have g_m84 : RX m0 m84 := RX.tk g_m75 hx_m84 (by omega) (by omega)
          have au84 : auP m m84 x1 := au_u (k := v81) (v := v84) l75 (by have e := l75.2.2.2.2.2.2.1; have e2 := l75.2.2.2.2.2.1; rw [e2, e] at h_m81; exact h_m81.symm) (Or.inr (by omega)) (by omega) h_m84
          exact ⟨g_m84, by exact ⟨by first | exact au42 | exact au84 | exact au108 | exact au131, by first | exact (suF_lw hx_m35).trans (suF_tk hx_m42) | exact (suF_lw hx_m75).trans (suF_tk hx_m84) | exact suF_tk hx_m108 | exact ((suF_tk hx_m117).trans f_m125).trans (suF_tk hx_m131)⟩⟩
      · skip
        have t4 := ty_19_4 g_m.1
        refine ⟨⟨by omega, by omega⟩, ?_⟩
        try have w5 : wr (ld m 4 (Int.toNat (rd m 19 4))) = ld m 4 (Int.toNat (rd m 19 4)) := wr_id (by omega) (by omega)
        have tv := g_m.2.2.2.1 (Int.toNat (rd m 19 4)) (by omega) (by omega)
        have wv : wr (ld m 4 (Int.toNat (rd m 19 4))) = ld m 4 (Int.toNat (rd m 19 4)) := wr_id (by omega) (by omega)
        refine CK.mono (ct_15   g_m.1 lw_20 (by unfold rg; decide) (wr_rg _) (by omega) (by omega) (fun h => by omega) g_m.2.1) (by omega) ?_
        rintro m35 v35 r_v35 ⟨hx_m35, h_m35⟩
        have g_m35 : RX m0 m35 := RX.lw g_m hx_m35 h_m35.1
        have l35 : lwF m m35 := lwF_of hx_m35
        refine CK.mono (ct_39   g_m35.1 (by unfold rg; decide)) (by omega) ?_
        rintro m42 v42 r_v42 ⟨hx_m42, h_m42⟩
        have g_m42 : RX m0 m42 := RX.tk g_m35 hx_m42 (by omega) (by omega)
        have au42 : auP m m42 x1 := au_u (k := 22) (v := v42) l35 (by omega) (Or.inl (by omega)) (by omega) h_m42
        exact ⟨g_m42, by exact ⟨by first | exact au42 | exact au84 | exact au108 | exact au131, by first | exact (suF_lw hx_m35).trans (suF_tk hx_m42) | exact (suF_lw hx_m75).trans (suF_tk hx_m84) | exact suF_tk hx_m108 | exact ((suF_tk hx_m117).trans f_m125).trans (suF_tk hx_m131)⟩⟩
    · intro m_135  hR_135
      obtain ⟨g_m_135, hR_135⟩ := hR_135
      obtain ⟨hR_135, cR_135⟩ := hR_135
      exact ⟨g_m_135, by exact ⟨by first | exact hR_135 | exact au_f (by omega), by first | exact cR_135 | exact suF_rfl _⟩⟩
  · skip
    exact ⟨g_m, by exact ⟨by first | exact hR_135 | exact au_f (by omega), by first | exact cR_135 | exact suF_rfl _⟩⟩
-- TippedCrates$Reader.readProduct(I)V
set_option maxRecDepth 20000 in
theorem cy_48 {m0 m : Mm} {x1 : Int} {D : Nat} (hD : 3 ≤ D) (ih : ∀ {m0 m : Mm} {y : Int} (_ : RX m0 m) (_ : rg y) (_ : 0 ≤ y ∧ y ≤ 7) (_ : y = 7 → ¬ rd m 19 5 = 0) (_ : x1 < y), CV D 47 [.ref 19, iv y] m (fun m2 => RX m0 m2 ∧ ((suP m m2 y) ∧ (suF m m2)))) (g_m : RX m0 m) (r_x1 : rg x1) (p0 : 0 ≤ x1 ∧ x1 ≤ 7) (p1 : x1 = 7 → ¬ rd m 19 5 = 0) : CV (D + 2) 48 [.ref 19, iv x1] m (fun m2 => RX m0 m2 ∧ ((prP m m2 x1) ∧ (suF m m2))) := by
  refine br_48 (d := (D + 1)) r_x1 ?_
  unfold P_48
  have tt := ty_19_4 g_m.1
  refine CV.mono (cy_49 hD ih g_m r_x1 (by omega) (by omega)) (by omega) ?_
  rintro m2 ⟨g_m2, h_m2⟩
  obtain ⟨h_m2, f_m2⟩ := h_m2
  refine ⟨fun x2_7 m_7 => RX m0 m_7 ∧ (((auP m m_7 x1 ∧ (rd m_7 19 5 = 0 → x2_7 < rd m_7 19 4)) ∧ 0 ≤ x2_7 ∧ x2_7 ≤ 400) ∧ (suF m m_7)), fun x2_7 m_7 => Int.toNat (400 - x2_7), ?_, ?_⟩
  · exact ⟨g_m2, by exact ⟨by exact ⟨⟨h_m2, fun h => by have := ty_19_4 g_m.1; have := h_m2; unfold auP at this; omega⟩, by omega, by omega⟩, by exact f_m2⟩⟩
  · intro x2_7 m_7 r_x2_7 hI_7
    obtain ⟨g_m_7, hI_7⟩ := hI_7
    obtain ⟨hI_7, cI_7⟩ := hI_7
    have z7 : rd m_7 19 5 = 0 → rd m 19 5 = 0 := fun h => by
      by_cases q : rd m 19 5 = 0
      · exact q
      · have := hI_7.1.1.2.1 q
        omega
    have t7 := ty_19_4 g_m_7.1
    have k7 : kC m_7 = kC m := kC_eq g_m g_m_7
    have s7 : ∀ j, rd m_7 3 j = rd m 3 j := st_eq g_m g_m_7
    refine ⟨fun m_79 => RX m0 m_79 ∧ ((auP m m_79 x1 ∧ (rd m_79 19 5 = 0 → ¬ (kC m (rd m_79 19 4) = 42 ∨ kC m (rd m_79 19 4) = 47))) ∧ (suF m m_79)), ?_, ?_⟩
    · skip
      refine ⟨fun hq => ?_, fun hq => ?_⟩
      · skip
        exact ⟨g_m_7, by exact ⟨by first | exact ⟨hI_7.1.1, fun h => absurd h (by omega)⟩ | exact ⟨hI_7.1.1, fun h => by rw [← k7]; show ¬ (rd m_7 2 (Int.toNat (rd m_7 19 4)) = 42 ∨ rd m_7 2 (Int.toNat (rd m_7 19 4)) = 47); omega⟩, by exact cI_7⟩⟩
      · skip
        refine ⟨fun hq => ?_, fun hq => ?_⟩
        · skip
          exact ⟨g_m_7, by exact ⟨by first | exact ⟨hI_7.1.1, fun h => absurd h (by omega)⟩ | exact ⟨hI_7.1.1, fun h => by rw [← k7]; show ¬ (rd m_7 2 (Int.toNat (rd m_7 19 4)) = 42 ∨ rd m_7 2 (Int.toNat (rd m_7 19 4)) = 47); omega⟩, by exact cI_7⟩⟩
        · skip
          refine CK.mono (cx_50   g_m_7.1 (by unfold rg; decide) (by unfold rg; decide)) (by omega) ?_
          rintro m26 v26 r_v26 ⟨e_m26, h_m26⟩
          replace e_m26 := e_m26.symm
          subst e_m26
          refine ⟨fun hq => ?_, fun hq => ?_⟩
          · skip
            exact ⟨g_m_7, by exact ⟨by first | exact ⟨hI_7.1.1, fun h => absurd h (by omega)⟩ | exact ⟨hI_7.1.1, fun h => by rw [← k7]; show ¬ (rd m_7 2 (Int.toNat (rd m_7 19 4)) = 42 ∨ rd m_7 2 (Int.toNat (rd m_7 19 4)) = 47); omega⟩, by exact cI_7⟩⟩
          · skip
            refine CK.mono (ct_36   g_m_7.1) (by omega) ?_
            rintro m33 v33 r_v33 ⟨e_m33, h_m33⟩
            replace e_m33 := e_m33.symm
            subst e_m33
            refine ⟨fun s0_48 => (s0_48 = 6 ∨ s0_48 = 7), ?_, ?_⟩
            · skip
              refine ⟨fun hq => ?_, fun hq => ?_⟩
              · skip
                (first | trivial | omega | (refine ⟨?_, ?_⟩ <;> omega))
              · skip
                (first | trivial | omega | (refine ⟨?_, ?_⟩ <;> omega))
            · intro s0_48 r_s0_48 hR_48
              refine CK.mono (ct_36   g_m_7.1) (by omega) ?_
              rintro m51 v51 r_v51 ⟨e_m51, h_m51⟩
              replace e_m51 := e_m51.symm
              subst e_m51
              refine CK.mono (ct_39   g_m_7.1 r_v51) (by omega) ?_
              rintro m54 v54 r_v54 ⟨hx_m54, h_m54⟩
              have g_m54 : RX m0 m54 := RX.tk g_m_7 hx_m54 (by omega) (by omega)
              refine CV.mono (cy_49 hD ih g_m54 r_x1 (by omega) (by omega)) (by omega) ?_
              rintro m60 ⟨g_m60, h_m60⟩
              obtain ⟨h_m60, f_m60⟩ := h_m60
              refine CK.mono (ct_15   g_m60.1 lw_20 r_s0_48 (by unfold rg; decide) (by omega) (by omega) (fun h => by omega) g_m60.2.1) (by omega) ?_
              rintro m69 v69 r_v69 ⟨hx_m69, h_m69⟩
              have g_m69 : RX m0 m69 := RX.lw g_m60 hx_m69 h_m69.1
              have l69 : lwF m60 m69 := lwF_of hx_m69
              have k54 : kC m54 = kC m := kC_eq g_m g_m54
              have s54 : ∀ j, rd m54 3 j = rd m 3 j := st_eq g_m g_m54
              have au69 : auP m m69 x1 ∧ (rd m69 19 5 = 0 → rd m_7 19 4 + 2 ≤ rd m69 19 4) := au_op hI_7.1.1 (by omega) (by unfold isOp; omega) k7 s7 (by have q : v51 = rd m_7 2 (Int.toNat (rd m_7 19 4)) := h_m51; rw [q] at h_m54; exact h_m54) k54 s54 h_m60 l69
              try have w2 : wr (x2_7 + 1) = x2_7 + 1 := wr_id (by omega) (by omega)
              intro z2_73 e_z2_73
              have r_z2_73 : rg z2_73 := by rw [e_z2_73]; exact wr_rg _
              exact ⟨⟨g_m69, by exact ⟨by exact ⟨⟨au69.1, fun h => by have := au69.2 h; omega⟩, by omega, by omega⟩, by exact ((cI_7.trans (suF_tk hx_m54)).trans f_m60).trans (suF_lw hx_m69)⟩⟩, by (try dsimp only); omega⟩
    · intro m_79  hR_79
      obtain ⟨g_m_79, hR_79⟩ := hR_79
      obtain ⟨hR_79, cR_79⟩ := hR_79
      exact ⟨g_m_79, by exact ⟨by exact hR_79, by exact cR_79⟩⟩
-- TippedCrates$Reader.readSum(I)V
set_option maxRecDepth 20000 in
theorem cy_47s {m0 m : Mm} {x1 : Int} {D : Nat} (hD : 3 ≤ D) (ih : ∀ {m0 m : Mm} {y : Int} (_ : RX m0 m) (_ : rg y) (_ : 0 ≤ y ∧ y ≤ 7) (_ : y = 7 → ¬ rd m 19 5 = 0) (_ : x1 < y), CV D 47 [.ref 19, iv y] m (fun m2 => RX m0 m2 ∧ ((suP m m2 y) ∧ (suF m m2)))) (g_m : RX m0 m) (r_x1 : rg x1) (p0 : 0 ≤ x1 ∧ x1 ≤ 7) (p1 : x1 = 7 → ¬ rd m 19 5 = 0) : CV (D + 3) 47 [.ref 19, iv x1] m (fun m2 => RX m0 m2 ∧ ((suP m m2 x1) ∧ (suF m m2))) := by
  refine br_47 (d := (D + 2)) r_x1 ?_
  unfold P_47
  have tt := ty_19_4 g_m.1
  refine CV.mono (cy_48 hD ih g_m r_x1 (by omega) (by omega)) (by omega) ?_
  rintro m2 ⟨g_m2, h_m2⟩
  obtain ⟨h_m2, f_m2⟩ := h_m2
  refine ⟨fun x2_7 m_7 => RX m0 m_7 ∧ (((auP m m_7 x1 ∧ (rd m_7 19 5 = 0 → x2_7 < rd m_7 19 4) ∧ (rd m_7 19 5 = 0 → ¬ (kC m (rd m_7 19 4) = 42 ∨ kC m (rd m_7 19 4) = 47))) ∧ 0 ≤ x2_7 ∧ x2_7 ≤ 400) ∧ (suF m m_7)), fun x2_7 m_7 => Int.toNat (400 - x2_7), ?_, ?_⟩
  · exact ⟨g_m2, by exact ⟨by exact ⟨⟨h_m2.1, fun h => by have := ty_19_4 g_m.1; have := h_m2.1; unfold auP at this; omega, h_m2.2⟩, by omega, by omega⟩, by exact f_m2⟩⟩
  · intro x2_7 m_7 r_x2_7 hI_7
    obtain ⟨g_m_7, hI_7⟩ := hI_7
    obtain ⟨hI_7, cI_7⟩ := hI_7
    have z7 : rd m_7 19 5 = 0 → rd m 19 5 = 0 := fun h => by
      by_cases q : rd m 19 5 = 0
      · exact q
      · have := hI_7.1.1.2.1 q
        omega
    have t7 := ty_19_4 g_m_7.1
    have k7 : kC m_7 = kC m := kC_eq g_m g_m_7
    have s7 : ∀ j, rd m_7 3 j = rd m 3 j := st_eq g_m g_m_7
    refine ⟨fun m_77 => RX m0 m_77 ∧ ((suP m m_77 x1) ∧ (suF m m_77)), ?_, ?_⟩
    · skip
      refine ⟨fun hq => ?_, fun hq => ?_⟩
      · skip
        exact ⟨g_m_7, by exact ⟨by first | exact ⟨hI_7.1.1, fun h => absurd h (by omega)⟩ | exact ⟨hI_7.1.1, fun h => by have a := hI_7.1.2.2 h; rw [← k7] at a ⊢; have a2 : ¬ (rd m_7 2 (Int.toNat (rd m_7 19 4)) = 42 ∨ rd m_7 2 (Int.toNat (rd m_7 19 4)) = 47) := a; show ¬ isOp (rd m_7 2 (Int.toNat (rd m_7 19 4))); unfold isOp; omega⟩, by exact cI_7⟩⟩
      · skip
        refine ⟨fun hq => ?_, fun hq => ?_⟩
        · skip
          exact ⟨g_m_7, by exact ⟨by first | exact ⟨hI_7.1.1, fun h => absurd h (by omega)⟩ | exact ⟨hI_7.1.1, fun h => by have a := hI_7.1.2.2 h; rw [← k7] at a ⊢; have a2 : ¬ (rd m_7 2 (Int.toNat (rd m_7 19 4)) = 42 ∨ rd m_7 2 (Int.toNat (rd m_7 19 4)) = 47) := a; show ¬ isOp (rd m_7 2 (Int.toNat (rd m_7 19 4))); unfold isOp; omega⟩, by exact cI_7⟩⟩
        · skip
          refine CK.mono (cx_50   g_m_7.1 (by unfold rg; decide) (by unfold rg; decide)) (by omega) ?_
          rintro m26 v26 r_v26 ⟨e_m26, h_m26⟩
          replace e_m26 := e_m26.symm
          subst e_m26
          refine ⟨fun hq => ?_, fun hq => ?_⟩
          · skip
            exact ⟨g_m_7, by exact ⟨by first | exact ⟨hI_7.1.1, fun h => absurd h (by omega)⟩ | exact ⟨hI_7.1.1, fun h => by have a := hI_7.1.2.2 h; rw [← k7] at a ⊢; have a2 : ¬ (rd m_7 2 (Int.toNat (rd m_7 19 4)) = 42 ∨ rd m_7 2 (Int.toNat (rd m_7 19 4)) = 47) := a; show ¬ isOp (rd m_7 2 (Int.toNat (rd m_7 19 4))); unfold isOp; omega⟩, by exact cI_7⟩⟩
          · skip
            refine CK.mono (ct_36   g_m_7.1) (by omega) ?_
            rintro m33 v33 r_v33 ⟨e_m33, h_m33⟩
            replace e_m33 := e_m33.symm
            subst e_m33
            refine ⟨fun s0_46 => (s0_46 = 4 ∨ s0_46 = 5), ?_, ?_⟩
            · skip
              refine ⟨fun hq => ?_, fun hq => ?_⟩
              · skip
                (first | trivial | omega | (refine ⟨?_, ?_⟩ <;> omega))
              · skip
                (first | trivial | omega | (refine ⟨?_, ?_⟩ <;> omega))
            · intro s0_46 r_s0_46 hR_46
              refine CK.mono (ct_36   g_m_7.1) (by omega) ?_
              rintro m49 v49 r_v49 ⟨e_m49, h_m49⟩
              replace e_m49 := e_m49.symm
              subst e_m49
              refine CK.mono (ct_39   g_m_7.1 r_v49) (by omega) ?_
              rintro m52 v52 r_v52 ⟨hx_m52, h_m52⟩
              have g_m52 : RX m0 m52 := RX.tk g_m_7 hx_m52 (by omega) (by omega)
              refine CV.mono (cy_48 hD ih g_m52 r_x1 (by omega) (by omega)) (by omega) ?_
              rintro m58 ⟨g_m58, h_m58⟩
              obtain ⟨h_m58, f_m58⟩ := h_m58
              refine CK.mono (ct_15   g_m58.1 lw_20 r_s0_46 (by unfold rg; decide) (by omega) (by omega) (fun h => by omega) g_m58.2.1) (by omega) ?_
              rintro m67 v67 r_v67 ⟨hx_m67, h_m67⟩
              have g_m67 : RX m0 m67 := RX.lw g_m58 hx_m67 h_m67.1
              have l67 : lwF m58 m67 := lwF_of hx_m67
              have k52 : kC m52 = kC m := kC_eq g_m g_m52
              have s52 : ∀ j, rd m52 3 j = rd m 3 j := st_eq g_m g_m52
              have tk52 : tkP m_7 m52 (rd m_7 2 (Int.toNat (rd m_7 19 4))) v52 := by have q : v49 = rd m_7 2 (Int.toNat (rd m_7 19 4)) := h_m49; rw [q] at h_m52; exact h_m52
              have au67 : auP m m67 x1 ∧ (rd m67 19 5 = 0 → rd m_7 19 4 + 2 ≤ rd m67 19 4) := au_op hI_7.1.1 (by omega) (by unfold isOp; omega) k7 s7 tk52 k52 s52 h_m58.1 l67
              have np67 : rd m67 19 5 = 0 → ¬ (kC m (rd m67 19 4) = 42 ∨ kC m (rd m67 19 4) = 47) := fun h => by
                have e4 := l67.1
                have e5 := l67.2.1
                rw [e4]
                have := h_m58.2 (by omega)
                rw [k52] at this
                exact this
              try have w2 : wr (x2_7 + 1) = x2_7 + 1 := wr_id (by omega) (by omega)
              intro z2_71 e_z2_71
              have r_z2_71 : rg z2_71 := by rw [e_z2_71]; exact wr_rg _
              exact ⟨⟨g_m67, by exact ⟨by exact ⟨⟨au67.1, fun h => by have := au67.2 h; omega, np67⟩, by omega, by omega⟩, by exact ((cI_7.trans (suF_tk hx_m52)).trans f_m58).trans (suF_lw hx_m67)⟩⟩, by (try dsimp only); omega⟩
    · intro m_77  hR_77
      obtain ⟨g_m_77, hR_77⟩ := hR_77
      obtain ⟨hR_77, cR_77⟩ := hR_77
      exact ⟨g_m_77, by exact ⟨by exact hR_77, by exact cR_77⟩⟩
theorem cy_47n (N : Nat) : ∀ {m0 m : Mm} {x1 : Int} (_ : RX m0 m) (_ : rg x1) (_ : 0 ≤ x1 ∧ x1 ≤ 7) (_ : x1 = 7 → ¬ rd m 19 5 = 0) (_ : Int.toNat (8 - x1) ≤ N), CV (3 * N + 3) 47 [.ref 19, iv x1] m (fun m2 => RX m0 m2 ∧ ((suP m m2 x1) ∧ (suF m m2))) := by
  induction N with
  | zero => intros; omega
  | succ N ih =>
    intro m0 m x1 g r p0 p1 hN
    exact CV.mono (cy_47s (D := 3 * N + 3) (by omega) (fun g2 r2 q0 q1 q2 => ih g2 r2 q0 q1 (by omega)) g r p0 p1) (by omega) (fun _ h => h)
theorem cy_47 {m0 m : Mm} {x1 : Int} (g : RX m0 m) (r : rg x1) (p0 : 0 ≤ x1 ∧ x1 ≤ 7) (p1 : x1 = 7 → ¬ rd m 19 5 = 0) : CV 33 47 [.ref 19, iv x1] m (fun m2 => RX m0 m2 ∧ ((suP m m2 x1) ∧ (suF m m2))) :=
  CV.mono (cy_47n 8 g r p0 p1 (by omega)) (by omega) (fun _ h => h)
