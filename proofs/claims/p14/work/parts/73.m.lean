/-- what the class keeps from call to call -/
def ringC (m : Mm) (k : Nat) : Nat := 59 + 5 * Int.toNat ((rd m 55 4 + 39 - k) % 40)
def CR (m : Mm) : Prop := (lwOk m 11 ∧ lwOk m 20 ∧ tkOk m) ∧ okS m 274 ∧ (∀ k : Nat, (k : Int) < rd m 55 0 → okS m (ringC m k)) ∧ ∀ s : Nat, s < 3 → ¬ rd m 58 s = 0 → okS m (259 + 5 * s)
def CIX (m0 m : Mm) : Prop := Ty m ∧ CR m ∧ ∀ i j, 284 ≤ i → rd m i j = rd m0 i j ∧ ld m i j = ld m0 i j
def KA (i : Nat) : Prop := i = 2 ∨ i = 7 ∨ i = 11 ∨ i = 13 ∨ i = 20 ∨ i = 22 ∨ i = 55 ∨ i = 58 ∨ (59 ≤ i ∧ i ≤ 273)
theorem okS_fr {m m2 : Mm} {a : Nat} (h : okS m a) (e7 : rd m2 7 3 = rd m 7 3) (e : ∀ i c, (a ≤ i ∧ i ≤ a + 4) → rd m2 i c = rd m i c) : okS m2 a :=
  ⟨by rw [e a 4 (by omega), e7]; exact h.1, okC_fr h.2 e⟩
theorem sQ_hi {i j : Nat} (h : 30 ≤ i) : sQ i j = false := by
  unfold sQ
  rw [nble_f (by omega : 29 < i), nb_ne (by omega : ¬ i = 2), nb_ne (by omega : ¬ i = 3), nb_ne (by omega : ¬ i = 1)]
  simp
theorem ringC_b {m : Mm} (T : Ty m) (k : Nat) : 59 ≤ ringC m k ∧ ringC m k ≤ 254 ∧ (ringC m k - 59) % 5 = 0 := by
  have := ty_55_4 T
  unfold ringC
  omega
theorem CR_mk {m m2 : Mm} (h : CR m) (T : Ty m) (e : ∀ i j, KA i → rd m2 i j = rd m i j) (l : ∀ j, ld m2 4 j = ld m 4 j) (o : okS m2 274) : CR m2 := by
  have e7 := e 7 3 (by unfold KA; omega)
  refine ⟨⟨lwOk_fr h.1.1 (e 11 4 (by unfold KA; omega)) (fun j => e 13 j (by unfold KA; omega)), lwOk_fr h.1.2.1 (e 20 4 (by unfold KA; omega)) (fun j => e 22 j (by unfold KA; omega)), fun i hi hk => ?_⟩, o, fun k hk => ?_, fun s hs hh => ?_⟩
  · rw [l]
    rw [e 2 i (by unfold KA; omega)] at hk
    exact h.1.2.2 i hi hk
  · rw [e 55 0 (by unfold KA; omega)] at hk
    have q : ringC m2 k = ringC m k := by unfold ringC; rw [e 55 4 (by unfold KA; omega)]
    have b := ringC_b T k
    rw [q]
    exact okS_fr (h.2.2.1 k hk) e7 (fun i c hi => e i c (by unfold KA; omega))
  · rw [e 58 s (by unfold KA; omega)] at hh
    exact okS_fr (h.2.2.2 s hs hh) e7 (fun i c hi => e i c (by unfold KA; omega))
theorem CIX_of {S : Nat → Nat → Bool} {m0 m m2 : Mm} (g : CIX m0 m) (h : GX S m m2) (hS : ∀ i j, 284 ≤ i → S i j = false) (c : CR m2) : CIX m0 m2 :=
  ⟨h.1, c, fun i j hi => ⟨(h.2.1 i j (hS i j hi)).trans (g.2.2 i j hi).1, (h.2.2 i j).trans (g.2.2 i j hi).2⟩⟩
theorem CI_sT {m0 m m2 : Mm} (g : CIX m0 m) (h : GX (sT 274) m m2) (o : okC m2 274) : CIX m0 m2 := by
  have f : ∀ i j, ¬ i = 12 → ¬ i = 15 → (i < 274 ∨ 278 < i) → rd m2 i j = rd m i j := fun i j h1 h2 h3 => h.2.1 i j (sT_no h1 h2 (by omega))
  refine CIX_of g h (fun i j hi => sT_no (by omega) (by omega) (by omega)) (CR_mk g.2.1 g.1 (fun i j k => f i j (by unfold KA at k; omega) (by unfold KA at k; omega) (by unfold KA at k; omega)) (fun j => h.2.2 4 j) ⟨?_, o⟩)
  rw [h.2.1 274 4 (sT_4 st_274), f 7 3 (by omega) (by omega) (by omega)]
  exact g.2.1.2.1.1
theorem CI_rw {m0 m m2 : Mm} (g : CIX m0 m) (h : GX sRw m m2) : CIX m0 m2 := by
  have f : ∀ i j, (i < 49 ∨ 52 < i) → rd m2 i j = rd m i j := fun i j hi => h.2.1 i j (by unfold sRw; rw [nb_ne (by omega : ¬ i = 49), nb_ne (by omega : ¬ i = 50), nb_ne (by omega : ¬ i = 51), nb_ne (by omega : ¬ i = 52)]; rfl)
  refine CIX_of g h (fun i j hi => by unfold sRw; rw [nb_ne (by omega : ¬ i = 49), nb_ne (by omega : ¬ i = 50), nb_ne (by omega : ¬ i = 51), nb_ne (by omega : ¬ i = 52)]; rfl) (CR_mk g.2.1 g.1 (fun i j k => f i j (by unfold KA at k; omega)) (fun j => h.2.2 4 j) (okS_fr g.2.1.2.1 (f 7 3 (by omega)) (fun i c hi => f i c (by omega))))
theorem CI_pu {m0 m m2 : Mm} (g : CIX m0 m) (h : GX sPu m m2) : CIX m0 m2 := by
  have f : ∀ i j, ¬ i = 5 → ¬ i = 1 → rd m2 i j = rd m i j := fun i j h1 h2 => h.2.1 i j (by unfold sPu; rw [nb_ne h1, nb_ne h2]; rfl)
  refine CIX_of g h (fun i j hi => by unfold sPu; rw [nb_ne (by omega : ¬ i = 5), nb_ne (by omega : ¬ i = 1)]; rfl) (CR_mk g.2.1 g.1 (fun i j k => f i j (by unfold KA at k; omega) (by unfold KA at k; omega)) (fun j => h.2.2 4 j) (okS_fr g.2.1.2.1 (f 7 3 (by omega) (by omega)) (fun i c hi => f i c (by omega) (by omega))))
theorem CI_10 {m0 m : Mm} {v : Int} (g : CIX m0 m) (hv : 0 ≤ v ∧ v ≤ 2000) : CIX m0 (wt m 1 0 v) := by
  have f : ∀ i j, ¬ i = 1 → rd (wt m 1 0 v) i j = rd m i j := fun i j h => by rw [rd_wt, if_neg (by omega)]
  exact ⟨tw_1_0 g.1 hv, CR_mk g.2.1 g.1 (fun i j k => f i j (by unfold KA at k; omega)) (fun j => rfl) (okS_fr g.2.1.2.1 (f 7 3 (by omega)) (fun i c hi => f i c (by omega))), fun i j hi => ⟨(f i j (by omega)).trans (g.2.2 i j hi).1, (g.2.2 i j hi).2⟩⟩
theorem CI_paint {m0 m : Mm} {j : Nat} {v : Int} (g : CIX m0 m) (hv : 0 ≤ v ∧ v ≤ 9) : CIX m0 (wt m 275 j v) := by
  have f : ∀ i q, ¬ i = 275 → rd (wt m 275 j v) i q = rd m i q := fun i q h => by rw [rd_wt, if_neg (by omega)]
  refine ⟨tw_sM g.1 st_274 hv, CR_mk g.2.1 g.1 (fun i q k => f i q (by unfold KA at k; omega)) (fun j => rfl) ⟨?_, okC_wt g.2.1.2.1.2 (by omega) (by omega) (by omega)⟩, fun i q hi => ⟨(f i q (by omega)).trans (g.2.2 i q hi).1, (g.2.2 i q hi).2⟩⟩
  rw [f 274 4 (by omega), f 7 3 (by omega)]
  exact g.2.1.2.1.1
theorem okS_st {m m2 : Mm} {a b : Nat} (h : stEq m2 a m b) (o : okS m b) (e7 : rd m2 7 3 = rd m 7 3) (h3 : rd m b 4 ≤ 3) : okS m2 a := ⟨by rw [h.2.2.2.2.1, e7]; exact o.1, okC_st h o.2 h3⟩
theorem CI_keep {m0 m m2 : Mm} {x : Int} (g : CIX m0 m) (h : GX sPk m m2) (p : stEq m2 (259 + 5 * Int.toNat x) m 274 ∧ rd m2 58 (Int.toNat x) = 1 ∧ (∀ i j, ¬ i = 58 → ¬ (259 + 5 * Int.toNat x ≤ i ∧ i ≤ 263 + 5 * Int.toNat x) → rd m2 i j = rd m i j) ∧ ∀ j : Nat, ¬ j = Int.toNat x → rd m2 58 j = rd m 58 j) (hx : 0 ≤ x ∧ x ≤ 2) : CIX m0 m2 := by
  have f := p.2.2.1
  have e7 := f 7 3 (by omega) (by omega)
  have c := g.2.1
  have t4 := ty_s4 g.1 st_274
  refine CIX_of g h (fun i j hi => by unfold sPk; rw [nb_ne (by omega : ¬ i = 58), nble_f (by omega : 273 < i)]; simp) ⟨⟨lwOk_fr c.1.1 (f 11 4 (by omega) (by omega)) (fun j => f 13 j (by omega) (by omega)), lwOk_fr c.1.2.1 (f 20 4 (by omega) (by omega)) (fun j => f 22 j (by omega) (by omega)), fun i hi hk => ?_⟩, okS_fr c.2.1 e7 (fun i q hi => f i q (by omega) (by omega)), fun k hk => ?_, fun s hs hh => ?_⟩
  · rw [h.2.2]
    rw [f 2 i (by omega) (by omega)] at hk
    exact c.1.2.2 i hi hk
  · rw [f 55 0 (by omega) (by omega)] at hk
    have q : ringC m2 k = ringC m k := by unfold ringC; rw [f 55 4 (by omega) (by omega)]
    have b := ringC_b g.1 k
    rw [q]
    exact okS_fr (c.2.2.1 k hk) e7 (fun i c hi => f i c (by omega) (by omega))
  · by_cases e : s = Int.toNat x
    · rw [e]; exact okS_st p.1 c.2.1 e7 t4.2
    · rw [p.2.2.2 s e] at hh
      exact okS_fr (c.2.2.2 s hs hh) e7 (fun i q hi => f i q (by omega) (by omega))
theorem CI_note {m0 m m2 : Mm} (g : CIX m0 m) (h : GX sPn m m2) (p : stEq m2 (59 + 5 * Int.toNat (rd m 55 4)) m 274 ∧ rd m2 55 4 = (if rd m 55 4 + 1 < 40 then rd m 55 4 + 1 else 0) ∧ rd m2 55 0 = min (rd m 55 0 + 1) 40 ∧ ∀ i j, ¬ i = 55 → ¬ (59 + 5 * Int.toNat (rd m 55 4) ≤ i ∧ i ≤ 63 + 5 * Int.toNat (rd m 55 4)) → rd m2 i j = rd m i j) : CIX m0 m2 := by
  have f := p.2.2.2
  have tn := ty_55_4 g.1
  have ts := ty_55_0 g.1
  have e7 := f 7 3 (by omega) (by omega)
  have c := g.2.1
  have t4 := ty_s4 g.1 st_274
  have hn : (rd m2 55 4 = rd m 55 4 + 1 ∧ rd m 55 4 + 1 < 40) ∨ (rd m2 55 4 = 0 ∧ rd m 55 4 = 39) := by
    have := p.2.1
    split at this <;> omega
  have hz := p.2.2.1
  refine CIX_of g h (fun i j hi => by unfold sPn; rw [nb_ne (by omega : ¬ i = 55), nble_f (by omega : 258 < i)]; simp) ⟨⟨lwOk_fr c.1.1 (f 11 4 (by omega) (by omega)) (fun j => f 13 j (by omega) (by omega)), lwOk_fr c.1.2.1 (f 20 4 (by omega) (by omega)) (fun j => f 22 j (by omega) (by omega)), fun i hi hk => ?_⟩, okS_fr c.2.1 e7 (fun i q hi => f i q (by omega) (by omega)), fun k hk => ?_, fun s hs hh => ?_⟩
  · rw [h.2.2]
    rw [f 2 i (by omega) (by omega)] at hk
    exact c.1.2.2 i hi hk
  · cases k with
    | zero =>
      have q : ringC m2 0 = 59 + 5 * Int.toNat (rd m 55 4) := by unfold ringC; omega
      rw [q]
      exact okS_st p.1 c.2.1 e7 t4.2
    | succ k =>
      have q : ringC m2 (k + 1) = ringC m k := by unfold ringC; omega
      have b := ringC_b g.1 k
      have ne : ¬ ringC m k = 59 + 5 * Int.toNat (rd m 55 4) := by unfold ringC; omega
      rw [q]
      exact okS_fr (c.2.2.1 k (by omega)) e7 (fun i q hi => f i q (by omega) (by omega))
  · rw [f 58 s (by omega) (by omega)] at hh
    exact okS_fr (c.2.2.2 s hs hh) e7 (fun i q hi => f i q (by omega) (by omega))
theorem sPt_no {a i j : Nat} (h1 : ¬ i = 55) (h2 : ¬ (a ≤ i ∧ i ≤ a + 4)) : sPt a i j = false := by unfold sPt; rw [nb_ne h1, sA_no h2]; rfl
theorem CI_back {m0 m m2 : Mm} {v : Int} (g : CIX m0 m) (h : GX (sPt 274) m m2) (p : (v = 0 ∧ rd m 55 0 = 0 ∧ m2 = m) ∨ (v = 1 ∧ 0 < rd m 55 0 ∧ rd m2 55 0 = rd m 55 0 - 1 ∧ rd m2 55 4 = (if 0 < rd m 55 4 then rd m 55 4 - 1 else 39) ∧ stEq m2 274 m (59 + 5 * Int.toNat (if 0 < rd m 55 4 then rd m 55 4 - 1 else 39)))) : CIX m0 m2 := by
  rcases p with ⟨_, _, rfl⟩ | ⟨_, p1, p2, p3, p4⟩
  · exact g
  · have f : ∀ i j, ¬ i = 55 → ¬ (274 ≤ i ∧ i ≤ 278) → rd m2 i j = rd m i j := fun i j h1 h2 => h.2.1 i j (sPt_no h1 h2)
    have tn := ty_55_4 g.1
    have ts := ty_55_0 g.1
    have e7 := f 7 3 (by omega) (by omega)
    have c := g.2.1
    have hn : ∃ n : Int, (if 0 < rd m 55 4 then rd m 55 4 - 1 else 39) = n ∧ ((n = rd m 55 4 - 1 ∧ 0 < rd m 55 4) ∨ (n = 39 ∧ rd m 55 4 = 0)) := ⟨_, rfl, by split <;> omega⟩
    obtain ⟨n, en, hn⟩ := hn
    rw [en] at p3 p4
    have q0 : ringC m 0 = 59 + 5 * Int.toNat n := by unfold ringC; omega
    have o := c.2.2.1 0 (by omega)
    rw [q0] at o
    have t4 : rd m (59 + 5 * Int.toNat n) 4 ≤ 3 := (ty_s4 g.1 (by unfold isSt; omega)).2
    refine CIX_of g h (fun i j hi => sPt_no (by omega) (by omega)) ⟨⟨lwOk_fr c.1.1 (f 11 4 (by omega) (by omega)) (fun j => f 13 j (by omega) (by omega)), lwOk_fr c.1.2.1 (f 20 4 (by omega) (by omega)) (fun j => f 22 j (by omega) (by omega)), fun i hi hk => ?_⟩, okS_st p4 o e7 t4, fun k hk => ?_, fun s hs hh => ?_⟩
    · rw [h.2.2]
      rw [f 2 i (by omega) (by omega)] at hk
      exact c.1.2.2 i hi hk
    · have q : ringC m2 k = ringC m (k + 1) := by unfold ringC; omega
      have b := ringC_b g.1 (k + 1)
      rw [q]
      exact okS_fr (c.2.2.1 (k + 1) (by omega)) e7 (fun i q hi => f i q (by omega) (by omega))
    · rw [f 58 s (by omega) (by omega)] at hh
      exact okS_fr (c.2.2.2 s hs hh) e7 (fun i q hi => f i q (by omega) (by omega))
theorem CI_goon {m0 m m2 : Mm} {v x : Int} (g : CIX m0 m) (h : GX (sPt 274) m m2) (p : (v = 0 ∧ rd m 58 (Int.toNat x) = 0 ∧ m2 = m) ∨ (v = 1 ∧ ¬ rd m 58 (Int.toNat x) = 0 ∧ rd m2 55 0 = 0 ∧ rd m2 55 4 = rd m 55 4 ∧ stEq m2 274 m (259 + 5 * Int.toNat x))) (hx : 0 ≤ x ∧ x ≤ 2) : CIX m0 m2 := by
  rcases p with ⟨_, _, rfl⟩ | ⟨_, p1, p2, p3, p4⟩
  · exact g
  · have f : ∀ i j, ¬ i = 55 → ¬ (274 ≤ i ∧ i ≤ 278) → rd m2 i j = rd m i j := fun i j h1 h2 => h.2.1 i j (sPt_no h1 h2)
    have e7 := f 7 3 (by omega) (by omega)
    have c := g.2.1
    have o := c.2.2.2 (Int.toNat x) (by omega) p1
    have t4 : rd m (259 + 5 * Int.toNat x) 4 ≤ 3 := (ty_s4 g.1 (by unfold isSt; omega)).2
    refine CIX_of g h (fun i j hi => sPt_no (by omega) (by omega)) ⟨⟨lwOk_fr c.1.1 (f 11 4 (by omega) (by omega)) (fun j => f 13 j (by omega) (by omega)), lwOk_fr c.1.2.1 (f 20 4 (by omega) (by omega)) (fun j => f 22 j (by omega) (by omega)), fun i hi hk => ?_⟩, okS_st p4 o e7 t4, fun k hk => by omega, fun s hs hh => ?_⟩
    · rw [h.2.2]
      rw [f 2 i (by omega) (by omega)] at hk
      exact c.1.2.2 i hi hk
    · rw [f 58 s (by omega) (by omega)] at hh
      exact okS_fr (c.2.2.2 s hs hh) e7 (fun i q hi => f i q (by omega) (by omega))
-- TippedCrates.feed(IIIII)I
set_option maxRecDepth 20000 in
theorem ct_122 {m0 m : Mm} {x1 : Int} {x2 : Int} {x3 : Int} {x4 : Int} {x5 : Int}  (g_m : CIX m0 m) (r_x1 : rg x1) (r_x2 : rg x2) (r_x3 : rg x3) (r_x4 : rg x4) (r_x5 : rg x5)  : CK 2 122 [.ref 0, iv x1, iv x2, iv x3, iv x4, iv x5] m (fun m2 v => CIX m0 m2 ∧ ((rd m 1 0 ≤ 1980 ∧ v = rd m 1 0 + 20 ∧ rd m2 1 0 = rd m 1 0 + 20) ∨ (¬ rd m 1 0 ≤ 1980 ∧ v = -1 ∧ rd m2 1 0 = rd m 1 0))) := by
  refine br_122 r_x1 r_x2 r_x3 r_x4 r_x5 ?_
  unfold P_122
  have t1 := ty_1_0 g_m.1
  refine ⟨fun hq => ?_, fun hq => ?_⟩
  · skip
    refine CV.mono (ct_86   g_m.1 r_x1 (by omega)) (by decide) ?_
    rintro m20 ⟨hx_m20, h_m20⟩
    have g_m20 : CIX m0 m20 := CI_pu g_m hx_m20
    refine CV.mono (ct_86   g_m20.1 r_x2 (by omega)) (by decide) ?_
    rintro m28 ⟨hx_m28, h_m28⟩
    have g_m28 : CIX m0 m28 := CI_pu g_m20 hx_m28
    refine CV.mono (ct_86   g_m28.1 r_x3 (by omega)) (by decide) ?_
    rintro m36 ⟨hx_m36, h_m36⟩
    have g_m36 : CIX m0 m36 := CI_pu g_m28 hx_m36
    refine CV.mono (ct_86   g_m36.1 r_x4 (by omega)) (by decide) ?_
    rintro m45 ⟨hx_m45, h_m45⟩
    have g_m45 : CIX m0 m45 := CI_pu g_m36 hx_m45
    refine CV.mono (ct_86   g_m45.1 r_x5 (by omega)) (by decide) ?_
    rintro m54 ⟨hx_m54, h_m54⟩
    have g_m54 : CIX m0 m54 := CI_pu g_m45 hx_m54
    have t2 := ty_1_0 g_m54.1
    exact ⟨g_m54, by first | trivial | omega | (refine ⟨?_, ?_⟩ <;> omega)⟩
  · skip
    exact ⟨g_m, by first | trivial | omega | (refine ⟨?_, ?_⟩ <;> omega)⟩
-- TippedCrates.back(I)I
set_option maxRecDepth 20000 in
theorem ct_123 {m0 m : Mm} {x1 : Int}  (g_m : CIX m0 m) (r_x1 : rg x1)  : CK 1 123 [.ref 0, iv x1] m (fun m2 v => CIX m0 m2 ∧ ((0 ≤ x1 ∧ x1 ≤ rd m 1 0 ∧ v = rd m 1 0 - x1 ∧ rd m2 1 0 = rd m 1 0 - x1) ∨ (¬ (0 ≤ x1 ∧ x1 ≤ rd m 1 0) ∧ v = -1 ∧ rd m2 1 0 = rd m 1 0))) := by
  refine br_123 r_x1 ?_
  unfold P_123
  have t1 := ty_1_0 g_m.1
  refine ⟨¬ (0 ≤ x1 ∧ x1 ≤ rd m 1 0), ?_, ?_⟩
  · skip
    refine ⟨fun hq => ?_, fun hq => ?_⟩
    · skip
      (first | trivial | omega | (refine ⟨?_, ?_⟩ <;> omega))
    · skip
      have t1 := ty_1_0 g_m.1
      refine ⟨fun hq => ?_, fun hq => ?_⟩
      · skip
        try have w2 : wr ((rd m 1 0) - x1) = (rd m 1 0) - x1 := wr_id (by omega) (by omega)
        intro m27 e_m27
        have g_m27 : CIX m0 m27 := by rw [e_m27]; exact CI_10 g_m ⟨by omega, by omega⟩
        have n27 : rd m27 1 0 = rd m 1 0 - x1 := by rw [e_m27, rd_wt, if_pos ⟨rfl, rfl⟩, wr_i (wr_rg _), wr_id (by omega) (by omega)]
        have t3 := ty_1_0 g_m27.1
        exact ⟨g_m27, by first | trivial | omega | (refine ⟨?_, ?_⟩ <;> omega)⟩
      · skip
        (first | trivial | omega | (refine ⟨?_, ?_⟩ <;> omega))
  · intro   hR_15
    exact ⟨g_m, by first | trivial | omega | (refine ⟨?_, ?_⟩ <;> omega)⟩
-- TippedCrates.tip(II)I
set_option maxRecDepth 20000 in
theorem ct_129 {m0 m : Mm} {x1 : Int} {x2 : Int}  (g_m : CIX m0 m) (r_x1 : rg x1) (r_x2 : rg x2)  : CK 5 129 [.ref 0, iv x1, iv x2] m (fun m2 v => CIX m0 m2 ∧ (rd m2 1 0 = rd m 1 0)) := by
  refine br_129 r_x1 r_x2 ?_
  unfold P_129
  have ok := g_m.2.1.2.1
  have okn := ok.1
  have t73 := ty_7_3 g_m.1
  refine CK.mono (ct_162   g_m.1 r_x1) (by decide) ?_
  rintro m2 v2 r_v2 ⟨e_m2, h_m2⟩
  replace e_m2 := e_m2.symm
  subst e_m2
  refine ⟨fun m_31 => CIX m0 m_31 ∧ (rd m_31 1 0 = rd m 1 0), ?_, ?_⟩
  · skip
    refine ⟨fun hq => ?_, fun hq => ?_⟩
    · skip
      exact ⟨g_m, by first | trivial | omega | (refine ⟨?_, ?_⟩ <;> omega)⟩
    · skip
      refine CK.mono (ct_165   r_x2) (by decide) ?_
      rintro m9 v9 r_v9 ⟨e_m9, h_m9⟩
      replace e_m9 := e_m9.symm
      subst e_m9
      refine ⟨fun hq => ?_, fun hq => ?_⟩
      · skip
        exact ⟨g_m, by first | trivial | omega | (refine ⟨?_, ?_⟩ <;> omega)⟩
      · skip
        have fl := ok.2.1 (Int.toNat x1) (by omega)
        refine CK.mono (ct_1   g_m.1 st_274 r_x1 r_x2 (by omega) (by omega) fl) (by decide) ?_
        rintro m25 v25 r_v25 ⟨e_m25, h_m25⟩
        replace e_m25 := e_m25.symm
        subst e_m25
        refine ⟨fun hq => ?_, fun hq => ?_⟩
        · skip
          refine CV.mono (ct_21   g_m.1 st_274) (by decide) ?_
          rintro m41 ⟨hx_m41, h_m41⟩
          have g_m41 : CIX m0 m41 := CI_note g_m hx_m41 h_m41
          have c41 : rd m41 274 4 = rd m 274 4 := hx_m41.2.1 274 4 rfl
          have s41 : rd m41 1 0 = rd m 1 0 := hx_m41.2.1 1 0 rfl
          refine CV.mono (ct_7   g_m41.1 st_274 r_x1 r_x2 g_m41.2.1.2.1.2 (by omega) (by omega) g_m41.2.1.1.1) (by decide) ?_
          rintro m54 ⟨hx_m54, h_m54⟩
          have g_m54 : CIX m0 m54 := CI_sT g_m41 hx_m54 h_m54
          have s54 : rd m54 1 0 = rd m41 1 0 := hx_m54.2.1 1 0 (sT_no (by omega) (by omega) (by omega))
          refine ⟨⟨by omega, by omega⟩, ?_⟩
          have t1 := ty_sF g_m54.1 st_274 (Int.toNat x1)
          exact ⟨g_m54, by first | trivial | omega | (refine ⟨?_, ?_⟩ <;> omega)⟩
        · skip
          exact ⟨g_m, by first | trivial | omega | (refine ⟨?_, ?_⟩ <;> omega)⟩
  · intro m_31  hR_31
    obtain ⟨g_m_31, hR_31⟩ := hR_31
    exact ⟨g_m_31, by first | trivial | omega | (refine ⟨?_, ?_⟩ <;> omega)⟩
-- TippedCrates.paint(II)Z
set_option maxRecDepth 20000 in
theorem ct_130 {m0 m : Mm} {x1 : Int} {x2 : Int}  (g_m : CIX m0 m) (r_x1 : rg x1) (r_x2 : rg x2)  : CK 3 130 [.ref 0, iv x1, iv x2] m (fun m2 v => CIX m0 m2 ∧ (rd m2 1 0 = rd m 1 0)) := by
  refine br_130 r_x1 r_x2 ?_
  unfold P_130
  have ok := g_m.2.1.2.1
  have okn := ok.1
  have t73 := ty_7_3 g_m.1
  have wb := wh_b (ty_7_0 g_m.1) (ty_7_1 g_m.1)
  refine CK.mono (ct_163   g_m.1 r_x1) (by decide) ?_
  rintro m2 v2 r_v2 ⟨e_m2, h_m2⟩
  replace e_m2 := e_m2.symm
  subst e_m2
  refine ⟨fun m_28 => CIX m0 m_28 ∧ (rd m_28 1 0 = rd m 1 0), ?_, ?_⟩
  · skip
    refine ⟨fun hq => ?_, fun hq => ?_⟩
    · skip
      exact ⟨g_m, by first | trivial | omega | (refine ⟨?_, ?_⟩ <;> omega)⟩
    · skip
      refine CK.mono (ct_164   r_x2) (by decide) ?_
      rintro m9 v9 r_v9 ⟨e_m9, h_m9⟩
      replace e_m9 := e_m9.symm
      subst e_m9
      refine ⟨fun hq => ?_, fun hq => ?_⟩
      · skip
        exact ⟨g_m, by first | trivial | omega | (refine ⟨?_, ?_⟩ <;> omega)⟩
      · skip
        refine ⟨⟨by omega, by omega⟩, ?_⟩
        have t1 := ty_sM g_m.1 st_274 (Int.toNat x1)
        refine ⟨fun hq => ?_, fun hq => ?_⟩
        · skip
          refine CK.mono (ct_31   r_x1) (by decide) ?_
          rintro m35 v35 r_v35 ⟨e_m35, h_m35⟩
          replace e_m35 := e_m35.symm
          subst e_m35
          refine ⟨fun m_53 => CIX m0 m_53 ∧ (rd m_53 1 0 = rd m 1 0), ?_, ?_⟩
          · skip
            refine ⟨fun hq => ?_, fun hq => ?_⟩
            · skip
              exact ⟨g_m, by first | trivial | omega | (refine ⟨?_, ?_⟩ <;> omega)⟩
            · skip
              refine CK.mono (ct_77   g_m.1 st_274 r_x1) (by decide) ?_
              rintro m46 v46 r_v46 ⟨e_m46, h_m46⟩
              replace e_m46 := e_m46.symm
              subst e_m46
              refine ⟨fun hq => ?_, fun hq => ?_⟩
              · skip
                refine CV.mono (ct_21   g_m.1 st_274) (by decide) ?_
                rintro m63 ⟨hx_m63, h_m63⟩
                have g_m63 : CIX m0 m63 := CI_note g_m hx_m63 h_m63
                have s63 : rd m63 1 0 = rd m 1 0 := hx_m63.2.1 1 0 rfl
                refine ⟨⟨by omega, by omega⟩, ?_⟩
                intro m75 e_m75
                have g_m75 : CIX m0 m75 := by rw [e_m75]; exact CI_paint g_m63 ⟨by omega, by omega⟩
                have s75 : rd m75 1 0 = rd m63 1 0 := by rw [e_m75, rd_wt, if_neg (by omega)]
                exact ⟨g_m75, by first | trivial | omega | (refine ⟨?_, ?_⟩ <;> omega)⟩
              · skip
                exact ⟨g_m, by first | trivial | omega | (refine ⟨?_, ?_⟩ <;> omega)⟩
          · intro m_53  hR_53
            obtain ⟨g_m_53, hR_53⟩ := hR_53
            exact ⟨g_m_53, by first | trivial | omega | (refine ⟨?_, ?_⟩ <;> omega)⟩
        · skip
          exact ⟨g_m, by first | trivial | omega | (refine ⟨?_, ?_⟩ <;> omega)⟩
  · intro m_28  hR_28
    obtain ⟨g_m_28, hR_28⟩ := hR_28
    exact ⟨g_m_28, by first | trivial | omega | (refine ⟨?_, ?_⟩ <;> omega)⟩
-- TippedCrates.minutes(I)I
set_option maxRecDepth 20000 in
theorem ct_131 {m0 m : Mm} {x1 : Int}  (g_m : CIX m0 m) (r_x1 : rg x1)  : CK 7 131 [.ref 0, iv x1] m (fun m2 v => CIX m0 m2 ∧ (rd m2 1 0 = rd m 1 0)) := by
  refine br_131 r_x1 ?_
  unfold P_131
  have ok := g_m.2.1.2.1
  have okn := ok.1
  have t73 := ty_7_3 g_m.1
  refine CK.mono (ct_166   r_x1 (by unfold rg; decide) (by unfold rg; decide)) (by decide) ?_
  rintro m4 v4 r_v4 ⟨e_m4, h_m4⟩
  replace e_m4 := e_m4.symm
  subst e_m4
  refine ⟨fun hq => ?_, fun hq => ?_⟩
  · skip
    refine ⟨fun m_46 => CIX m0 m_46 ∧ (rd m_46 1 0 = rd m 1 0), ?_, ?_⟩
    · skip
      refine ⟨fun hq => ?_, fun hq => ?_⟩
      · skip
        exact ⟨g_m, by first | trivial | omega | (refine ⟨?_, ?_⟩ <;> omega)⟩
      · skip
        refine CV.mono (ct_21   g_m.1 st_274) (by decide) ?_
        rintro m24 ⟨hx_m24, h_m24⟩
        have g_m24 : CIX m0 m24 := CI_note g_m hx_m24 h_m24
        have s24 : rd m24 1 0 = rd m 1 0 := hx_m24.2.1 1 0 rfl
        refine CV.mono (ct_8   g_m24.1 st_274 r_x1 (rd_rg _ _ _) g_m24.2.1.2.1.2 g_m24.2.1.1.1 (by omega)) (by decide) ?_
        rintro m43 ⟨hx_m43, h_m43⟩
        have g_m43 : CIX m0 m43 := CI_sT g_m24 hx_m43 h_m43.1
        have s43 : rd m43 1 0 = rd m24 1 0 := hx_m43.2.1 1 0 (sT_no (by omega) (by omega) (by omega))
        exact ⟨g_m43, by first | trivial | omega | (refine ⟨?_, ?_⟩ <;> omega)⟩
    · intro m_46  hR_46
      obtain ⟨g_m_46, hR_46⟩ := hR_46
      exact ⟨g_m_46, by first | trivial | omega | (refine ⟨?_, ?_⟩ <;> omega)⟩
  · skip
    exact ⟨g_m, by first | trivial | omega | (refine ⟨?_, ?_⟩ <;> omega)⟩
-- TippedCrates.undo()Z
set_option maxRecDepth 20000 in
theorem ct_132 {m0 m : Mm}   (g_m : CIX m0 m)   : CK 3 132 [.ref 0] m (fun m2 v => CIX m0 m2 ∧ (rd m2 1 0 = rd m 1 0)) := by
  refine br_132  ?_
  unfold P_132
  refine CK.mono (ct_22   g_m.1 st_274) (by decide) ?_
  rintro m8 v8 r_v8 ⟨hx_m8, h_m8⟩
  have g_m8 : CIX m0 m8 := CI_back g_m hx_m8 h_m8
  have s8 : rd m8 1 0 = rd m 1 0 := hx_m8.2.1 1 0 rfl
  exact ⟨by omega, ⟨g_m8, by first | trivial | omega | (refine ⟨?_, ?_⟩ <;> omega)⟩⟩
-- TippedCrates.hold(I)Z
set_option maxRecDepth 20000 in
theorem ct_155 {m0 m : Mm} {x1 : Int}  (g_m : CIX m0 m) (r_x1 : rg x1)  : CK 3 155 [.ref 0, iv x1] m (fun m2 v => CIX m0 m2 ∧ (rd m2 1 0 = rd m 1 0 ∧ ((v = 1 ∧ 0 ≤ x1 ∧ x1 ≤ 2) ∨ (v = 0 ∧ (x1 < 0 ∨ 2 < x1))))) := by
  refine br_155 r_x1 ?_
  unfold P_155
  refine CK.mono (ct_166   r_x1 (by unfold rg; decide) (by unfold rg; decide)) (by decide) ?_
  rintro m3 v3 r_v3 ⟨e_m3, h_m3⟩
  replace e_m3 := e_m3.symm
  subst e_m3
  refine ⟨fun hq => ?_, fun hq => ?_⟩
  · skip
    refine CV.mono (ct_23   g_m.1 st_274 r_x1 (by omega)) (by decide) ?_
    rintro m20 ⟨hx_m20, h_m20⟩
    have g_m20 : CIX m0 m20 := CI_keep g_m hx_m20 h_m20 ⟨by omega, by omega⟩
    have s20 : rd m20 1 0 = rd m 1 0 := hx_m20.2.1 1 0 rfl
    exact ⟨g_m20, by first | trivial | omega | (refine ⟨?_, ?_⟩ <;> omega)⟩
  · skip
    exact ⟨g_m, by first | trivial | omega | (refine ⟨?_, ?_⟩ <;> omega)⟩
-- TippedCrates.restore(I)Z
set_option maxRecDepth 20000 in
theorem ct_156 {m0 m : Mm} {x1 : Int}  (g_m : CIX m0 m) (r_x1 : rg x1)  : CK 3 156 [.ref 0, iv x1] m (fun m2 v => CIX m0 m2 ∧ (rd m2 1 0 = rd m 1 0)) := by
  refine br_156 r_x1 ?_
  unfold P_156
  refine CK.mono (ct_166   r_x1 (by unfold rg; decide) (by unfold rg; decide)) (by decide) ?_
  rintro m3 v3 r_v3 ⟨e_m3, h_m3⟩
  replace e_m3 := e_m3.symm
  subst e_m3
  refine ⟨fun s0_29 m_29 => CIX m0 m_29 ∧ ((s0_29 = 0 ∨ s0_29 = 1) ∧ rd m_29 1 0 = rd m 1 0), ?_, ?_⟩
  · skip
    refine ⟨fun m_28 => CIX m0 m_28 ∧ (rd m_28 1 0 = rd m 1 0), ?_, ?_⟩
    · skip
      refine ⟨fun hq => ?_, fun hq => ?_⟩
      · skip
        exact ⟨g_m, by first | trivial | omega | (refine ⟨?_, ?_⟩ <;> omega)⟩
      · skip
        refine CK.mono (ct_24   g_m.1 st_274 r_x1 (by omega)) (by decide) ?_
        rintro m18 v18 r_v18 ⟨hx_m18, h_m18⟩
        have g_m18 : CIX m0 m18 := CI_goon g_m hx_m18 h_m18 ⟨by omega, by omega⟩
        have s18 : rd m18 1 0 = rd m 1 0 := hx_m18.2.1 1 0 rfl
        refine ⟨fun hq => ?_, fun hq => ?_⟩
        · skip
          exact ⟨g_m18, by first | trivial | omega | (refine ⟨?_, ?_⟩ <;> omega)⟩
        · skip
          exact ⟨g_m18, by first | trivial | omega | (refine ⟨?_, ?_⟩ <;> omega)⟩
    · intro m_28  hR_28
      obtain ⟨g_m_28, hR_28⟩ := hR_28
      exact ⟨g_m_28, by first | trivial | omega | (refine ⟨?_, ?_⟩ <;> omega)⟩
  · intro s0_29 m_29 r_s0_29 hR_29
    obtain ⟨g_m_29, hR_29⟩ := hR_29
    exact ⟨by omega, ⟨g_m_29, by first | trivial | omega | (refine ⟨?_, ?_⟩ <;> omega)⟩⟩
-- TippedCrates.tell(IIZ)I
set_option maxRecDepth 20000 in
theorem ct_151 {m0 m : Mm} {x1 : Int} {x2 : Int} {x3 : Int}  (g_m : CIX m0 m) (r_x1 : rg x1) (r_x2 : rg x2) (r_x3 : rg x3)  : CK 3 151 [.ref 0, iv x1, iv x2, iv x3] m (fun m2 v => CIX m0 m2 ∧ (rd m2 1 0 = rd m 1 0)) := by
  refine br_151 r_x1 r_x2 r_x3 ?_
  unfold P_151
  refine CK.mono (ct_166   r_x1 (by unfold rg; decide) (by unfold rg; decide)) (by decide) ?_
  rintro m3 v3 r_v3 ⟨e_m3, h_m3⟩
  replace e_m3 := e_m3.symm
  subst e_m3
  refine ⟨fun m_28 => CIX m0 m_28 ∧ (rd m_28 1 0 = rd m 1 0), ?_, ?_⟩
  · skip
    refine ⟨fun hq => ?_, fun hq => ?_⟩
    · skip
      exact ⟨g_m, by first | trivial | omega | (refine ⟨?_, ?_⟩ <;> omega)⟩
    · skip
      refine CK.mono (ct_164   r_x2) (by decide) ?_
      rintro m10 v10 r_v10 ⟨e_m10, h_m10⟩
      replace e_m10 := e_m10.symm
      subst e_m10
      refine ⟨fun hq => ?_, fun hq => ?_⟩
      · skip
        exact ⟨g_m, by first | trivial | omega | (refine ⟨?_, ?_⟩ <;> omega)⟩
      · skip
        have t1 := ty_49_0 g_m.1
        refine ⟨fun hq => ?_, fun hq => ?_⟩
        · skip
          refine CK.mono (ct_56   g_m.1 r_x1 r_x2 r_x3 (by omega)) (by decide) ?_
          rintro m37 v37 r_v37 ⟨hx_m37, h_m37⟩
          have g_m37 : CIX m0 m37 := CI_rw g_m hx_m37
          have s37 : rd m37 1 0 = rd m 1 0 := hx_m37.2.1 1 0 rfl
          exact ⟨g_m37, by first | trivial | omega | (refine ⟨?_, ?_⟩ <;> omega)⟩
        · skip
          exact ⟨g_m, by first | trivial | omega | (refine ⟨?_, ?_⟩ <;> omega)⟩
  · intro m_28  hR_28
    obtain ⟨g_m_28, hR_28⟩ := hR_28
    exact ⟨g_m_28, by first | trivial | omega | (refine ⟨?_, ?_⟩ <;> omega)⟩
-- TippedCrates.forget()I
set_option maxRecDepth 20000 in
theorem ct_152 {m0 m : Mm}   (g_m : CIX m0 m)   : CK 2 152 [.ref 0] m (fun m2 v => CIX m0 m2 ∧ (rd m2 1 0 = rd m 1 0)) := by
  refine br_152  ?_
  unfold P_152
  refine CK.mono (ct_57   g_m.1) (by decide) ?_
  rintro m4 v4 r_v4 ⟨hx_m4, h_m4⟩
  have g_m4 : CIX m0 m4 := CI_rw g_m hx_m4
  have s4 : rd m4 1 0 = rd m 1 0 := hx_m4.2.1 1 0 rfl
  exact ⟨g_m4, by first | trivial | omega | (refine ⟨?_, ?_⟩ <;> omega)⟩
set_option maxRecDepth 20000 in
theorem ct_124 {m0 m : Mm} (g_m : CIX m0 m) : CK 41 124 [.ref 0] m (fun m2 v => CIX m0 m2 ∧ (rd m2 1 0 = 0)) := by
  refine br_124 ?_
  unfold P_124
  refine CK.mono (ct_34 (m0 := m) ⟨g_m.1, fun _ _ _ => rfl, fun _ _ _ _ => rfl⟩ g_m.2.1.1.2.2) (by decide) ?_
  rintro m4 v4 r_v4 ⟨q4, lt4, h4⟩
  intro m13 e13
  have T13 : Ty m13 := by rw [e13]; exact tw_1_0 q4.1 ⟨by omega, by omega⟩
  have e13' : ∀ i j, ¬ i = 1 → rd m13 i j = rd m4 i j := fun i j h => by rw [e13, rd_wt, if_neg (by omega)]
  have l13 : ∀ i j, ld m13 i j = ld m4 i j := fun i j => by rw [e13]; rfl
  have z13 : rd m13 1 0 = 0 := by rw [e13, rd_wt, if_pos ⟨rfl, rfl⟩]; rfl
  have lt13 : lwOk m13 20 ∧ tkOk m13 := ⟨lwOk_fr lt4.1 (e13' 20 4 (by omega)) (fun j => e13' 22 j (by omega)), by rw [e13]; exact tk_wt lt4.2 (by omega)⟩
  have f4 : ∀ i j, 30 ≤ i → rd m13 i j = rd m i j := fun i j h => (e13' i j (by omega)).trans (q4.2.1 i j (sQ_hi h))
  have fl4 : ∀ i j, 30 ≤ i → ld m13 i j = ld m i j := fun i j h => (l13 i j).trans (q4.2.2 i j (by omega) (by omega))
  refine ⟨fun m_46 => CIX m0 m_46 ∧ rd m_46 1 0 = 0, ?_, fun m_46 h => h⟩
  refine ⟨fun hq => ?_, fun hq => ?_⟩
  · have pl : ∀ i j, (7 ≤ i ∧ i ≤ 18) → rd m13 i j = rd m i j := fun i j h => by
      rcases h4 with w | w
      · exact (e13' i j (by omega)).trans (w.2 i j h)
      · exact absurd w.1 hq
    refine ⟨⟨T13, ?_, fun i j h => ⟨(f4 i j (by omega)).trans (g_m.2.2 i j h).1, (fl4 i j (by omega)).trans (g_m.2.2 i j h).2⟩⟩, z13⟩
    have c := g_m.2.1
    refine ⟨⟨lwOk_fr c.1.1 (pl 11 4 (by omega)) (fun j => pl 13 j (by omega)), lt13⟩, ?_, ?_, ?_⟩
    · exact okS_fr c.2.1 (pl 7 3 (by omega)) (fun i j h => f4 i j (by omega))
    · intro k hk
      have e0 := f4 55 0 (by omega)
      have e4 := f4 55 4 (by omega)
      have t4 := ty_55_4 g_m.1
      unfold ringC
      rw [e4]
      exact okS_fr (c.2.2.1 k (by omega)) (pl 7 3 (by omega)) (fun i j h => f4 i j (by omega))
    · intro s hs hh
      rw [f4 58 s (by omega)] at hh
      exact okS_fr (c.2.2.2 s hs hh) (pl 7 3 (by omega)) (fun i j h => f4 i j (by omega))
  · have po : planOk m13 := by
      rcases h4 with w | w
      · exact absurd hq w.1
      · have p := w.2
        refine ⟨lwOk_fr p.1 (e13' 11 4 (by omega)) (fun j => e13' 13 j (by omega)), fun c hc => ?_, fun k hk => ?_⟩
        · rw [e13' 7 3 (by omega)] at hc
          rw [e13' 9 c (by omega)]
          exact p.2.1 c hc
        · rw [e13' 7 3 (by omega)] at hk
          rw [e13' 10 k (by omega)]
          exact p.2.2 k hk
    refine CV.mono (ct_75 T13 st_274) (by decide) ?_
    rintro m28 ⟨x28, h28⟩
    have s28 : ∀ i j, ¬ (274 ≤ i ∧ i ≤ 278) → rd m28 i j = rd m13 i j := fun i j h => x28.2.1 i j (sA_no h)
    refine CV.mono (ct_20 x28.1) (by decide) ?_
    rintro m35 ⟨x35, h35⟩
    have s35 : ∀ i j, ¬ i = 55 → ¬ i = 58 → rd m35 i j = rd m28 i j := fun i j h1 h2 => x35.2.1 i j (by unfold sPc; rw [nb_ne h1, nb_ne h2]; rfl)
    refine CK.mono (ct_57 x35.1) (by decide) ?_
    rintro m42 v42 r42 ⟨x42, h42⟩
    have s42 : ∀ i j, ¬ i = 49 → ¬ i = 50 → ¬ i = 51 → ¬ i = 52 → rd m42 i j = rd m35 i j := fun i j h1 h2 h3 h4 => x42.2.1 i j (by unfold sRw; rw [nb_ne h1, nb_ne h2, nb_ne h3, nb_ne h4]; rfl)
    have a : ∀ i j, ¬ (49 ≤ i ∧ i ≤ 52) → ¬ i = 55 → ¬ i = 58 → ¬ (274 ≤ i ∧ i ≤ 278) → rd m42 i j = rd m13 i j := fun i j h1 h2 h3 h4 => (s42 i j (by omega) (by omega) (by omega) (by omega)).trans ((s35 i j h2 h3).trans (s28 i j h4))
    have b : ∀ i j, ld m42 i j = ld m13 i j := fun i j => (x42.2.2 i j).trans ((x35.2.2 i j).trans (x28.2.2 i j))
    have d : ∀ i j, (274 ≤ i ∧ i ≤ 278) → rd m42 i j = rd m28 i j := fun i j h => (s42 i j (by omega) (by omega) (by omega) (by omega)).trans (s35 i j (by omega) (by omega))
    have n0 : rd m42 55 0 = 0 := (s42 55 0 (by omega) (by omega) (by omega) (by omega)).trans h35.1
    refine ⟨⟨x42.1, ?_, fun i j h => ?_⟩, (a 1 0 (by omega) (by omega) (by omega) (by omega)).trans z13⟩
    · refine ⟨⟨lwOk_fr po.1 (a 11 4 (by omega) (by omega) (by omega) (by omega)) (fun j => a 13 j (by omega) (by omega) (by omega) (by omega)), lwOk_fr lt13.1 (a 20 4 (by omega) (by omega) (by omega) (by omega)) (fun j => a 22 j (by omega) (by omega) (by omega) (by omega)), fun i hi hk => ?_⟩, ⟨?_, ?_, ?_⟩, fun k hk => by omega, fun s hs hh => ?_⟩
      · rw [b]
        rw [a 2 i (by omega) (by omega) (by omega) (by omega)] at hk
        exact lt13.2 i hi hk
      · rw [d 274 4 (by omega), h28.1, a 7 3 (by omega) (by omega) (by omega) (by omega)]
      · intro c hc
        have t := ty_7_3 T13
        rw [d 274 4 (by omega), h28.1] at hc
        rw [d 276 c (by omega), h28.2.1 c (by omega)]
        exact po.2.1 c hc
      · intro k hk
        have t := ty_7_3 T13
        rw [d 274 4 (by omega), h28.1] at hk
        rw [d 277 k (by omega), h28.2.2 k (by omega)]
        exact po.2.2 k hk
      · exact absurd ((s42 58 s (by omega) (by omega) (by omega) (by omega)).trans (h35.2 s hs)) hh
    · exact ⟨(a i j (by omega) (by omega) (by omega) (by omega)).trans ((f4 i j (by omega)).trans (g_m.2.2 i j h).1), (b i j).trans ((fl4 i j (by omega)).trans (g_m.2.2 i j h).2)⟩
