/-! What a text begins: the yard, the row, told by what the parse tells -/
def bgY (s : Ps) : Ro := fun i => if i = 0 then s 0 5 else if i = 1 then s 0 6 else if i = 2 then shB (s 0 5) (s 1) (s 2) (Int.toNat (s 0 8)) else if i = 3 then s 0 10 else s 0 7
def bgR (s : Ps) : Ro := r0 (s 0 5) (Int.toNat (s 0 9)) (s 3) (s 4) (s 5) (s 6) (s 7) (s 8) (Int.toNat (s 0 10))
def bgA (s : Ps) (E : Lw) : Ab := mkA (bgY s) E (bgR s) 0 (fun _ _ => 0) (fun _ => 0) (fun _ _ => 0)
theorem bgY_0 (s : Ps) : bgY s 0 = s 0 5 := rfl
theorem bgY_1 (s : Ps) : bgY s 1 = s 0 6 := rfl
theorem bgY_2 (s : Ps) : bgY s 2 = shB (s 0 5) (s 1) (s 2) (Int.toNat (s 0 8)) := rfl
theorem bgY_3 (s : Ps) : bgY s 3 = s 0 10 := rfl
theorem bgY_4 (s : Ps) : bgY s 4 = s 0 7 := rfl
theorem plan_ly {m : Mm} {Y : Ro} (hw : 2 ≤ Y 0 ∧ Y 0 ≤ 5) (hh : 2 ≤ Y 1 ∧ Y 1 ≤ 5) (l : ∀ x y : Int, 0 ≤ x → x < Y 0 → 0 ≤ y → y < Y 1 → lyX m (Y 0) (Y 1) x y) : planL m Y := fun f h0 h1 => by
  have d := yd_div hw hh ⟨h0, h1⟩
  have L := l (f % Y 0) (f / Y 0) d.1.1 d.1.2 d.2.1.1 d.2.1.2
  unfold lyX at L
  rw [d.2.2] at L
  refine ⟨L.1, L.2.1, fun k k0 k1 => ?_⟩
  rw [L.2.2 k k0 k1]
  have sx := sx_xy (f := f) (w := Y 0) ⟨k0, k1⟩
  unfold nxX nxN fbyI
  rw [sx.1, sx.2]
  by_cases q : 0 ≤ tXI (Y 0) f k ∧ tXI (Y 0) f k < Y 0 ∧ 0 ≤ tYI (Y 0) f k ∧ tYI (Y 0) f k < Y 1
  · rw [if_pos q, if_pos ⟨q.1, by omega, q.2.2.1, by omega⟩]
  · rw [if_neg q, if_neg (fun w => q ⟨w.1, by omega, w.2.2.1, by omega⟩)]
section R0T
variable {w : Int} {np n : Nat} {PF PG PH CX CY FA PF2 PG2 PH2 CX2 CY2 FA2 : Nat → Int}
theorem r0_m {j : Nat} (h : j < 25) : r0 w np PF PG PH CX CY FA n j = mkB w PF PG PH np j := by unfold r0; rw [if_pos h]
theorem r0_a {k : Int} (h0 : 0 ≤ k) (h1 : k < 18) (h2 : k < 6 * (n : Int)) : r0 w np PF PG PH CX CY FA n (Int.toNat (25 + k)) = FA (Int.toNat k) := by
  unfold r0
  rw [if_neg (by omega), if_pos (by omega), if_pos (by omega), show Int.toNat (25 + k) - 25 = Int.toNat k by omega]
theorem r0_f {c : Int} (h0 : 0 ≤ c) (h1 : c < 3) (h2 : c < (n : Int)) : r0 w np PF PG PH CX CY FA n (Int.toNat (43 + c)) = w * CY (Int.toNat c) + CX (Int.toNat c) := by
  unfold r0
  rw [if_neg (by omega), if_neg (by omega), if_pos (by omega), if_pos (by omega), show Int.toNat (43 + c) - 43 = Int.toNat c by omega]
theorem r0_t {j : Nat} (h : 46 ≤ j) : r0 w np PF PG PH CX CY FA n j = 0 := by
  unfold r0
  rw [if_neg (by omega), if_neg (by omega), if_neg (by omega)]
theorem r0_z {j : Nat} (h0 : 25 + 6 * n ≤ j) (h1 : j < 43) : r0 w np PF PG PH CX CY FA n j = 0 := by
  unfold r0
  rw [if_neg (by omega), if_pos h1, if_neg (by omega)]
theorem r0_cg (a : ∀ k : Nat, k < np → PF k = PF2 k ∧ PG k = PG2 k ∧ PH k = PH2 k) (b : ∀ k : Nat, k < n → CX k = CX2 k ∧ CY k = CY2 k) (c : ∀ k : Nat, k < 6 * n → FA k = FA2 k) (j : Nat) : r0 w np PF PG PH CX CY FA n j = r0 w np PF2 PG2 PH2 CX2 CY2 FA2 n j := by
  unfold r0
  by_cases q1 : j < 25
  · rw [if_pos q1, if_pos q1]
    exact mkB_cg a
  · rw [if_neg q1, if_neg q1]
    by_cases q2 : j < 43
    · rw [if_pos q2, if_pos q2]
      by_cases q3 : j < 25 + 6 * n
      · rw [if_pos q3, if_pos q3]
        exact c _ (by omega)
      · rw [if_neg q3, if_neg q3]
    · rw [if_neg q2, if_neg q2]
      by_cases q3 : j < 46
      · rw [if_pos q3, if_pos q3]
        by_cases q4 : j < 43 + n
        · rw [if_pos q4, if_pos q4, (b (j - 43) (by omega)).1, (b (j - 43) (by omega)).2]
        · rw [if_neg q4, if_neg q4]
      · rw [if_neg q3, if_neg q3]
theorem mkB_z {j : Nat} : ∀ {k : Nat}, (∀ q : Nat, q < k → ¬ j = Int.toNat (w * PG q + PF q)) → mkB w PF PG PH k j = 0
  | 0, _ => rfl
  | k + 1, h => by
    show (if j = Int.toNat (w * PG k + PF k) then PH k else mkB w PF PG PH k j) = 0
    rw [if_neg (h k (by omega)), mkB_z (fun q hq => h q (by omega))]
end R0T
theorem yd_ub {w h x y : Int} (hw : 2 ≤ w ∧ w ≤ 5) (hx : x < w) (hy : y < h) : w * y + x < w * h := by
  have h1 : w = 2 ∨ w = 3 ∨ w = 4 ∨ w = 5 := by omega
  rcases h1 with rfl | rfl | rfl | rfl <;> omega
theorem nb_c {s : Ps} (nb : ¬ bydP s) {c : Nat} (hc : (c : Int) < s 0 10) : s 6 c < s 0 5 ∧ s 7 c < s 0 6 := by
  have q : ¬ offP s (s 6 c) (s 7 c) := fun w => nb (Or.inr (Or.inr ⟨c, hc, Or.inl w⟩))
  unfold offP at q
  omega
theorem nb_p {s : Ps} (nb : ¬ bydP s) {k : Nat} (hk : (k : Int) < s 0 9) : s 3 k < s 0 5 ∧ s 4 k < s 0 6 := by
  have q : ¬ offP s (s 3 k) (s 4 k) := fun w => nb (Or.inr (Or.inl ⟨k, hk, w⟩))
  unfold offP at q
  omega
/-- no two crates on one flag -/
def dsR (Y r : Ro) : Prop := ∀ c d : Int, 0 ≤ c → c < Y 3 → 0 ≤ d → d < Y 3 → fC r c = fC r d → c = d
def zQ (Y r : Ro) : Prop := zR Y r ∧ dsR Y r
theorem nb_d {s : Ps} (nb : ¬ bydP s) {c k : Nat} (hc : (c : Int) < s 0 10) (hk : k < c) : ¬ (s 6 k = s 6 c ∧ s 7 k = s 7 c) := fun w => nb (Or.inr (Or.inr ⟨c, hc, Or.inr (Or.inr ⟨k, by omega, w⟩)⟩))
theorem yd_in {w x y x2 y2 : Int} (hw : 2 ≤ w ∧ w ≤ 5) (hx : 0 ≤ x ∧ x < w) (hx2 : 0 ≤ x2 ∧ x2 < w) (e : w * y + x = w * y2 + x2) : x = x2 ∧ y = y2 := by
  have h1 : w = 2 ∨ w = 3 ∨ w = 4 ∨ w = 5 := by omega
  rcases h1 with rfl | rfl | rfl | rfl <;> omega
theorem ds_bg {s : Ps} (nb : ¬ bydP s) (oY : okY (bgY s)) (nn : ∀ c : Nat, (c : Int) < s 0 10 → 0 ≤ s 6 c ∧ 0 ≤ s 7 c) : dsR (bgY s) (bgR s) := by
  have hw : 2 ≤ s 0 5 ∧ s 0 5 ≤ 5 := oY.1
  have h3 : 0 ≤ s 0 10 ∧ s 0 10 ≤ 3 := oY.2.2
  intro c d c0 c1 d0 d1 q
  have c2 : c < s 0 10 := c1
  have d2 : d < s 0 10 := d1
  have ec : fC (bgR s) c = s 0 5 * s 7 (Int.toNat c) + s 6 (Int.toNat c) := r0_f c0 (by omega) (by omega)
  have ed : fC (bgR s) d = s 0 5 * s 7 (Int.toNat d) + s 6 (Int.toNat d) := r0_f d0 (by omega) (by omega)
  rw [ec, ed] at q
  have e := yd_in hw ⟨(nn _ (by omega)).1, (nb_c nb (by omega)).1⟩ ⟨(nn _ (by omega)).1, (nb_c nb (by omega)).1⟩ q
  rcases Int.lt_trichotomy c d with w | w | w
  · exact absurd e (nb_d nb (c := Int.toNat d) (k := Int.toNat c) (by omega) (by omega))
  · exact w
  · exact absurd ⟨e.1.symm, e.2.symm⟩ (nb_d nb (c := Int.toNat c) (k := Int.toNat d) (by omega) (by omega))
/-- beyond the yard no marks, of crates that are not there none: as a text begins -/
theorem zR_bg {s : Ps} (nb : ¬ bydP s) (oY : okY (bgY s)) : zR (bgY s) (bgR s) := by
  have hw : 2 ≤ s 0 5 ∧ s 0 5 ≤ 5 := oY.1
  have hh : 2 ≤ s 0 6 ∧ s 0 6 ≤ 5 := oY.2.1
  have h3 : 0 ≤ s 0 10 ∧ s 0 10 ≤ 3 := oY.2.2
  refine ⟨fun j h1 h2 => ?_, fun j h1 h2 => ?_⟩
  · have h4 : s 0 5 * s 0 6 ≤ (j : Int) := h1
    have b := wh_b hw hh
    unfold bgR
    rw [r0_m h2]
    refine mkB_z (fun q hq => ?_)
    have p := nb_p nb (k := q) (by omega)
    have u := yd_ub hw p.1 p.2
    omega
  · have h4 : 25 + 6 * s 0 10 ≤ (j : Int) := h1
    exact r0_z (by omega) h2
theorem bgR_t (s : Ps) {j : Nat} (h : 46 ≤ j) : bgR s j = 0 := by
  unfold bgR
  exact r0_t h
theorem bg_C {m4 m42 : Mm} {s : Ps} {E : Lw} (P : pdC m4 s) (L : LSd m4 11 E) (po : ∀ c : Nat, (c : Int) < rd m4 7 3 → 0 ≤ rd m4 9 c) (nb : ¬ bydP s) (f : ∀ i j : Nat, 7 ≤ i → i ≤ 18 → rd m42 i j = rd m4 i j) (st : rd m42 274 4 = rd m4 7 3 ∧ (∀ j : Nat, j < 25 → rd m42 275 j = rd m4 8 j) ∧ (∀ j : Nat, j < 3 → rd m42 276 j = rd m4 9 j) ∧ (∀ j : Nat, j < 18 → rd m42 277 j = rd m4 10 j) ∧ (∀ j : Nat, j < 3 → rd m42 278 j = 0) ∧ rd m42 274 5 = 0 ∧ rd m42 274 6 = 0) (n0 : rd m42 55 0 = 0) (k0 : ∀ c : Nat, c < 3 → rd m42 58 c = 0) (T : Ty m42) : cA m42 (bgA s E) ∧ zQ (bgY s) (bgR s) := by
  obtain ⟨⟨p0, p1, p2, p3⟩, ly, sh, mk, fl, fa, nn⟩ := P
  obtain ⟨s1, s2, s3, s4, s5, s6, s7⟩ := st
  have t0 := ty_7_0 T
  have t1 := ty_7_1 T
  have t3 := ty_7_3 T
  rw [f 7 0 (by decide) (by decide), p0] at t0
  rw [f 7 1 (by decide) (by decide), p1] at t1
  rw [f 7 3 (by decide) (by decide), p3] at t3
  have oY : okY (bgY s) := ⟨t0, t1, t3⟩
  have pl4 : planL m4 (bgY s) := plan_ly t0 t1 ly
  have plc : plC m42 (bgY s) E := plC_fr (m := m4) ⟨⟨p0, p1, sh, p3, p2⟩, pl4, L⟩ (fun i j q => f i j (by omega) (by omega))
  refine ⟨⟨plc, oY, ⟨fun c c0 c1 => ?_, ?_⟩, ⟨n0, Nat.zero_le _⟩, fun q hq => absurd hq (Nat.not_lt_zero q), fun j hj => ⟨k0 j hj, fun z => absurd rfl z⟩⟩, zR_bg nb oY, ds_bg nb oY nn⟩
  · have c2 : c < s 0 10 := c1
    have e : fC (bgR s) c = s 0 5 * s 7 (Int.toNat c) + s 6 (Int.toNat c) := r0_f c0 (by omega) (by omega)
    have o := nb_c nb (c := Int.toNat c) (by omega)
    have a := po (Int.toNat c) (by omega)
    rw [fl (Int.toNat c) (by omega), if_pos (by omega)] at a
    show 0 ≤ fC (bgR s) c ∧ fC (bgR s) c < s 0 5 * s 0 6
    rw [e]
    exact ⟨a, yd_ub t0 o.1 o.2⟩
  · refine ⟨s1.trans p3, fun j hj => ?_, fun c c0 c1 => ?_, fun k k0 k1 => ?_, fun c c0 c1 => ?_, ?_, ?_⟩
    · rw [s2 j hj, mk j hj]
      exact (r0_m hj).symm
    · have c2 : c < s 0 10 := c1
      rw [s3 _ (by omega), fl _ (by omega), if_pos (by omega)]
      exact (r0_f c0 (by omega) (by omega)).symm
    · have k2 : k < 6 * s 0 10 := k1
      rw [s4 _ (by omega), fa _ (by omega) (by omega)]
      exact (r0_a k0 (by omega) (by omega)).symm
    · rw [s5 _ (by omega)]
      exact (r0_t (by omega)).symm
    · rw [s6]
      exact (bgR_t s (by decide : 46 ≤ 49)).symm
    · rw [s7]
      exact (bgR_t s (by decide : 46 ≤ 50)).symm
theorem tbM_fr {m m2 : Mm} (h : tbM m) (f : ∀ i j : Nat, (i = 319 ∨ i = 320) → rd m2 i j = rd m i j) : tbM m2 := fun k k0 k1 => by
  rw [f 320 _ (by omega), f 319 _ (by omega), f 319 _ (by omega)]
  exact h k k0 k1
theorem bg_M {m : Mm} {s : Ps} {E : Lw} (p : pdM m s E ∧ rwM m) (tb : tbM m) (wf : ∀ k : Int, 0 ≤ k → k < 4 → wfE (E k)) (k0 : ∀ j : Nat, j < 3 → rd m 339 j = 0) (h10 : 0 ≤ s 0 10) : mA m (bgA s E) := by
  obtain ⟨⟨⟨⟨d5, d6, d7, d8, d9, d10⟩, h2, h3, h4, h5⟩, q, sh, sd⟩, r1, r2, r3⟩ := p
  refine ⟨⟨⟨d5, d6, ?_, d10, d7⟩, LM_of q wf, tb⟩, fun j hj => ?_, r3, fun q j hq => absurd hq (Nat.not_lt_zero q), fun t ht => ⟨k0 t ht, fun z => absurd rfl z⟩⟩
  · rw [sh, d8]
    unfold shL
    rw [d5]
    exact shB_cg (fun k hk => ⟨(h2 k (by omega)).1, (h2 k (by omega)).2⟩)
  · rw [r2 j hj, r1 j hj, d10]
    unfold r0L
    rw [d5, d9]
    exact r0_cg (fun k hk => h3 k (by omega)) (fun k hk => h4 k (by omega)) (fun k hk => h5 k (by omega)) j
section NIP
variable {s : Int} {i j : Nat}
theorem nP_1 (hi : i = 293 ∨ i = 294 ∨ i = 302 ∨ i = 306) (hj : ¬ (j : Int) = s) : ¬ inP s i j := fun w => by
  rcases w with q | q | q | q | q | q | q | q | q | q <;> omega
theorem nP_7 (hi : i = 307 ∨ i = 308) (hj : ¬ (4 * s ≤ j ∧ (j : Int) < 4 * s + 4)) : ¬ inP s i j := fun w => by
  rcases w with q | q | q | q | q | q | q | q | q | q <;> omega
theorem nP_9 (hi : 309 ≤ i ∧ i ≤ 313) (hj : ¬ (130 * s ≤ j ∧ (j : Int) < 130 * s + 130)) : ¬ inP s i j := fun w => by
  rcases w with q | q | q | q | q | q | q | q | q | q <;> omega
theorem nP_4 (hi : i = 314 ∨ i = 315) (hj : ¬ (420 * s ≤ j ∧ (j : Int) < 420 * s + 420)) : ¬ inP s i j := fun w => by
  rcases w with q | q | q | q | q | q | q | q | q | q <;> omega
end NIP
/-- a refused text leaves all as it was -/
theorem kf_mA {m m2 : Mm} {A : Ab} (h : mA m A) (k : kfM m m2) (l : 0 ≤ rd m 284 18 ∧ rd m 284 18 ≤ 1) : mA m2 A := by
  obtain ⟨kz, kh⟩ := k
  have e18 : rd m2 284 18 = rd m 284 18 := kz 284 18 (Or.inl ⟨rfl, by decide⟩)
  obtain ⟨⟨⟨a, b, c, d, e⟩, L, t⟩, h2, h3, h4, h5⟩ := h
  refine ⟨⟨⟨?_, ?_, ?_, ?_, ?_⟩, fun q q0 q1 => ?_, tbM_fr t (fun i j w => kz i j (by omega))⟩, fun j hj => (kz 322 j (by omega)).trans (h2 j hj), (kz 284 60 (by omega)).trans h3, fun q j hq hj => (kz 324 _ (by omega)).trans (h4 q j hq hj), fun u hu => ?_⟩
  · rw [e18, kh 293 _ (by omega) (nP_1 (by omega) (by omega))]; exact a
  · rw [e18, kh 294 _ (by omega) (nP_1 (by omega) (by omega))]; exact b
  · rw [kz 284 59 (by omega)]; exact c
  · rw [e18, kh 302 _ (by omega) (nP_1 (by omega) (by omega))]; exact d
  · rw [e18, kh 306 _ (by omega) (nP_1 (by omega) (by omega))]; exact e
  · rw [e18, kh 307 _ (by omega) (nP_7 (by omega) (by omega)), kh 308 _ (by omega) (nP_7 (by omega) (by omega))]
    have w := L q q0 q1
    refine ⟨w.1, ?_⟩
    rcases w.2 with u | ⟨u, v⟩
    · exact Or.inl u
    · refine Or.inr ⟨brL_fr (by omega) (Int.le_refl _) (by omega) u (fun i j x => ?_), v⟩
      rcases x with ⟨x1, x2, x3⟩ | ⟨x1, x2, x3⟩
      · exact kh i j (by omega) (nP_9 x1 (by omega))
      · exact kh i j (by omega) (nP_4 x1 (by omega))
  · rw [kz 339 u (by omega)]
    exact ⟨(h5 u hu).1, fun z j hj => (kz 340 _ (by omega)).trans ((h5 u hu).2 z j hj)⟩
