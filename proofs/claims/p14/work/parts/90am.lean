def exB (P : Nat → Prop) (n : Int) : Prop := ∃ k : Nat, (k : Int) < n ∧ P k
theorem ex_0 {P : Nat → Prop} : ¬ exB P 0 := fun ⟨k, h, _⟩ => by omega
theorem ex_m {P : Nat → Prop} {a b : Int} (h : exB P a) (l : a ≤ b) : exB P b := by
  obtain ⟨k, h1, h2⟩ := h
  exact ⟨k, by omega, h2⟩
theorem ex_i {P : Nat → Prop} {n : Int} {k : Nat} (h : (k : Int) < n) (p : P k) : exB P n := ⟨k, h, p⟩
theorem ex_n {P : Nat → Prop} {x y : Int} (h0 : 0 ≤ x) (h : ¬ exB P x) (p : ¬ P (Int.toNat x)) (e : y = x + 1) : ¬ exB P y := fun ⟨k, h1, h2⟩ => by
  by_cases q : (k : Int) < x
  · exact h ⟨k, q, h2⟩
  · exact p (by rw [show Int.toNat x = k by omega]; exact h2)
theorem ex_v {P : Nat → Prop} {n v : Int} (h : (v = 1 ∧ exB P n) ∨ (v = 0 ∧ ¬ exB P n)) (hv : ¬ v = 0) : exB P n := by
  rcases h with q | q
  · exact q.2
  · exact absurd q.1 hv
theorem ex_w {P : Nat → Prop} {n v : Int} (h : (v = 1 ∧ exB P n) ∨ (v = 0 ∧ ¬ exB P n)) (hv : v = 0) : ¬ exB P n := by
  rcases h with q | q
  · omega
  · exact q.2
theorem ex_c {P Q : Nat → Prop} {n : Int} (h : ∀ k : Nat, (k : Int) < n → (P k ↔ Q k)) : exB P n ↔ exB Q n :=
  ⟨fun ⟨k, a, b⟩ => ⟨k, a, (h k a).mp b⟩, fun ⟨k, a, b⟩ => ⟨k, a, (h k a).mpr b⟩⟩
theorem wi2 {x : Int} (h0 : 0 ≤ x) (h1 : x ≤ 100000) : Int.toNat (wr (x * 2)) = 2 * Int.toNat x := by rw [wr_id (by omega) (by omega)]; omega
theorem wi21 {x : Int} (h0 : 0 ≤ x) (h1 : x ≤ 100000) : Int.toNat (wr ((wr (x * 2)) + 1)) = 2 * Int.toNat x + 1 := by rw [wr_id (x := x * 2) (by omega) (by omega), wr_id (by omega) (by omega)]; omega
theorem wi3 {x : Int} (h0 : 0 ≤ x) (h1 : x ≤ 100000) : Int.toNat (wr (x * 3)) = 3 * Int.toNat x := by rw [wr_id (by omega) (by omega)]; omega
theorem wi31 {x : Int} (h0 : 0 ≤ x) (h1 : x ≤ 100000) : Int.toNat (wr ((wr (x * 3)) + 1)) = 3 * Int.toNat x + 1 := by rw [wr_id (x := x * 3) (by omega) (by omega), wr_id (by omega) (by omega)]; omega
/-- the same place as crate c's -/
def prS (m : Mm) (b : Nat) (c : Int) (k : Nat) : Prop := rd m b (2 * k) = rd m 27 (2 * Int.toNat c) ∧ rd m b (2 * k + 1) = rd m 27 (2 * Int.toNat c + 1)
def inY (m : Mm) (x y : Int) : Prop := 0 ≤ x ∧ x ≤ rd m 19 8 - 1 ∧ 0 ≤ y ∧ y ≤ rd m 19 9 - 1
def ofS (m : Mm) (c w : Nat) (k : Nat) : Prop := ¬ inY m (rd m c (w * k)) (rd m c (w * k + 1))
def crS (m : Mm) (k : Nat) : Prop := ofS m 27 2 k ∨ exB (prS m 25 k) (rd m 19 11) ∨ exB (prS m 27 k) k
def bydC (m : Mm) : Prop := exB (ofS m 25 2) (rd m 19 11) ∨ exB (ofS m 26 3) (rd m 19 12) ∨ exB (crS m) (rd m 19 13)
section OFS
variable {m : Mm} {x v z x1 : Int} {w c i j : Nat} {A B : Prop}
theorem of_p (e1 : i = w * Int.toNat x) (e2 : j = w * Int.toNat x + 1) (h : (v = 1 ∧ inY m (rd m c i) (rd m c j)) ∨ (v = 0 ∧ ¬ inY m (rd m c i) (rd m c j))) (hv : v = 0) : ofS m c w (Int.toNat x) := by
  subst e1 e2
  rcases h with q | q
  · omega
  · exact q.2
theorem of_b {y : Int} (h0 : 0 ≤ x) (ey : y = x + 1) (h : x1 = 0 → exB (ofS m c w) x) (e1 : i = w * Int.toNat x) (e2 : j = w * Int.toNat x + 1) (an : (z = 1 ∧ x1 = 1 ∧ v = 1) ∨ (z = 0 ∧ (x1 = 0 ∨ v = 0))) (hv : (v = 1 ∧ inY m (rd m c i) (rd m c j)) ∨ (v = 0 ∧ ¬ inY m (rd m c i) (rd m c j))) (hz : z = 0) : exB (ofS m c w) y := by
  rcases an with q | ⟨-, q | q⟩
  · omega
  · exact ex_m (h q) (by omega)
  · exact ex_i (k := Int.toNat x) (by omega) (of_p e1 e2 hv q)
theorem of_c {y : Int} (h0 : 0 ≤ x) (ey : y = x + 1) (h : x1 = 0 → A ∨ exB (ofS m c w) x) (e1 : i = w * Int.toNat x) (e2 : j = w * Int.toNat x + 1) (an : (z = 1 ∧ x1 = 1 ∧ v = 1) ∨ (z = 0 ∧ (x1 = 0 ∨ v = 0))) (hv : (v = 1 ∧ inY m (rd m c i) (rd m c j)) ∨ (v = 0 ∧ ¬ inY m (rd m c i) (rd m c j))) (hz : z = 0) : A ∨ exB (ofS m c w) y := by
  rcases an with q | ⟨-, q | q⟩
  · omega
  · rcases h q with r | r
    · exact Or.inl r
    · exact Or.inr (ex_m r (by omega))
  · exact Or.inr (ex_i (k := Int.toNat x) (by omega) (of_p e1 e2 hv q))
theorem of_d {y z2 sv : Int} (h0 : 0 ≤ x) (ey : y = x + 1) (h : x1 = 0 → A ∨ B ∨ exB (crS m) x) (e1 : i = 2 * Int.toNat x) (e2 : j = 2 * Int.toNat x + 1) (an : (z = 1 ∧ x1 = 1 ∧ v = 1) ∨ (z = 0 ∧ (x1 = 0 ∨ v = 0))) (hv : (v = 1 ∧ inY m (rd m 27 i) (rd m 27 j)) ∨ (v = 0 ∧ ¬ inY m (rd m 27 i) (rd m 27 j))) (an2 : (z2 = 1 ∧ z = 1 ∧ sv = 1) ∨ (z2 = 0 ∧ (z = 0 ∨ sv = 0))) (hs : (sv = 0 ∧ (exB (prS m 25 x) (rd m 19 11) ∨ exB (prS m 27 x) x)) ∨ (sv = 1 ∧ ¬ (exB (prS m 25 x) (rd m 19 11) ∨ exB (prS m 27 x) x))) (hz : z2 = 0) : A ∨ B ∨ exB (crS m) y := by
  have ex : ((Int.toNat x : Nat) : Int) = x := by omega
  rcases an2 with q | ⟨-, q | q⟩
  · omega
  · rcases an with r | ⟨-, r | r⟩
    · omega
    · rcases h r with t | t | t
      · exact Or.inl t
      · exact Or.inr (Or.inl t)
      · exact Or.inr (Or.inr (ex_m t (by omega)))
    · exact Or.inr (Or.inr (ex_i (k := Int.toNat x) (by omega) (Or.inl (of_p e1 e2 hv r))))
  · refine Or.inr (Or.inr (ex_i (k := Int.toNat x) (by omega) (Or.inr ?_)))
    rw [ex]
    rcases hs with r | r
    · exact r.2
    · omega
theorem of_e {y z2 sv : Int} (h0 : 0 ≤ x) (ey : y = x + 1) (h : x1 = 1 → ∀ k : Nat, (k : Int) < x → ¬ exB (prS m 25 k) (rd m 19 11) ∧ ¬ exB (prS m 27 k) k) (an : (z = 1 ∧ x1 = 1 ∧ v = 1) ∨ (z = 0 ∧ (x1 = 0 ∨ v = 0))) (an2 : (z2 = 1 ∧ z = 1 ∧ sv = 1) ∨ (z2 = 0 ∧ (z = 0 ∨ sv = 0))) (hs : (sv = 0 ∧ (exB (prS m 25 x) (rd m 19 11) ∨ exB (prS m 27 x) x)) ∨ (sv = 1 ∧ ¬ (exB (prS m 25 x) (rd m 19 11) ∨ exB (prS m 27 x) x))) (hz : z2 = 1) : ∀ k : Nat, (k : Int) < y → ¬ exB (prS m 25 k) (rd m 19 11) ∧ ¬ exB (prS m 27 k) k := by
  intro k hk
  have s1 : sv = 1 ∧ x1 = 1 := by omega
  by_cases q : (k : Int) < x
  · exact h s1.2 k q
  · have ex : (k : Int) = x := by omega
    rcases hs with r | r
    · omega
    · rw [ex]
      exact ⟨fun w => r.2 (Or.inl w), fun w => r.2 (Or.inr w)⟩
theorem of_f (h1 : ∀ k : Nat, (k : Int) < rd m 19 11 → inY m (rd m 25 (2 * k)) (rd m 25 (2 * k + 1))) (h2 : ∀ k : Nat, (k : Int) < rd m 19 12 → inY m (rd m 26 (3 * k)) (rd m 26 (3 * k + 1))) (h3 : ∀ k : Nat, (k : Int) < rd m 19 13 → inY m (rd m 27 (2 * k)) (rd m 27 (2 * k + 1))) (h4 : ∀ k : Nat, (k : Int) < rd m 19 13 → ¬ exB (prS m 25 k) (rd m 19 11) ∧ ¬ exB (prS m 27 k) k) : ¬ bydC m := by
  rintro (⟨k, a, b⟩ | ⟨k, a, b⟩ | ⟨k, a, b | b | b⟩)
  · exact b (h1 k a)
  · exact b (h2 k a)
  · exact b (h3 k a)
  · exact (h4 k a).1 b
  · exact (h4 k a).2 b
end OFS
/-- what does not fit, by the function -/
def offP (s : Ps) (x y : Int) : Prop := s 0 5 ≤ x ∨ s 0 6 ≤ y
def bydP (s : Ps) : Prop := exB (fun k => offP s (s 1 k) (s 2 k)) (s 0 8) ∨ exB (fun k => offP s (s 3 k) (s 4 k)) (s 0 9) ∨ exB (fun c => offP s (s 6 c) (s 7 c) ∨ exB (fun k => s 1 k = s 6 c ∧ s 2 k = s 7 c) (s 0 8) ∨ exB (fun k => s 6 k = s 6 c ∧ s 7 k = s 7 c) c) (s 0 10)
theorem of_in {s : Ps} {m : Mm} {x y : Int} (e5 : rd m 19 8 = s 0 5) (e6 : rd m 19 9 = s 0 6) (hx : 0 ≤ x) (hy : 0 ≤ y) : ¬ inY m x y ↔ offP s x y := by
  unfold inY offP
  omega
theorem byd_c {s : Ps} {m : Mm} (T : Ty m) (d : dC s m) : bydC m ↔ bydP s := by
  obtain ⟨⟨e5, e6, -, e8, e9, e10⟩, h2, h3, h4, -⟩ := d
  unfold bydC bydP
  rw [e8, e9, e10]
  refine or_congr (ex_c fun k hk => ?_) (or_congr (ex_c fun k hk => ?_) (ex_c fun c hc => ?_))
  · have q := h2 k hk
    rw [← q.1, ← q.2]
    exact of_in e5 e6 (ty_25 T _).1 (ty_25 T _).1
  · have q := h3 k hk
    rw [← q.1, ← q.2.1]
    exact of_in e5 e6 (ty_26 T _).1 (ty_26 T _).1
  · have q := h4 c hc
    rw [← q.1, ← q.2.1]
    unfold crS
    rw [e8]
    refine or_congr (of_in e5 e6 (ty_27 T _).1 (ty_27 T _).1) (or_congr (ex_c fun k hk => ?_) (ex_c fun k hk => ?_))
    · have r := h2 k hk
      rw [← r.1, ← r.2]
      exact Iff.rfl
    · have r := h4 k (by omega)
      rw [← r.1, ← r.2.1]
      exact Iff.rfl
/-- a text's beginning -/
def ps_0 : Ps := fun a b => if a = 0 ∧ (b = 5 ∨ b = 6) then 4 else 0
theorem rc_0 {m : Mm} (y5 : rd m 19 5 = 0) (y0 : rd m 19 0 = -1) (y4 : rd m 19 4 = 0) (y6 : rd m 19 6 = 0) (y8 : rd m 19 8 = 4) (y9 : rd m 19 9 = 4) (y10 : rd m 19 10 = 0) (y11 : rd m 19 11 = 0) (y12 : rd m 19 12 = 0) (y13 : rd m 19 13 = 0) : RC ps_0 m := by
  have n0 : ∀ j : Nat, ¬ (j : Int) < 0 := fun j h => by omega
  exact ⟨⟨y5, fun w => absurd rfl w, fun _ => ⟨y4, y6, fun w => absurd rfl w⟩⟩, fun _ => ⟨y0, ⟨y8, y9, y10, y11, y12, y13⟩, fun j h => absurd h (n0 j), fun j h => absurd h (n0 j), fun j h => absurd h (n0 j), fun j h => absurd (show (j : Int) < 6 * 0 from h) (by omega)⟩⟩
theorem tks_fr {b b2 w w2 : Nat → Int} {n n2 : Int} {m m2 : Mm} (h : tksC b n w m) (hb : ∀ j, b j = b2 j) (hn : n = n2) (hw : ∀ j, w j = w2 j) (e2 : ∀ j, rd m2 2 j = rd m 2 j) (e3 : ∀ j, rd m2 3 j = rd m 3 j) (e4 : ∀ j, ld m2 4 j = ld m 4 j) : tksC b2 n2 w2 m2 := by
  have eb : b = b2 := funext hb
  have ew : w = w2 := funext hw
  subst eb ew hn
  obtain ⟨N, E, h1, h2, h3⟩ := h
  refine ⟨N, E, h1, ⟨h2.1, fun j hj => ?_⟩, fun hN => ?_⟩
  · rw [e2, e3, e4]; exact h2.2 j hj
  · rw [e2, e3]; exact h3 hN
theorem tk_toP {m m2 : Mm} {x : Int} (h : tkOk m) (hx : 0 ≤ x ∧ x ≤ 400) (hp : 0 ≤ rd m 1 6) (t : toP m m2 x) : tkOk m2 := by
  intro i hi hk
  by_cases e : (i : Int) = x
  · have ei : i = Int.toNat x := by omega
    subst ei
    rcases t.2 with ⟨-, -, ⟨-, q⟩ | ⟨-, -, ⟨q1, q2, -⟩ | ⟨q, -⟩⟩⟩ | ⟨-, -, q, ⟨-, r⟩ | ⟨r1, r2, r3⟩⟩ | ⟨-, -, -, ⟨q1, q2⟩ | ⟨-, q⟩⟩
    · omega
    · omega
    · omega
    · omega
    · rw [r2]
      exact dv_4 (by omega) (fun k hk2 => q.2.1 _ (by omega) (by have := q.1; omega))
    · rw [← q2, hk] at q1
      exact absurd q1 (by unfold Sg; decide)
    · omega
  · rw [t.1.1 2 i (by omega) (by omega)] at hk
    rw [t.1.2 4 i (by omega)]
    exact h i hi hk
-- TippedCrates$Reader.isPairIn([III)Z
set_option maxRecDepth 20000 in
theorem cx_53 {m : Mm} {b n : Nat} {x2 : Int} {x3 : Int}  (T_m : Ty m) (h_b : isR n b) (r_x2 : rg x2) (r_x3 : rg x3) (p0 : x2 * 2 ≤ n) (p1 : 0 ≤ x3 ∧ x3 ≤ 2) : CK 1 53 [.ref 19, .ref b, iv x2, iv x3] m (fun m2 v => m2 = m ∧ ((v = 0 ∨ v = 1) ∧ ((v = 1 ∧ exB (prS m b x3) x2) ∨ (v = 0 ∧ ¬ exB (prS m b x3) x2)))) := by
  refine br_53 h_b r_x2 r_x3 ?_
  unfold P_53
  have hn := h_b.2.1
  refine ⟨fun x4_3 => (0 ≤ x4_3 ∧ x4_3 ≤ 100000) ∧ (¬ exB (prS m b x3) x4_3), fun x4_3 => Int.toNat (100000 - x4_3), ?_, ?_⟩
  · (exact ⟨by first | omega | (refine ⟨?_, ?_⟩ <;> omega) | trivial, by exact ex_0⟩)
  · intro x4_3 r_x4_3 hI_3
    obtain ⟨hI_3, cI_3⟩ := hI_3
    refine ⟨fun hq => ?_, fun hq => ?_⟩
    · skip
      exact ⟨rfl, by exact ⟨by first | trivial | omega | (refine ⟨?_, ?_⟩ <;> omega), by first | exact Or.inr ⟨rfl, fun w => cI_3 (ex_m w (by omega))⟩ | exact Or.inl ⟨rfl, ex_i (k := Int.toNat x4_3) (by omega) ⟨by rw [← wi2 (by omega) (by omega), ← wi2 (by omega) (by omega)]; assumption, by rw [← wi21 (by omega) (by omega), ← wi21 (by omega) (by omega)]; assumption⟩⟩⟩⟩
    · skip
      try have w1 : wr (x4_3 * 2) = x4_3 * 2 := wr_id (by omega) (by omega)
      refine ⟨⟨by omega, by omega⟩, ?_⟩
      try have w2 : wr (x3 * 2) = x3 * 2 := wr_id (by omega) (by omega)
      refine ⟨⟨by omega, by omega⟩, ?_⟩
      have t4 := ty_27 T_m (Int.toNat (wr (x3 * 2)))
      refine ⟨¬ prS m b x3 (Int.toNat x4_3), ?_, ?_⟩
      · skip
        refine ⟨fun hq => ?_, fun hq => ?_⟩
        · skip
          (first | exact fun w => hq (by rw [wi2 (by omega) (by omega), wi2 (by omega) (by omega)]; exact w.1) | exact fun w => hq (by rw [wi21 (by omega) (by omega), wi21 (by omega) (by omega)]; exact w.2))
        · skip
          try have w5 : wr ((wr (x4_3 * 2)) + 1) = (wr (x4_3 * 2)) + 1 := wr_id (by omega) (by omega)
          refine ⟨⟨by omega, by omega⟩, ?_⟩
          try have w6 : wr ((wr (x3 * 2)) + 1) = (wr (x3 * 2)) + 1 := wr_id (by omega) (by omega)
          refine ⟨⟨by omega, by omega⟩, ?_⟩
          have t8 := ty_27 T_m (Int.toNat (wr ((wr (x3 * 2)) + 1)))
          refine ⟨fun hq => ?_, fun hq => ?_⟩
          · skip
            (first | exact fun w => hq (by rw [wi2 (by omega) (by omega), wi2 (by omega) (by omega)]; exact w.1) | exact fun w => hq (by rw [wi21 (by omega) (by omega), wi21 (by omega) (by omega)]; exact w.2))
          · skip
            exact ⟨rfl, by exact ⟨by first | trivial | omega | (refine ⟨?_, ?_⟩ <;> omega), by first | exact Or.inr ⟨rfl, fun w => cI_3 (ex_m w (by omega))⟩ | exact Or.inl ⟨rfl, ex_i (k := Int.toNat x4_3) (by omega) ⟨by rw [← wi2 (by omega) (by omega), ← wi2 (by omega) (by omega)]; assumption, by rw [← wi21 (by omega) (by omega), ← wi21 (by omega) (by omega)]; assumption⟩⟩⟩⟩
      · intro   hR_49
        try have w9 : wr (x4_3 + 1) = x4_3 + 1 := wr_id (by omega) (by omega)
        intro z4_49 e_z4_49
        have r_z4_49 : rg z4_49 := by rw [e_z4_49]; exact wr_rg _
        exact ⟨by exact ⟨by first | omega | (refine ⟨?_, ?_⟩ <;> omega) | trivial, by exact ex_n (by omega) cI_3 hR_49 (by omega)⟩, by (try dsimp only); omega⟩
-- TippedCrates$Reader.fitsYard()Z
set_option maxRecDepth 20000 in
theorem cx_51 {m : Mm}   (T_m : Ty m)   : CK 3 51 [.ref 19] m (fun m2 v => m2 = m ∧ (((v = 0 ∨ v = 1) ∧ (v = 1 → (∀ k : Nat, (k : Int) < rd m 19 11 → (0 ≤ rd m 25 (2 * k) ∧ rd m 25 (2 * k) ≤ rd m 19 8 - 1 ∧ 0 ≤ rd m 25 (2 * k + 1) ∧ rd m 25 (2 * k + 1) ≤ rd m 19 9 - 1)) ∧ (∀ k : Nat, (k : Int) < rd m 19 12 → (0 ≤ rd m 26 (3 * k) ∧ rd m 26 (3 * k) ≤ rd m 19 8 - 1 ∧ 0 ≤ rd m 26 (3 * k + 1) ∧ rd m 26 (3 * k + 1) ≤ rd m 19 9 - 1)) ∧ (∀ k : Nat, (k : Int) < rd m 19 13 → (0 ≤ rd m 27 (2 * k) ∧ rd m 27 (2 * k) ≤ rd m 19 8 - 1 ∧ 0 ≤ rd m 27 (2 * k + 1) ∧ rd m 27 (2 * k + 1) ≤ rd m 19 9 - 1)))) ∧ ((v = 0 → bydC m) ∧ (v = 1 → ¬ bydC m)))) := by
  refine br_51  ?_
  unfold P_51
  have u11 := ty_19_11 T_m
  have u12 := ty_19_12 T_m
  have u13 := ty_19_13 T_m
  refine ⟨fun x1_4 x2_4 m_4 => m_4 = m ∧ (((0 ≤ x2_4 ∧ x2_4 ≤ 8) ∧ (x1_4 = 0 ∨ x1_4 = 1) ∧ (x1_4 = 1 → ∀ k : Nat, (k : Int) < x2_4 → (0 ≤ rd m 25 (2 * k) ∧ rd m 25 (2 * k) ≤ rd m 19 8 - 1 ∧ 0 ≤ rd m 25 (2 * k + 1) ∧ rd m 25 (2 * k + 1) ≤ rd m 19 9 - 1))) ∧ (x2_4 ≤ rd m 19 11 ∧ (x1_4 = 0 → exB (ofS m 25 2) x2_4))), fun x1_4 x2_4 m_4 => Int.toNat (8 - x2_4), ?_, ?_⟩
  · exact ⟨rfl, by exact ⟨by exact ⟨by omega, by omega, fun _ k hk => by omega⟩, by exact ⟨by omega, fun h => by omega⟩⟩⟩
  · intro x1_4 x2_4 m_4 r_x1_4 r_x2_4 hI_4
    obtain ⟨e_m_4, hI_4⟩ := hI_4
    replace e_m_4 := e_m_4.symm
    subst e_m_4
    obtain ⟨hI_4, cI_4⟩ := hI_4
    have t1 := ty_19_11 T_m
    refine ⟨fun hq => ?_, fun hq => ?_⟩
    · skip
      refine ⟨fun x1_45 x2_45 m_45 => m_45 = m ∧ (((0 ≤ x2_45 ∧ x2_45 ≤ 10) ∧ (x1_45 = 0 ∨ x1_45 = 1) ∧ (x1_45 = 1 → ∀ k : Nat, (k : Int) < x2_45 → (0 ≤ rd m 26 (3 * k) ∧ rd m 26 (3 * k) ≤ rd m 19 8 - 1 ∧ 0 ≤ rd m 26 (3 * k + 1) ∧ rd m 26 (3 * k + 1) ≤ rd m 19 9 - 1)) ∧ (x1_45 = 1 → x1_4 = 1)) ∧ (x2_45 ≤ rd m 19 12 ∧ (x1_45 = 0 → exB (ofS m 25 2) (rd m 19 11) ∨ exB (ofS m 26 3) x2_45))), fun x1_45 x2_45 m_45 => Int.toNat (10 - x2_45), ?_, ?_⟩
      · exact ⟨rfl, by exact ⟨by exact ⟨by omega, by omega, fun _ k hk => by omega, fun h => h⟩, by exact ⟨by omega, fun h => Or.inl (ex_m (cI_4.2 h) (by omega))⟩⟩⟩
      · intro x1_45 x2_45 m_45 r_x1_45 r_x2_45 hI_45
        obtain ⟨e_m_45, hI_45⟩ := hI_45
        replace e_m_45 := e_m_45.symm
        subst e_m_45
        obtain ⟨hI_45, cI_45⟩ := hI_45
        have t2 := ty_19_12 T_m
        refine ⟨fun hq => ?_, fun hq => ?_⟩
        · skip
          refine ⟨fun x1_86 x2_86 m_86 => m_86 = m ∧ (((0 ≤ x2_86 ∧ x2_86 ≤ 3) ∧ (x1_86 = 0 ∨ x1_86 = 1) ∧ (x1_86 = 1 → ∀ k : Nat, (k : Int) < x2_86 → (0 ≤ rd m 27 (2 * k) ∧ rd m 27 (2 * k) ≤ rd m 19 8 - 1 ∧ 0 ≤ rd m 27 (2 * k + 1) ∧ rd m 27 (2 * k + 1) ≤ rd m 19 9 - 1)) ∧ (x1_86 = 1 → x1_45 = 1)) ∧ (x2_86 ≤ rd m 19 13 ∧ (x1_86 = 0 → exB (ofS m 25 2) (rd m 19 11) ∨ exB (ofS m 26 3) (rd m 19 12) ∨ exB (crS m) x2_86) ∧ (x1_86 = 1 → ∀ k : Nat, (k : Int) < x2_86 → ¬ exB (prS m 25 k) (rd m 19 11) ∧ ¬ exB (prS m 27 k) k))), fun x1_86 x2_86 m_86 => Int.toNat (3 - x2_86), ?_, ?_⟩
          · exact ⟨rfl, by exact ⟨by exact ⟨by omega, by omega, fun _ k hk => by omega, fun h => h⟩, by exact ⟨by omega, fun h => by rcases cI_45.2 h with q | q; exact Or.inl q; exact Or.inr (Or.inl (ex_m q (by omega))), fun _ k hk => by omega⟩⟩⟩
          · intro x1_86 x2_86 m_86 r_x1_86 r_x2_86 hI_86
            obtain ⟨e_m_86, hI_86⟩ := hI_86
            replace e_m_86 := e_m_86.symm
            subst e_m_86
            obtain ⟨hI_86, cI_86⟩ := hI_86
            have t3 := ty_19_13 T_m
            refine ⟨fun hq => ?_, fun hq => ?_⟩
            · skip
              exact ⟨by omega, ⟨rfl, by exact ⟨by exact ⟨by omega, fun h => ⟨fun k hk => hI_4.2.2 (by omega) k (by omega), fun k hk => hI_45.2.2.1 (by omega) k (by omega), fun k hk => hI_86.2.2.1 h k (by omega)⟩⟩, by exact ⟨fun h => by rcases cI_86.2.1 h with q | q | q; exact Or.inl q; exact Or.inr (Or.inl q); exact Or.inr (Or.inr (ex_m q (by omega))), fun h => of_f (fun k hk => hI_4.2.2 (by omega) k (by omega)) (fun k hk => hI_45.2.2.1 (by omega) k (by omega)) (fun k hk => hI_86.2.2.1 h k (by omega)) (fun k hk => cI_86.2.2 h k (by omega))⟩⟩⟩⟩
            · skip
              try have w4 : wr (x2_86 * 2) = x2_86 * 2 := wr_id (by omega) (by omega)
              refine ⟨⟨by omega, by omega⟩, ?_⟩
              try have w5 : wr ((wr (x2_86 * 2)) + 1) = (wr (x2_86 * 2)) + 1 := wr_id (by omega) (by omega)
              refine ⟨⟨by omega, by omega⟩, ?_⟩
              have t6 := ty_27 T_m (Int.toNat (wr (x2_86 * 2)))
              have t7 := ty_27 T_m (Int.toNat (wr ((wr (x2_86 * 2)) + 1)))
              refine CK.mono (ct_52   T_m (rd_rg _ _ _) (rd_rg _ _ _)) (by decide) ?_
              rintro m114 v114 r_v114 ⟨e_m114, h_m114⟩
              replace e_m114 := e_m114.symm
              subst e_m114
              intro z1_118 e_z1_118
              have r_z1_118 : rg z1_118 := by rw [e_z1_118]; exact (io_rg _ _ _)
              have an1 := an01 (x := x1_86) (y := v114) (by omega) (by omega)
              rw [← e_z1_118] at an1
              refine CK.mono (cx_53   T_m ir_25 (rd_rg _ _ _) r_x2_86 (by omega) (by omega)) (by decide) ?_
              rintro m130 v130 r_v130 ⟨e_m130, h_m130⟩
              replace e_m130 := e_m130.symm
              subst e_m130
              refine ⟨fun s1_154 m_154 => m_154 = m ∧ ((s1_154 = 0 ∨ s1_154 = 1) ∧ ((s1_154 = 0 ∧ (exB (prS m 25 x2_86) (rd m 19 11) ∨ exB (prS m 27 x2_86) x2_86)) ∨ (s1_154 = 1 ∧ ¬ (exB (prS m 25 x2_86) (rd m 19 11) ∨ exB (prS m 27 x2_86) x2_86)))), ?_, ?_⟩
              · skip
                refine ⟨fun m_153 => m_153 = m ∧ ((exB (prS m 25 x2_86) (rd m 19 11) ∨ exB (prS m 27 x2_86) x2_86)), ?_, ?_⟩
                · skip
                  refine ⟨fun hq => ?_, fun hq => ?_⟩
                  · skip
                    exact ⟨rfl, by first | exact Or.inl (ex_v h_m130.2 (by omega)) | exact Or.inr (ex_v h_m143.2 (by omega))⟩
                  · skip
                    refine CK.mono (cx_53   T_m ir_27 r_x2_86 r_x2_86 (by omega) (by omega)) (by decide) ?_
                    rintro m143 v143 r_v143 ⟨e_m143, h_m143⟩
                    replace e_m143 := e_m143.symm
                    subst e_m143
                    refine ⟨fun hq => ?_, fun hq => ?_⟩
                    · skip
                      exact ⟨rfl, by first | exact Or.inl (ex_v h_m130.2 (by omega)) | exact Or.inr (ex_v h_m143.2 (by omega))⟩
                    · skip
                      exact ⟨rfl, by first | exact ⟨Or.inl rfl, Or.inl ⟨rfl, hR_153⟩⟩ | exact ⟨Or.inr rfl, Or.inr ⟨rfl, fun w => w.elim (ex_w h_m130.2 (by omega)) (ex_w h_m143.2 (by omega))⟩⟩⟩
                · intro m_153  hR_153
                  obtain ⟨e_m_153, hR_153⟩ := hR_153
                  replace e_m_153 := e_m_153.symm
                  subst e_m_153
                  exact ⟨rfl, by first | exact ⟨Or.inl rfl, Or.inl ⟨rfl, hR_153⟩⟩ | exact ⟨Or.inr rfl, Or.inr ⟨rfl, fun w => w.elim (ex_w h_m130.2 (by omega)) (ex_w h_m143.2 (by omega))⟩⟩⟩
              · intro s1_154 m_154 r_s1_154 hR_154
                obtain ⟨e_m_154, hR_154⟩ := hR_154
                replace e_m_154 := e_m_154.symm
                subst e_m_154
                have cR_154 := hR_154.2
                replace hR_154 := hR_154.1
                intro z1_155 e_z1_155
                have r_z1_155 : rg z1_155 := by rw [e_z1_155]; exact (io_rg _ _ _)
                try have w8 : wr (x2_86 + 1) = x2_86 + 1 := wr_id (by omega) (by omega)
                intro z2_156 e_z2_156
                have r_z2_156 : rg z2_156 := by rw [e_z2_156]; exact wr_rg _
                have an6 := an01 (x := z1_118) (y := s1_154) (by omega) (by omega)
                rw [← e_z1_155] at an6
                have k86 : z1_155 = 1 → ∀ k : Nat, (k : Int) < x2_86 + 1 → (0 ≤ rd m 27 (2 * k) ∧ rd m 27 (2 * k) ≤ rd m 19 8 - 1 ∧ 0 ≤ rd m 27 (2 * k + 1) ∧ rd m 27 (2 * k + 1) ≤ rd m 19 9 - 1) := by
                  intro h1 k hk
                  by_cases e : (k : Int) < x2_86
                  · exact hI_86.2.2.1 (by omega) k e
                  · have e1 : rd m 27 (2 * k) = rd m 27 (Int.toNat (wr (x2_86 * 2))) := congrArg (rd m 27) (by omega)
                    have e2 : rd m 27 (2 * k + 1) = rd m 27 (Int.toNat (wr ((wr (x2_86 * 2)) + 1))) := congrArg (rd m 27) (by omega)
                    rw [e1, e2]
                    omega
                exact ⟨⟨rfl, by exact ⟨by exact ⟨by omega, by omega, fun h k hk => k86 h k (by omega), fun h => hI_86.2.2.2 (by omega)⟩, by exact ⟨by omega, fun h => of_d (x := x2_86) (by omega) (by omega) (fun w => cI_86.2.1 w) (wi2 (by omega) (by omega)) (wi21 (by omega) (by omega)) an1 h_m114 an6 cR_154 h, fun h => of_e (x := x2_86) (by omega) (by omega) (fun w => cI_86.2.2 w) an1 an6 cR_154 h⟩⟩⟩, by (try dsimp only); omega⟩
        · skip
          try have w9 : wr (x2_45 * 3) = x2_45 * 3 := wr_id (by omega) (by omega)
          refine ⟨⟨by omega, by omega⟩, ?_⟩
          try have w10 : wr ((wr (x2_45 * 3)) + 1) = (wr (x2_45 * 3)) + 1 := wr_id (by omega) (by omega)
          refine ⟨⟨by omega, by omega⟩, ?_⟩
          have t11 := ty_26 T_m (Int.toNat (wr (x2_45 * 3)))
          have t12 := ty_26 T_m (Int.toNat (wr ((wr (x2_45 * 3)) + 1)))
          refine CK.mono (ct_52   T_m (rd_rg _ _ _) (rd_rg _ _ _)) (by decide) ?_
          rintro m73 v73 r_v73 ⟨e_m73, h_m73⟩
          replace e_m73 := e_m73.symm
          subst e_m73
          intro z1_77 e_z1_77
          have r_z1_77 : rg z1_77 := by rw [e_z1_77]; exact (io_rg _ _ _)
          try have w13 : wr (x2_45 + 1) = x2_45 + 1 := wr_id (by omega) (by omega)
          intro z2_78 e_z2_78
          have r_z2_78 : rg z2_78 := by rw [e_z2_78]; exact wr_rg _
          have an5 := an01 (x := x1_45) (y := v73) (by omega) (by omega)
          rw [← e_z1_77] at an5
          have k45 : z1_77 = 1 → ∀ k : Nat, (k : Int) < x2_45 + 1 → (0 ≤ rd m 26 (3 * k) ∧ rd m 26 (3 * k) ≤ rd m 19 8 - 1 ∧ 0 ≤ rd m 26 (3 * k + 1) ∧ rd m 26 (3 * k + 1) ≤ rd m 19 9 - 1) := by
            intro h1 k hk
            by_cases e : (k : Int) < x2_45
            · exact hI_45.2.2.1 (by omega) k e
            · have e1 : rd m 26 (3 * k) = rd m 26 (Int.toNat (wr (x2_45 * 3))) := congrArg (rd m 26) (by omega)
              have e2 : rd m 26 (3 * k + 1) = rd m 26 (Int.toNat (wr ((wr (x2_45 * 3)) + 1))) := congrArg (rd m 26) (by omega)
              rw [e1, e2]
              omega
          exact ⟨⟨rfl, by exact ⟨by exact ⟨by omega, by omega, fun h k hk => k45 h k (by omega), fun h => hI_45.2.2.2 (by omega)⟩, by exact ⟨by omega, fun h => of_c (x := x2_45) (by omega) (by omega) (fun w => cI_45.2 w) (wi3 (by omega) (by omega)) (wi31 (by omega) (by omega)) an5 h_m73 h⟩⟩⟩, by (try dsimp only); omega⟩
    · skip
      try have w14 : wr (x2_4 * 2) = x2_4 * 2 := wr_id (by omega) (by omega)
      refine ⟨⟨by omega, by omega⟩, ?_⟩
      try have w15 : wr ((wr (x2_4 * 2)) + 1) = (wr (x2_4 * 2)) + 1 := wr_id (by omega) (by omega)
      refine ⟨⟨by omega, by omega⟩, ?_⟩
      have t16 := ty_25 T_m (Int.toNat (wr (x2_4 * 2)))
      have t17 := ty_25 T_m (Int.toNat (wr ((wr (x2_4 * 2)) + 1)))
      refine CK.mono (ct_52   T_m (rd_rg _ _ _) (rd_rg _ _ _)) (by decide) ?_
      rintro m32 v32 r_v32 ⟨e_m32, h_m32⟩
      replace e_m32 := e_m32.symm
      subst e_m32
      intro z1_36 e_z1_36
      have r_z1_36 : rg z1_36 := by rw [e_z1_36]; exact (io_rg _ _ _)
      try have w18 : wr (x2_4 + 1) = x2_4 + 1 := wr_id (by omega) (by omega)
      intro z2_37 e_z2_37
      have r_z2_37 : rg z2_37 := by rw [e_z2_37]; exact wr_rg _
      have an4 := an01 (x := x1_4) (y := v32) (by omega) (by omega)
      rw [← e_z1_36] at an4
      have k4 : z1_36 = 1 → ∀ k : Nat, (k : Int) < x2_4 + 1 → (0 ≤ rd m 25 (2 * k) ∧ rd m 25 (2 * k) ≤ rd m 19 8 - 1 ∧ 0 ≤ rd m 25 (2 * k + 1) ∧ rd m 25 (2 * k + 1) ≤ rd m 19 9 - 1) := by
        intro h1 k hk
        by_cases e : (k : Int) < x2_4
        · exact hI_4.2.2 (by omega) k e
        · have e1 : rd m 25 (2 * k) = rd m 25 (Int.toNat (wr (x2_4 * 2))) := congrArg (rd m 25) (by omega)
          have e2 : rd m 25 (2 * k + 1) = rd m 25 (Int.toNat (wr ((wr (x2_4 * 2)) + 1))) := congrArg (rd m 25) (by omega)
          rw [e1, e2]
          omega
      exact ⟨⟨rfl, by exact ⟨by exact ⟨by omega, by omega, fun h k hk => k4 h k (by omega)⟩, by exact ⟨by omega, fun h => of_b (x := x2_4) (by omega) (by omega) (fun w => cI_4.2 w) (wi2 (by omega) (by omega)) (wi21 (by omega) (by omega)) an4 h_m32 h⟩⟩⟩, by (try dsimp only); omega⟩
-- TippedCrates$Tape.cutIntoTokens()V
set_option maxRecDepth 20000 in
theorem cy_87 {m0 m : Mm}   (g_m : CX m0 m)  (p0 : tkOk m) : CV 6 87 [.ref 1] m (fun m2 => CX m0 m2 ∧ ((tksC (uB m 5) (rd m 1 0) (ld m 6) m2) ∧ (tkOk m2))) := by
  refine br_87  ?_
  unfold P_87
  have ts := ty_1_0 g_m.1
  intro m2 e_m2
  have g_m2 : CX m0 m2 := by rw [e_m2]; exact CX.wt g_m (tw_1_6 g_m.1 ⟨by omega, by omega⟩) (Eq.refl true)
  refine ⟨fun x1_7 m_7 => CX m0 m_7 ∧ (((0 ≤ x1_7 ∧ x1_7 ≤ 401) ∧ ctFr m m_7 ∧ ∃ E : Nat → Int, tkS (uB m 5) (rd m 1 0) (ld m 6) m_7 x1_7 E ∧ E (Int.toNat x1_7) = rd m_7 1 6 ∧ rd m_7 1 6 ≤ rd m 1 0) ∧ (tkOk m_7)), fun x1_7 m_7 => Int.toNat (401 - x1_7), ?_, ?_⟩
  · exact ⟨g_m2, by exact ⟨by exact ⟨by omega, cfr_0 e_m2, fun _ => 0, tk_nil, by rw [e_m2, rd_wt, if_pos ⟨rfl, rfl⟩]; rfl, by rw [e_m2, rd_wt, if_pos ⟨rfl, rfl⟩]; show (0 : Int) ≤ _; omega⟩, by (rw [e_m2]; exact tk_wt p0 (by omega))⟩⟩
  · intro x1_7 m_7 r_x1_7 hI_7
    obtain ⟨g_m_7, hI_7⟩ := hI_7
    obtain ⟨hI_7, cI_7⟩ := hI_7
    refine ⟨fun hq => ?_, fun hq => ?_⟩
    · skip
      exact ⟨g_m_7, by exact ⟨by first | exact en | (obtain ⟨E, t1, t2, t3⟩ := hI_7.2.2; exact ⟨x1_7, E, by omega, t1, fun h => by omega⟩), by first | exact cI_7 | (rw [e_m81]; exact tkX_wt (tkX_of k62) ⟨by omega, by omega⟩ (by omega) ⟨by omega, by omega⟩)⟩⟩
    · skip
      refine ⟨fun m_14 => CX m0 m_14 ∧ ((skI m_7 m_14) ∧ (tkOk m_14)), fun m_14 => Int.toNat (2000 - rd m_14 1 6), ?_, ?_⟩
      · exact ⟨g_m_7, by exact ⟨by exact sk_0 (by obtain ⟨E, t1, t2, t3⟩ := hI_7.2.2; have := hI_7.2.1.1 1 0 (by omega) (by omega) (by omega); omega), by exact cI_7⟩⟩
      · intro m_14  hI_14
        obtain ⟨g_m_14, hI_14⟩ := hI_14
        obtain ⟨hI_14, cI_14⟩ := hI_14
        have ts14 := ty_1_0 g_m_14.1
        have tn14 := ty_1_6 g_m_14.1
        have b14 := uB_v (ty_5 g_m_14.1 (Int.toNat (rd m_14 1 6)))
        have sk1 := hI_14.1
        have s14 : rd m_14 1 0 = rd m_7 1 0 := hI_14.2.1 1 0 (by omega)
        have t1 := ty_1_0 g_m_14.1
        have t2 := ty_1_6 g_m_14.1
        refine ⟨fun m_53 => CX m0 m_53 ∧ ((m_53 = m_14 ∧ (rd m_14 1 6 < rd m_14 1 0 → ¬ Bl (uB m_14 5 (Int.toNat (rd m_14 1 6))))) ∧ (tkOk m_53)), ?_, ?_⟩
        · skip
          refine ⟨fun hq => ?_, fun hq => ?_⟩
          · skip
            exact ⟨g_m_14, by exact ⟨by first | exact ⟨rfl, fun h => absurd h (by omega)⟩ | exact ⟨rfl, fun h => by unfold Bl; omega⟩, by exact cI_14⟩⟩
          · skip
            refine ⟨⟨by omega, by omega⟩, ?_⟩
            have t3 := ty_5 g_m_14.1 (Int.toNat (rd m_14 1 6))
            refine CK.mono (ct_93   (rd_rg _ _ _)) (by decide) ?_
            rintro m34 v34 r_v34 ⟨e_m34, h_m34⟩
            replace e_m34 := e_m34.symm
            subst e_m34
            refine ⟨fun hq => ?_, fun hq => ?_⟩
            · skip
              exact ⟨g_m_14, by exact ⟨by first | exact ⟨rfl, fun h => absurd h (by omega)⟩ | exact ⟨rfl, fun h => by unfold Bl; omega⟩, by exact cI_14⟩⟩
            · skip
              try have w4 : wr ((rd m_14 1 6) + 1) = (rd m_14 1 6) + 1 := wr_id (by omega) (by omega)
              intro m47 e_m47
              have g_m47 : CX m0 m47 := by rw [e_m47]; exact CX.wt g_m_14 (tw_1_6 g_m_14.1 ⟨by omega, by omega⟩) (Eq.refl true)
              have sk47 : skI m_7 m47 := sk_s hI_14 (by omega) (by unfold Bl; omega) e_m47
              have n47 : rd m47 1 6 = rd m_14 1 6 + 1 := by rw [e_m47, rd_wt, if_pos ⟨rfl, rfl⟩, wr_i (wr_rg _), wr_id (by omega) (by omega)]
              exact ⟨⟨g_m47, by exact ⟨by exact sk47, by (rw [e_m47]; exact tk_wt cI_14 (by omega))⟩⟩, by (try dsimp only); omega⟩
        · intro m_53  hR_53
          obtain ⟨g_m_53, hR_53⟩ := hR_53
          obtain ⟨hR_53, cR_53⟩ := hR_53
          refine ⟨⟨by omega, by omega⟩, ?_⟩
          have t5 := ty_1_6 g_m_53.1
          intro m62 e_m62
          have g_m62 : CX m0 m62 := by rw [e_m62]; exact CX.wt g_m_53 (tw_3 g_m_53.1 (rd_rg _ _ _)) (Eq.refl true)
          have n62 : rd m62 1 6 = rd m_53 1 6 := by rw [e_m62, rd_wt, if_neg (by omega)]
          have z62 : rd m62 1 0 = rd m_53 1 0 := by rw [e_m62, rd_wt, if_neg (by omega)]
          have f62 : rd m_14 1 0 = rd m_7 1 0 := hI_14.2.1 1 0 (by omega)
          have g62 : rd m_7 1 0 = rd m 1 0 := hI_7.2.1.1 1 0 (by omega) (by omega) (by omega)
          have q53 : m_53 = m_14 := hR_53.1
          have i53 : rd m_53 1 6 = rd m_14 1 6 := by rw [q53]
          have j53 : rd m_53 1 0 = rd m_14 1 0 := by rw [q53]
          have k62 : tkOk m62 := by rw [e_m62]; exact tk_wt cR_53 (by omega)
          have t6 := ty_1_6 g_m62.1
          have t7 := ty_1_0 g_m62.1
          refine ⟨fun hq => ?_, fun hq => ?_⟩
          · skip
            refine CV.mono (cx_88   g_m62 r_x1_7 (by omega) (by omega)) (by decide) ?_
            rintro m85 ⟨g_m85, h_m85⟩
            obtain ⟨E, t1, t2, t3⟩ := hI_7.2.2
            have pu := tk_push (n := rd m 1 0) (by omega) hI_7.2.1 t1 t2 (by omega) hI_14 hR_53 e_m62 (by omega) h_m85
            try have w8 : wr (x1_7 + 1) = x1_7 + 1 := wr_id (by omega) (by omega)
            intro z1_88 e_z1_88
            have r_z1_88 : rg z1_88 := by rw [e_z1_88]; exact wr_rg _
            exact ⟨⟨g_m85, by exact ⟨by exact ⟨by omega, pu.1, _, by rw [e_z1_88, wr_id (by omega) (by omega)]; exact pu.2.1, by rw [e_z1_88, wr_id (by omega) (by omega)]; exact pu.2.2.1, pu.2.2.2⟩, by exact tk_toP k62 (by omega) (ty_1_6 g_m62.1).1 h_m85⟩⟩, by (try dsimp only); omega⟩
          · skip
            refine ⟨⟨by omega, by omega⟩, ?_⟩
            intro m81 e_m81
            have g_m81 : CX m0 m81 := by rw [e_m81]; exact CX.wt g_m62 (tw_2 g_m62.1 (by first | assumption | omega)) (Eq.refl true)
            obtain ⟨E, t1, t2, t3⟩ := hI_7.2.2
            have en := tk_end (n := rd m 1 0) (by omega) hI_7.2.1 t1 t2 (by omega) hI_14 hR_53 e_m62 (by omega) e_m81
            exact ⟨g_m81, by exact ⟨by first | exact en | (obtain ⟨E, t1, t2, t3⟩ := hI_7.2.2; exact ⟨x1_7, E, by omega, t1, fun h => by omega⟩), by first | exact cI_7 | (rw [e_m81]; exact tkX_wt (tkX_of k62) ⟨by omega, by omega⟩ (by omega) ⟨by omega, by omega⟩)⟩⟩
-- TippedCrates$Reader.begin()V
set_option maxRecDepth 20000 in
theorem cx_35 {m0 m : Mm}   (g_m : QX m0 m)  (p0 : tkOk m) : CV 7 35 [.ref 19] m (fun m2 => QX m0 m2 ∧ (((lwOk m2 20 ∧ vOk m2 ∧ tkOk m2) ∧ ∀ i j, (7 ≤ i ∧ i ≤ 18) → rd m2 i j = rd m i j) ∧ (RC ps_0 m2 ∧ tksC (uB m 5) (rd m 1 0) (ld m 6) m2))) := by
  refine br_35  ?_
  unfold P_35
  intro m2 e_m2
  have g_m2 : QX m0 m2 := by rw [e_m2]; exact QX.wt g_m (tw_19_5 g_m.1 (by first | assumption | omega)) (Eq.refl true)
  intro m7 e_m7
  have g_m7 : QX m0 m7 := by rw [e_m7]; exact QX.wt g_m2 (tw_19_0 g_m2.1 (by first | assumption | omega)) (Eq.refl true)
  intro m12 e_m12
  have g_m12 : QX m0 m12 := by rw [e_m12]; exact QX.wt g_m7 (tw_19_6 g_m7.1 (by first | assumption | omega)) (Eq.refl true)
  intro m17 e_m17
  have g_m17 : QX m0 m17 := by rw [e_m17]; exact QX.wt g_m12 (tw_19_7 g_m12.1 (by first | assumption | omega)) (Eq.refl true)
  intro m22 e_m22
  have g_m22 : QX m0 m22 := by rw [e_m22]; exact QX.wt g_m17 (tw_19_8 g_m17.1 ⟨by omega, by omega⟩) (Eq.refl true)
  intro m27 e_m27
  have g_m27 : QX m0 m27 := by rw [e_m27]; exact QX.wt g_m22 (tw_19_9 g_m22.1 ⟨by omega, by omega⟩) (Eq.refl true)
  intro m32 e_m32
  have g_m32 : QX m0 m32 := by rw [e_m32]; exact QX.wt g_m27 (tw_19_10 g_m27.1 (by first | assumption | omega)) (Eq.refl true)
  intro m37 e_m37
  have g_m37 : QX m0 m37 := by rw [e_m37]; exact QX.wt g_m32 (tw_19_11 g_m32.1 ⟨by omega, by omega⟩) (Eq.refl true)
  intro m42 e_m42
  have g_m42 : QX m0 m42 := by rw [e_m42]; exact QX.wt g_m37 (tw_19_12 g_m37.1 ⟨by omega, by omega⟩) (Eq.refl true)
  intro m47 e_m47
  have g_m47 : QX m0 m47 := by rw [e_m47]; exact QX.wt g_m42 (tw_19_13 g_m42.1 ⟨by omega, by omega⟩) (Eq.refl true)
  have z5 : rd m47 19 5 = 0 := by rw [e_m47, rd_wt, if_neg (by omega), e_m42, rd_wt, if_neg (by omega), e_m37, rd_wt, if_neg (by omega), e_m32, rd_wt, if_neg (by omega), e_m27, rd_wt, if_neg (by omega), e_m22, rd_wt, if_neg (by omega), e_m17, rd_wt, if_neg (by omega), e_m12, rd_wt, if_neg (by omega), e_m7, rd_wt, if_neg (by omega), e_m2, rd_wt, if_pos ⟨rfl, rfl⟩]; rfl
  have z6 : rd m47 19 6 = 0 := by rw [e_m47, rd_wt, if_neg (by omega), e_m42, rd_wt, if_neg (by omega), e_m37, rd_wt, if_neg (by omega), e_m32, rd_wt, if_neg (by omega), e_m27, rd_wt, if_neg (by omega), e_m22, rd_wt, if_neg (by omega), e_m17, rd_wt, if_neg (by omega), e_m12, rd_wt, if_pos ⟨rfl, rfl⟩]; rfl
  have z8 : rd m47 19 8 = 4 := by rw [e_m47, rd_wt, if_neg (by omega), e_m42, rd_wt, if_neg (by omega), e_m37, rd_wt, if_neg (by omega), e_m32, rd_wt, if_neg (by omega), e_m27, rd_wt, if_neg (by omega), e_m22, rd_wt, if_pos ⟨rfl, rfl⟩]; rfl
  have z9 : rd m47 19 9 = 4 := by rw [e_m47, rd_wt, if_neg (by omega), e_m42, rd_wt, if_neg (by omega), e_m37, rd_wt, if_neg (by omega), e_m32, rd_wt, if_neg (by omega), e_m27, rd_wt, if_pos ⟨rfl, rfl⟩]; rfl
  have z12 : rd m47 19 12 = 0 := by rw [e_m47, rd_wt, if_neg (by omega), e_m42, rd_wt, if_pos ⟨rfl, rfl⟩]; rfl
  have z13 : rd m47 19 13 = 0 := by rw [e_m47, rd_wt, if_pos ⟨rfl, rfl⟩]; rfl
  have k47 : tkOk m47 := by rw [e_m47, e_m42, e_m37, e_m32, e_m27, e_m22, e_m17, e_m12, e_m7, e_m2]; exact tk_wt (tk_wt (tk_wt (tk_wt (tk_wt (tk_wt (tk_wt (tk_wt (tk_wt (tk_wt p0 (by omega)) (by omega)) (by omega)) (by omega)) (by omega)) (by omega)) (by omega)) (by omega)) (by omega)) (by omega)
  have pl47 : ∀ i j, ¬ i = 19 → rd m47 i j = rd m i j := fun i j h => by rw [e_m47, rd_wt, if_neg (by omega), e_m42, rd_wt, if_neg (by omega), e_m37, rd_wt, if_neg (by omega), e_m32, rd_wt, if_neg (by omega), e_m27, rd_wt, if_neg (by omega), e_m22, rd_wt, if_neg (by omega), e_m17, rd_wt, if_neg (by omega), e_m12, rd_wt, if_neg (by omega), e_m7, rd_wt, if_neg (by omega), e_m2, rd_wt, if_neg (by omega)]
  have Z0 : rd m47 19 0 = (-1) := by rw [e_m47, rd_wt, if_neg (by omega), e_m42, rd_wt, if_neg (by omega), e_m37, rd_wt, if_neg (by omega), e_m32, rd_wt, if_neg (by omega), e_m27, rd_wt, if_neg (by omega), e_m22, rd_wt, if_neg (by omega), e_m17, rd_wt, if_neg (by omega), e_m12, rd_wt, if_neg (by omega), e_m7, rd_wt, if_pos ⟨rfl, rfl⟩]; rfl
  have Z10 : rd m47 19 10 = 0 := by rw [e_m47, rd_wt, if_neg (by omega), e_m42, rd_wt, if_neg (by omega), e_m37, rd_wt, if_neg (by omega), e_m32, rd_wt, if_pos ⟨rfl, rfl⟩]; rfl
  have Z11 : rd m47 19 11 = 0 := by rw [e_m47, rd_wt, if_neg (by omega), e_m42, rd_wt, if_neg (by omega), e_m37, rd_wt, if_pos ⟨rfl, rfl⟩]; rfl
  refine CV.mono (ct_13   g_m47.1 lw_20) (by decide) ?_
  rintro m54 ⟨hx_m54, h_m54⟩
  have g_m54 : QX m0 m54 := QX.lw g_m47 hx_m54
  have s54 : ∀ i j, ¬ (20 ≤ i ∧ i ≤ 23) → rd m54 i j = rd m47 i j := sL20 hx_m54
  have k54 : tkOk m54 := fun i hi hk => by rw [hx_m54.2.2]; rw [s54 2 i (by omega)] at hk; exact k47 i hi hk
  refine CV.mono (cy_87   (CX_rfl g_m54.1) k54) (by decide) ?_
  rintro m61 ⟨hc_m61, h_m61⟩
  have g_m61 : QX m0 m61 := QX.cx g_m54 hc_m61
  have tks61 := h_m61.1
  replace h_m61 := h_m61.2
  have s61 : ∀ i j, sCt i j = false → rd m61 i j = rd m54 i j := hc_m61.2.1
  intro m66 e_m66
  have g_m66 : QX m0 m66 := by rw [e_m66]; exact QX.wt g_m61 (tw_19_4 g_m61.1 ⟨by omega, by omega⟩) (Eq.refl true)
  have y5 : rd m66 19 5 = 0 := by rw [e_m66, rd_wt, if_neg (by omega), s61 19 5 rfl, s54 19 5 (by omega)]; exact z5
  have y6 : rd m66 19 6 = 0 := by rw [e_m66, rd_wt, if_neg (by omega), s61 19 6 rfl, s54 19 6 (by omega)]; exact z6
  have y8 : rd m66 19 8 = 4 := by rw [e_m66, rd_wt, if_neg (by omega), s61 19 8 rfl, s54 19 8 (by omega)]; exact z8
  have y9 : rd m66 19 9 = 4 := by rw [e_m66, rd_wt, if_neg (by omega), s61 19 9 rfl, s54 19 9 (by omega)]; exact z9
  have y12 : rd m66 19 12 = 0 := by rw [e_m66, rd_wt, if_neg (by omega), s61 19 12 rfl, s54 19 12 (by omega)]; exact z12
  have y13 : rd m66 19 13 = 0 := by rw [e_m66, rd_wt, if_neg (by omega), s61 19 13 rfl, s54 19 13 (by omega)]; exact z13
  have l66 : lwOk m66 20 := lwOk_fr h_m54 (by rw [e_m66, rd_wt, if_neg (by omega)]; exact s61 20 4 rfl) (fun j => by rw [e_m66, rd_wt, if_neg (by omega)]; exact s61 22 j rfl)
  have k66 : tkOk m66 := by rw [e_m66]; exact tk_wt h_m61 (by omega)
  have v66 : vOk m66 := fun _ _ => ⟨by omega, by omega, fun k hk => by omega, fun k hk => by omega⟩
  have pl66 : ∀ i j, (7 ≤ i ∧ i ≤ 18) → rd m66 i j = rd m i j := fun i j h => by rw [e_m66, rd_wt, if_neg (by omega), s61 i j (sCt_no (by omega)), s54 i j (by omega)]; exact pl47 i j (by omega)
  have Y0 : rd m66 19 0 = -1 := by rw [e_m66, rd_wt, if_neg (by omega), s61 19 0 rfl, s54 19 0 (by omega)]; exact Z0
  have Y10 : rd m66 19 10 = 0 := by rw [e_m66, rd_wt, if_neg (by omega), s61 19 10 rfl, s54 19 10 (by omega)]; exact Z10
  have Y11 : rd m66 19 11 = 0 := by rw [e_m66, rd_wt, if_neg (by omega), s61 19 11 rfl, s54 19 11 (by omega)]; exact Z11
  have Y4 : rd m66 19 4 = 0 := by rw [e_m66, rd_wt, if_pos ⟨rfl, rfl⟩]; rfl
  have tk66 : tksC (uB m 5) (rd m 1 0) (ld m 6) m66 := tks_fr tks61 (fun j => uB_eq (by rw [s54 5 j (by omega), pl47 5 j (by omega)])) (by rw [s54 1 0 (by omega), pl47 1 0 (by omega)]) (fun j => by rw [hx_m54.2.2, e_m47, e_m42, e_m37, e_m32, e_m27, e_m22, e_m17, e_m12, e_m7, e_m2]; rfl) (fun j => by rw [e_m66, rd_wt, if_neg (by omega)]) (fun j => by rw [e_m66, rd_wt, if_neg (by omega)]) (fun j => by rw [e_m66]; rfl)
  exact ⟨g_m66, by exact ⟨by exact ⟨⟨l66, v66, k66⟩, pl66⟩, by exact ⟨rc_0 y5 Y0 Y4 y6 y8 y9 Y10 Y11 y12 y13, tk66⟩⟩⟩
