/-! What class and model are about, told once: the yard, its laws, the row of now, the rows that can be taken back (the oldest first), the rows held -/
def Ab : Type := Ro × Lw × Ro × Nat × (Nat → Ro) × (Nat → Int) × (Nat → Ro)
def mkA (Y : Ro) (E : Lw) (r : Ro) (n : Nat) (H : Nat → Ro) (K : Nat → Int) (S : Nat → Ro) : Ab := (Y, E, r, n, H, K, S)
def Ab.Y (A : Ab) : Ro := A.1
def Ab.E (A : Ab) : Lw := A.2.1
def Ab.r (A : Ab) : Ro := A.2.2.1
def Ab.n (A : Ab) : Nat := A.2.2.2.1
def Ab.H (A : Ab) : Nat → Ro := A.2.2.2.2.1
def Ab.K (A : Ab) : Nat → Int := A.2.2.2.2.2.1
def Ab.S (A : Ab) : Nat → Ro := A.2.2.2.2.2.2
theorem stC_eq {m m2 : Mm} {a b : Nat} {Y r : Ro} (h : stC m b Y r) (e : stEq m2 a m b) (y : Y 3 ≤ 3) : stC m2 a Y r := by
  obtain ⟨h1, h2, h3, h4, h5, h6, h7⟩ := h
  obtain ⟨e1, e2, e3, e4, e5, e6, e7⟩ := e
  exact ⟨e5.trans h1, fun j hj => (e1 j hj).trans (h2 j hj), fun c c0 c1 => (e2 _ (by omega)).trans (h3 c c0 c1), fun k k0 k1 => (e3 _ (by omega)).trans (h4 k k0 k1), fun c c0 c1 => (e4 _ (by omega)).trans (h5 c c0 c1), e6.trans h6, e7.trans h7⟩
theorem stC_f2 {m m2 : Mm} {a : Nat} {Y r : Ro} (h : stC m a Y r) (f : ∀ i j : Nat, (a ≤ i ∧ i ≤ a + 4) → rd m2 i j = rd m i j) : stC m2 a Y r := by
  obtain ⟨h1, h2, h3, h4, h5, h6, h7⟩ := h
  exact ⟨by rw [f _ _ (by omega)]; exact h1, fun j hj => by rw [f _ _ (by omega)]; exact h2 j hj, fun c c0 c1 => by rw [f _ _ (by omega)]; exact h3 c c0 c1, fun k k0 k1 => by rw [f _ _ (by omega)]; exact h4 k k0 k1, fun c c0 c1 => by rw [f _ _ (by omega)]; exact h5 c c0 c1, by rw [f _ _ (by omega)]; exact h6, by rw [f _ _ (by omega)]; exact h7⟩
/-- the place in the ring of the row q, of n that end ahead of p -/
def rgI (p : Int) (n q : Nat) : Nat := Int.toNat ((p - n + q) % 40)
def cA (m : Mm) (A : Ab) : Prop := plC m A.Y A.E ∧ okY A.Y ∧ (okR A.Y A.r ∧ stC m 274 A.Y A.r) ∧ (rd m 55 0 = A.n ∧ A.n ≤ 40) ∧ (∀ q : Nat, q < A.n → okR A.Y (A.H q) ∧ stC m (59 + 5 * rgI (rd m 55 4) A.n q) A.Y (A.H q)) ∧ ∀ j : Nat, j < 3 → rd m 58 j = A.K j ∧ (¬ A.K j = 0 → okR A.Y (A.S j) ∧ stC m (259 + 5 * j) A.Y (A.S j))
def mA (m : Mm) (A : Ab) : Prop := plM m A.Y A.E ∧ (∀ j : Nat, j < 51 → rd m 322 j = A.r j) ∧ rd m 284 60 = A.n ∧ (∀ q j : Nat, q < A.n → j < 51 → rd m 324 (51 * q + j) = A.H q j) ∧ ∀ s : Nat, s < 3 → rd m 339 s = A.K s ∧ (¬ A.K s = 0 → ∀ j : Nat, j < 51 → rd m 340 (51 * s + j) = A.S s j)
def cAr (i : Nat) : Prop := i = 7 ∨ i = 11 ∨ i = 13 ∨ i = 14 ∨ (16 ≤ i ∧ i ≤ 18) ∨ i = 55 ∨ i = 58 ∨ (59 ≤ i ∧ i ≤ 278)
theorem rgI_b {p : Int} {n q : Nat} : rgI p n q ≤ 39 := by unfold rgI; omega
theorem cA_fr {m m2 : Mm} {A : Ab} (h : cA m A) (f : ∀ i j : Nat, cAr i → rd m2 i j = rd m i j) : cA m2 A := by
  obtain ⟨h1, h2, h3, h4, h5, h6⟩ := h
  refine ⟨plC_fr h1 (fun i j q => f i j (by unfold cAr; omega)), h2, ⟨h3.1, stC_f2 h3.2 (fun i j q => f i j (by unfold cAr; omega))⟩, ⟨by rw [f 55 0 (by unfold cAr; omega)]; exact h4.1, h4.2⟩, fun q hq => ?_, fun j hj => ?_⟩
  · have b := rgI_b (p := rd m 55 4) (n := A.n) (q := q)
    rw [f 55 4 (by unfold cAr; omega)]
    exact ⟨(h5 q hq).1, stC_f2 (h5 q hq).2 (fun i j w => f i j (by unfold cAr; omega))⟩
  · rw [f 58 j (by unfold cAr; omega)]
    exact ⟨(h6 j hj).1, fun z => ⟨((h6 j hj).2 z).1, stC_f2 ((h6 j hj).2 z).2 (fun i j w => f i j (by unfold cAr; omega))⟩⟩
theorem mA_fr {m m2 : Mm} {A : Ab} (h : mA m A) (l : 0 ≤ rd m 284 18 ∧ rd m 284 18 ≤ 1) (f : ∀ i j : Nat, (plR i j ∨ i = 322 ∨ i = 324 ∨ i = 339 ∨ i = 340 ∨ (i = 284 ∧ j = 60)) → rd m2 i j = rd m i j) : mA m2 A := by
  obtain ⟨h1, h2, h3, h4, h5⟩ := h
  refine ⟨plM_fr h1 l (fun i j q => f i j (Or.inl q)), fun j hj => by rw [f 322 j (by omega)]; exact h2 j hj, by rw [f 284 60 (by omega)]; exact h3, fun q j hq hj => by rw [f 324 _ (by omega)]; exact h4 q j hq hj, fun s hs => ?_⟩
  rw [f 339 s (by omega)]
  exact ⟨(h5 s hs).1, fun z j hj => by rw [f 340 _ (by omega)]; exact (h5 s hs).2 z j hj⟩
/-- one more row can be taken back: at most 40, the oldest goes -/
def noN (n : Nat) : Nat := if n = 40 then 40 else n + 1
def noH (n : Nat) (H : Nat → Ro) (r : Ro) : Nat → Ro := fun q => if n = 40 then (if q = 39 then r else H (q + 1)) else (if q = n then r else H q)
def noA (A : Ab) (r : Ro) : Ab := mkA A.Y A.E r (noN A.n) (noH A.n A.H A.r) A.K A.S
theorem mA_rec {m m2 : Mm} {A : Ab} {r : Ro} (h : mA m A) (l : 0 ≤ rd m 284 18 ∧ rd m 284 18 ≤ 1) (w : stM m r) (p : recP m m2) (n40 : A.n ≤ 40) : mA m2 (noA A r) := by
  obtain ⟨h1, h2, h3, h4, h5⟩ := h
  obtain ⟨f, a, n, d, e1, e2, e3, e4, b, c⟩ := p
  have en : A.n = n + d := by omega
  refine ⟨plM_fr h1 l (fun i j q => f i j (by unfold plR at q; omega)), fun j hj => (a j hj).trans (w j hj), ?_, fun q j hq hj => ?_, fun s hs => ?_⟩
  · show rd m2 284 60 = (noN A.n : Nat)
    unfold noN
    split <;> omega
  · show rd m2 324 (51 * q + j) = noH A.n A.H A.r q j
    have hq2 : q < noN A.n := hq
    unfold noN at hq2
    unfold noH
    by_cases z : A.n = 40
    · rw [if_pos z] at hq2 ⊢
      by_cases y : q = 39
      · rw [if_pos y, show q = n by omega, c j hj]; exact h2 j hj
      · rw [if_neg y, b q j (by omega) hj, show q + d = q + 1 by omega]; exact h4 (q + 1) j (by omega) hj
    · rw [if_neg z] at hq2 ⊢
      by_cases y : q = A.n
      · rw [if_pos y, show q = n by omega, c j hj]; exact h2 j hj
      · rw [if_neg y, b q j (by omega) hj, show q + d = q by omega]; exact h4 q j (by omega) hj
  · rw [f 339 s (by omega)]
    exact ⟨(h5 s hs).1, fun z j hj => by rw [f 340 _ (by omega)]; exact (h5 s hs).2 z j hj⟩
/-- the newest is taken back -/
def unB (A : Ab) : Ab := mkA A.Y A.E (A.H (A.n - 1)) (A.n - 1) A.H A.K A.S
theorem mA_un {m m2 : Mm} {A : Ab} (h : mA m A) (l : 0 ≤ rd m 284 18 ∧ rd m 284 18 ≤ 1) (z : ¬ rd m 284 60 = 0) (p : unP m m2) : mA m2 (unB A) := by
  obtain ⟨h1, h2, h3, h4, h5⟩ := h
  obtain ⟨a, b, f⟩ := p
  refine ⟨plM_fr h1 l (fun i j q => f i j (by unfold plR at q; omega) (by unfold plR at q; omega)), fun j hj => ?_, ?_, fun q j hq hj => ?_, fun s hs => ?_⟩
  · show rd m2 322 j = A.H (A.n - 1) j
    rw [b j hj, show Int.toNat (rd m 284 60 - 1) = A.n - 1 by omega]
    exact h4 _ j (by omega) hj
  · show rd m2 284 60 = ((A.n - 1 : Nat) : Int)
    omega
  · have hq2 : q < A.n - 1 := hq
    rw [f 324 _ (by omega) (by omega)]
    exact h4 q j (by omega) hj
  · rw [f 339 s (by omega) (by omega)]
    exact ⟨(h5 s hs).1, fun z j hj => by rw [f 340 _ (by omega) (by omega)]; exact (h5 s hs).2 z j hj⟩
/-- the row of now is held in the slot s -/
def hoA (A : Ab) (s : Nat) : Ab := mkA A.Y A.E A.r A.n A.H (fun j => if j = s then 1 else A.K j) (fun j => if j = s then A.r else A.S j)
theorem mA_ho {m m2 : Mm} {A : Ab} {s : Nat} (h : mA m A) (l : 0 ≤ rd m 284 18 ∧ rd m 284 18 ≤ 1) (hs : s < 3) (p : hoP m m2 s) (k1 : rd m2 339 s = 1) : mA m2 (hoA A s) := by
  obtain ⟨h1, h2, h3, h4, h5⟩ := h
  obtain ⟨b, f⟩ := p
  refine ⟨plM_fr h1 l (fun i j q => f i j (by unfold plR at q; omega) (by unfold plR at q; omega)), fun j hj => by rw [f 322 j (by omega) (by omega)]; exact h2 j hj, by rw [f 284 60 (by omega) (by omega)]; exact h3, fun q j hq hj => by rw [f 324 _ (by omega) (by omega)]; exact h4 q j hq hj, fun t ht => ?_⟩
  show rd m2 339 t = (if t = s then 1 else A.K t) ∧ (¬ (if t = s then 1 else A.K t) = 0 → ∀ j : Nat, j < 51 → rd m2 340 (51 * t + j) = (if t = s then A.r else A.S t) j)
  by_cases q : t = s
  · subst q
    rw [if_pos rfl, if_pos rfl]
    exact ⟨k1, fun _ j hj => (b j hj).trans (h2 j hj)⟩
  · rw [if_neg q, if_neg q, f 339 t (by omega) (by omega)]
    exact ⟨(h5 t ht).1, fun z j hj => by rw [f 340 _ (by omega) (by omega)]; exact (h5 t ht).2 z j hj⟩
/-- the row held in the slot s is now; none can be taken back -/
def reA (A : Ab) (s : Nat) : Ab := mkA A.Y A.E (A.S s) 0 A.H A.K A.S
theorem mA_re {m m2 : Mm} {A : Ab} {s : Nat} (h : mA m A) (l : 0 ≤ rd m 284 18 ∧ rd m 284 18 ≤ 1) (hs : s < 3) (z : ¬ rd m 339 s = 0) (p : reP m m2 s) : mA m2 (reA A s) := by
  obtain ⟨h1, h2, h3, h4, h5⟩ := h
  obtain ⟨a, b, f⟩ := p
  have ks := (h5 s hs)
  refine ⟨plM_fr h1 l (fun i j q => f i j (by unfold plR at q; omega) (by unfold plR at q; omega)), fun j hj => (b j hj).trans (ks.2 (by rw [← ks.1]; exact z) j hj), a, fun q j hq hj => absurd hq (Nat.not_lt_zero q), fun t ht => ?_⟩
  rw [f 339 t (by omega) (by omega)]
  exact ⟨(h5 t ht).1, fun z j hj => by rw [f 340 _ (by omega) (by omega)]; exact (h5 t ht).2 z j hj⟩
/-! the same of the class: a ring of 40 States, three slots -/
theorem cA_note {m m2 : Mm} {A : Ab} (h : cA m A) (tp : 0 ≤ rd m 55 4 ∧ rd m 55 4 ≤ 39) (p : stEq m2 (59 + 5 * Int.toNat (rd m 55 4)) m 274 ∧ rd m2 55 4 = (if rd m 55 4 + 1 < 40 then rd m 55 4 + 1 else 0) ∧ rd m2 55 0 = min (rd m 55 0 + 1) 40 ∧ ∀ i j, ¬ i = 55 → ¬ (59 + 5 * Int.toNat (rd m 55 4) ≤ i ∧ i ≤ 63 + 5 * Int.toNat (rd m 55 4)) → rd m2 i j = rd m i j) : cA m2 (noA A A.r) := by
  obtain ⟨h1, h2, h3, ⟨h4, h40⟩, h5, h6⟩ := h
  obtain ⟨e, n4, n0, f⟩ := p
  have y3 := h2.2.2.2
  have F : ∀ i j : Nat, (i < 55 ∨ i = 58 ∨ 259 ≤ i) → rd m2 i j = rd m i j := fun i j q => f i j (by omega) (by omega)
  refine ⟨plC_fr h1 (fun i j q => F i j (by omega)), h2, ⟨h3.1, stC_f2 h3.2 (fun i j q => F i j (by omega))⟩, ?_, fun q hq => ?_, fun j hj => ?_⟩
  · show rd m2 55 0 = (noN A.n : Nat) ∧ noN A.n ≤ 40
    unfold noN
    by_cases z : A.n = 40
    · rw [if_pos z]; omega
    · rw [if_neg z]; omega
  · show okR A.Y (noH A.n A.H A.r q) ∧ stC m2 (59 + 5 * rgI (rd m2 55 4) (noN A.n) q) A.Y (noH A.n A.H A.r q)
    have hq2 : q < noN A.n := hq
    unfold noN at hq2 ⊢
    unfold noH
    have p4 : rd m2 55 4 = (rd m 55 4 + 1) % 40 := by rw [n4]; split <;> omega
    by_cases z : A.n = 40
    · rw [if_pos z] at hq2
      rw [if_pos z, if_pos z]
      by_cases y : q = 39
      · rw [if_pos y, show rgI (rd m2 55 4) 40 q = Int.toNat (rd m 55 4) by unfold rgI; omega]
        exact ⟨h3.1, stC_eq h3.2 e y3⟩
      · rw [if_neg y, show rgI (rd m2 55 4) 40 q = rgI (rd m 55 4) A.n (q + 1) by unfold rgI; omega]
        have b := h5 (q + 1) (by omega)
        have ne : ¬ rgI (rd m 55 4) A.n (q + 1) = Int.toNat (rd m 55 4) := by unfold rgI; omega
        have le := rgI_b (p := rd m 55 4) (n := A.n) (q := q + 1)
        exact ⟨b.1, stC_f2 b.2 (fun i j w => f i j (by omega) (by omega))⟩
    · rw [if_neg z] at hq2
      rw [if_neg z, if_neg z]
      by_cases y : q = A.n
      · rw [if_pos y, show rgI (rd m2 55 4) (A.n + 1) q = Int.toNat (rd m 55 4) by unfold rgI; omega]
        exact ⟨h3.1, stC_eq h3.2 e y3⟩
      · rw [if_neg y, show rgI (rd m2 55 4) (A.n + 1) q = rgI (rd m 55 4) A.n q by unfold rgI; omega]
        have b := h5 q (by omega)
        have ne : ¬ rgI (rd m 55 4) A.n q = Int.toNat (rd m 55 4) := by unfold rgI; omega
        have le := rgI_b (p := rd m 55 4) (n := A.n) (q := q)
        exact ⟨b.1, stC_f2 b.2 (fun i j w => f i j (by omega) (by omega))⟩
  · rw [F 58 j (by omega)]
    exact ⟨(h6 j hj).1, fun z => ⟨((h6 j hj).2 z).1, stC_f2 ((h6 j hj).2 z).2 (fun i j w => F i j (by omega))⟩⟩
/-- the State of now becomes another, the rest stays -/
theorem cA_now {m m2 : Mm} {A : Ab} {r : Ro} (h : cA m A) (ok : okR A.Y r) (s : stC m2 274 A.Y r) (f : ∀ i j : Nat, cAr i → ¬ (274 ≤ i ∧ i ≤ 278) → rd m2 i j = rd m i j) : cA m2 (mkA A.Y A.E r A.n A.H A.K A.S) := by
  obtain ⟨h1, h2, h3, h4, h5, h6⟩ := h
  refine ⟨plC_fr h1 (fun i j q => f i j (by unfold cAr; omega) (by omega)), h2, ⟨ok, s⟩, ⟨by rw [f 55 0 (by unfold cAr; omega) (by omega)]; exact h4.1, h4.2⟩, fun q hq => ?_, fun j hj => ?_⟩
  · have b := rgI_b (p := rd m 55 4) (n := A.n) (q := q)
    show okR A.Y (A.H q) ∧ stC m2 (59 + 5 * rgI (rd m2 55 4) A.n q) A.Y (A.H q)
    rw [f 55 4 (by unfold cAr; omega) (by omega)]
    exact ⟨(h5 q hq).1, stC_f2 (h5 q hq).2 (fun i j w => f i j (by unfold cAr; omega) (by omega))⟩
  · show rd m2 58 j = A.K j ∧ (¬ A.K j = 0 → okR A.Y (A.S j) ∧ stC m2 (259 + 5 * j) A.Y (A.S j))
    rw [f 58 j (by unfold cAr; omega) (by omega)]
    exact ⟨(h6 j hj).1, fun z => ⟨((h6 j hj).2 z).1, stC_f2 ((h6 j hj).2 z).2 (fun i j w => f i j (by unfold cAr; omega) (by omega))⟩⟩
theorem cA_un {m m2 : Mm} {A : Ab} (h : cA m A) (tp : 0 ≤ rd m 55 4 ∧ rd m 55 4 ≤ 39) (n0 : 0 < rd m 55 0) (p : rd m2 55 0 = rd m 55 0 - 1 ∧ rd m2 55 4 = (if 0 < rd m 55 4 then rd m 55 4 - 1 else 39) ∧ stEq m2 274 m (59 + 5 * Int.toNat (if 0 < rd m 55 4 then rd m 55 4 - 1 else 39))) (f : ∀ i j : Nat, cAr i → ¬ i = 55 → ¬ (274 ≤ i ∧ i ≤ 278) → rd m2 i j = rd m i j) : cA m2 (unB A) := by
  obtain ⟨h1, h2, h3, ⟨h4, h40⟩, h5, h6⟩ := h
  obtain ⟨a, b, e⟩ := p
  have y3 := h2.2.2.2
  have p4 : rd m2 55 4 = (rd m 55 4 - 1) % 40 := by rw [b]; split <;> omega
  have last := h5 (A.n - 1) (by omega)
  rw [← b, show Int.toNat (rd m2 55 4) = rgI (rd m 55 4) A.n (A.n - 1) by unfold rgI; omega] at e
  refine ⟨plC_fr h1 (fun i j q => f i j (by unfold cAr; omega) (by omega) (by omega)), h2, ⟨last.1, stC_eq last.2 e y3⟩, ?_, fun q hq => ?_, fun j hj => ?_⟩
  · show rd m2 55 0 = ((A.n - 1 : Nat) : Int) ∧ A.n - 1 ≤ 40
    omega
  · have hq2 : q < A.n - 1 := hq
    show okR A.Y (A.H q) ∧ stC m2 (59 + 5 * rgI (rd m2 55 4) (A.n - 1) q) A.Y (A.H q)
    rw [show rgI (rd m2 55 4) (A.n - 1) q = rgI (rd m 55 4) A.n q by unfold rgI; omega]
    have le := rgI_b (p := rd m 55 4) (n := A.n) (q := q)
    exact ⟨(h5 q (by omega)).1, stC_f2 (h5 q (by omega)).2 (fun i j w => f i j (by unfold cAr; omega) (by omega) (by omega))⟩
  · rw [f 58 j (by unfold cAr; omega) (by omega) (by omega)]
    exact ⟨(h6 j hj).1, fun z => ⟨((h6 j hj).2 z).1, stC_f2 ((h6 j hj).2 z).2 (fun i j w => f i j (by unfold cAr; omega) (by omega) (by omega))⟩⟩
theorem cA_ho {m m2 : Mm} {A : Ab} {s : Nat} (h : cA m A) (hs : s < 3) (p : stEq m2 (259 + 5 * s) m 274 ∧ rd m2 58 s = 1 ∧ (∀ i j, ¬ i = 58 → ¬ (259 + 5 * s ≤ i ∧ i ≤ 263 + 5 * s) → rd m2 i j = rd m i j) ∧ ∀ j : Nat, ¬ j = s → rd m2 58 j = rd m 58 j) : cA m2 (hoA A s) := by
  obtain ⟨h1, h2, h3, h4, h5, h6⟩ := h
  obtain ⟨e, k1, f, g⟩ := p
  have y3 := h2.2.2.2
  refine ⟨plC_fr h1 (fun i j q => f i j (by omega) (by omega)), h2, ⟨h3.1, stC_f2 h3.2 (fun i j q => f i j (by omega) (by omega))⟩, ⟨by rw [f 55 0 (by omega) (by omega)]; exact h4.1, h4.2⟩, fun q hq => ?_, fun j hj => ?_⟩
  · have b := rgI_b (p := rd m 55 4) (n := A.n) (q := q)
    show okR A.Y (A.H q) ∧ stC m2 (59 + 5 * rgI (rd m2 55 4) A.n q) A.Y (A.H q)
    rw [f 55 4 (by omega) (by omega)]
    exact ⟨(h5 q hq).1, stC_f2 (h5 q hq).2 (fun i j w => f i j (by omega) (by omega))⟩
  · show rd m2 58 j = (if j = s then 1 else A.K j) ∧ (¬ (if j = s then 1 else A.K j) = 0 → okR A.Y (if j = s then A.r else A.S j) ∧ stC m2 (259 + 5 * j) A.Y (if j = s then A.r else A.S j))
    by_cases q : j = s
    · subst q
      rw [if_pos rfl, if_pos rfl]
      exact ⟨k1, fun _ => ⟨h3.1, stC_eq h3.2 e y3⟩⟩
    · rw [if_neg q, if_neg q, g j q]
      exact ⟨(h6 j hj).1, fun z => ⟨((h6 j hj).2 z).1, stC_f2 ((h6 j hj).2 z).2 (fun i j w => f i j (by omega) (by omega))⟩⟩
theorem cA_re {m m2 : Mm} {A : Ab} {s : Nat} (h : cA m A) (hs : s < 3) (z : ¬ rd m 58 s = 0) (n0 : rd m2 55 0 = 0) (e : stEq m2 274 m (259 + 5 * s)) (f : ∀ i j : Nat, cAr i → ¬ i = 55 → ¬ (274 ≤ i ∧ i ≤ 278) → rd m2 i j = rd m i j) : cA m2 (reA A s) := by
  obtain ⟨h1, h2, h3, h4, h5, h6⟩ := h
  have y3 := h2.2.2.2
  have k := h6 s hs
  have ks := k.2 (by rw [← k.1]; exact z)
  refine ⟨plC_fr h1 (fun i j q => f i j (by unfold cAr; omega) (by omega) (by omega)), h2, ⟨ks.1, stC_eq ks.2 e y3⟩, ⟨n0, Nat.zero_le _⟩, fun q hq => absurd hq (Nat.not_lt_zero q), fun j hj => ?_⟩
  rw [f 58 j (by unfold cAr; omega) (by omega) (by omega)]
  exact ⟨(h6 j hj).1, fun z => ⟨((h6 j hj).2 z).1, stC_f2 ((h6 j hj).2 z).2 (fun i j w => f i j (by unfold cAr; omega) (by omega) (by omega))⟩⟩
