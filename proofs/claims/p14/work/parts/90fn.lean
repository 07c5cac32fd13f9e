theorem ngI_e {a : Int} (h : 0 ≤ a ∧ a ≤ 9) : ngI a = -a := by
  have k : ∀ n : Nat, n < 10 → ngI (n : Int) = -(n : Int) := by decide
  have e := k (Int.toNat a) (by omega)
  rw [Int.toNat_of_nonneg h.1] at e
  exact e
/-- what the model's best way goes by -/
def bwC (m : Mm) (s : Int) (mv : Int → Int → Int) (u : Int → Int) : Prop := (∀ k : Int, 0 ≤ k → k ≤ 3 → rd m 325 (Int.toNat (4 * s + k)) = mv s k ∧ (mv s k = -1 ∨ 0 ≤ mv s k)) ∧ ∀ k : Int, 0 ≤ k → k ≤ 3 → ¬ mv s k = -1 → rd m 332 (Int.toNat (mv s k)) = u (mv s k) ∧ 0 ≤ u (mv s k) ∧ u (mv s k) ≤ 9
def bwI (mv : Int → Int → Int) (u : Int → Int) (b s w y x : Int) : Prop := (w = -2 ∧ plS mv u b s (Int.toNat x) = -1 ∧ ∀ k : Int, 0 ≤ k → k < x → mv s k = -1) ∨ ((0 ≤ w ∧ w < x) ∧ (¬ mv s w = -1 ∧ u (mv s w) = plS mv u b s (Int.toNat x)) ∧ (y = if b = 0 then - plS mv u b s (Int.toNat x) else plS mv u b s (Int.toNat x)) ∧ (0 ≤ plS mv u b s (Int.toNat x) ∧ plS mv u b s (Int.toNat x) ≤ 9) ∧ (∀ k : Int, 0 ≤ k → k < w → ¬ mv s k = -1 → ¬ u (mv s k) = plS mv u b s (Int.toNat x)) ∧ ∀ k : Int, 0 ≤ k → k < x → ¬ mv s k = -1 → (b = 0 → plS mv u b s (Int.toNat x) ≤ u (mv s k)) ∧ (¬ b = 0 → u (mv s k) ≤ plS mv u b s (Int.toNat x)))
def bwN (m : Mm) (s b w y x : Int) : Prop := ∀ mv u, bwC m s mv u → bwI mv u b s w y x
def bwP (m : Mm) (s b v : Int) : Prop := ∀ mv u, bwC m s mv u → (v = -2 ∧ plS mv u b s 4 = -1 ∧ ∀ k : Int, 0 ≤ k → k ≤ 3 → mv s k = -1) ∨ ((0 ≤ v ∧ v ≤ 3) ∧ (¬ mv s v = -1 ∧ u (mv s v) = plS mv u b s 4) ∧ 0 ≤ plS mv u b s 4 ∧ ∀ k : Int, 0 ≤ k → k < v → ¬ mv s k = -1 → ¬ u (mv s k) = plS mv u b s 4)
section BW
variable {m : Mm} {s b w y x z a : Int}
theorem bn_0 (d : bwN m s b w y x) (h : 0 ≤ x ∧ x ≤ 3) (ez : z = rd m 325 (Int.toNat (4 * s + x))) (n : z < 0) : bwN m s b w y (x + 1) := fun mv u c => by
  have e := c.1 x h.1 h.2
  have e2 : mv s x = -1 := by
    have e1 : z = mv s x := ez.trans e.1
    have q := e.2
    omega
  have d2 := d mv u c
  unfold bwI at d2 ⊢
  rw [show Int.toNat (x + 1) = Int.toNat x + 1 by omega, plS_s mv u b s x h.1, if_pos e2]
  rcases d2 with ⟨d1, d2, d3⟩ | ⟨d1, d2, d3, d4, d5, d6⟩
  · refine Or.inl ⟨d1, d2, fun k k0 k1 => ?_⟩
    by_cases q : k = x
    · rw [q]; exact e2
    · exact d3 k k0 (by omega)
  · refine Or.inr ⟨by omega, d2, d3, d4, d5, fun k k0 k1 ne => ?_⟩
    by_cases q : k = x
    · rw [q] at ne; exact absurd e2 ne
    · exact d6 k k0 (by omega) ne
theorem bn_1 (d : bwN m s b w y x) (h : 0 ≤ x ∧ x ≤ 3) (ez : z = rd m 325 (Int.toNat (4 * s + x))) (n : 0 ≤ z) (ea : (b = 0 ∧ a = ngI (rd m 332 (Int.toNat z))) ∨ (¬ b = 0 ∧ a = rd m 332 (Int.toNat z))) (k : ¬ (w < 0 ∨ y < a)) : bwN m s b w y (x + 1) := fun mv u c => by
  have e := (c.1 x h.1 h.2).1
  rw [← ez] at e
  have ne : ¬ mv s x = -1 := by omega
  have c2 := c.2 x h.1 h.2 ne
  rw [← e] at c2 ne
  rw [c2.1] at ea
  have ng := ngI_e c2.2
  have d2 := d mv u c
  unfold bwI at d2 ⊢
  rcases d2 with ⟨d1, -⟩ | ⟨d1, d2, d3, d4, d5, d6⟩
  · omega
  · have st : plS mv u b s (Int.toNat (x + 1)) = plS mv u b s (Int.toNat x) := by
      rw [show Int.toNat (x + 1) = Int.toNat x + 1 by omega, plS_s mv u b s x h.1, ← e, if_neg ne, if_neg]
      rintro (q | ⟨q1, q2⟩ | ⟨q1, q2⟩)
      · omega
      · rw [if_pos q1] at d3
        rcases ea with ⟨-, ea⟩ | ⟨ea, -⟩
        · rw [ng] at ea; omega
        · exact ea q1
      · rw [if_neg q1] at d3
        rcases ea with ⟨ea, -⟩ | ⟨-, ea⟩
        · exact q1 ea
        · omega
    rw [st]
    refine Or.inr ⟨by omega, d2, d3, d4, d5, fun k2 k0 k1 ne2 => ?_⟩
    by_cases q : k2 = x
    · rw [q, ← e]
      refine ⟨fun b0 => ?_, fun b0 => ?_⟩
      · rw [if_pos b0] at d3
        rcases ea with ⟨-, ea⟩ | ⟨ea, -⟩
        · rw [ng] at ea; omega
        · exact absurd b0 ea
      · rw [if_neg b0] at d3
        rcases ea with ⟨ea, -⟩ | ⟨-, ea⟩
        · exact absurd ea b0
        · omega
    · exact d6 k2 k0 (by omega) ne2
theorem bn_2 (d : bwN m s b w y x) (h : 0 ≤ x ∧ x ≤ 3) (ez : z = rd m 325 (Int.toNat (4 * s + x))) (n : 0 ≤ z) (ea : (b = 0 ∧ a = ngI (rd m 332 (Int.toNat z))) ∨ (¬ b = 0 ∧ a = rd m 332 (Int.toNat z))) (k : w < 0 ∨ y < a) : bwN m s b x a (x + 1) := fun mv u c => by
  have e := (c.1 x h.1 h.2).1
  rw [← ez] at e
  have ne : ¬ mv s x = -1 := by omega
  have c2 := c.2 x h.1 h.2 ne
  rw [← e] at c2 ne
  rw [c2.1] at ea
  have ng := ngI_e c2.2
  have d2 := d mv u c
  unfold bwI at d2 ⊢
  have st : plS mv u b s (Int.toNat (x + 1)) = u z := by
    rw [show Int.toNat (x + 1) = Int.toNat x + 1 by omega, plS_s mv u b s x h.1, ← e, if_neg ne, if_pos]
    rcases d2 with ⟨-, d1, -⟩ | ⟨d1, d2, d3, d4, d5, d6⟩
    · exact Or.inl d1
    · rcases ea with ⟨b0, ea⟩ | ⟨b0, ea⟩
      · rw [if_pos b0] at d3
        rw [ng] at ea
        exact Or.inr (Or.inl ⟨b0, by omega⟩)
      · rw [if_neg b0] at d3
        exact Or.inr (Or.inr ⟨b0, by omega⟩)
  rw [st]
  refine Or.inr ⟨by omega, ⟨by rw [← e]; exact ne, by rw [← e]⟩, ?_, c2.2, fun k2 k0 k1 ne2 => ?_, fun k2 k0 k1 ne2 => ?_⟩
  · rcases ea with ⟨b0, ea⟩ | ⟨b0, ea⟩
    · rw [if_pos b0, ea, ng]
    · rw [if_neg b0, ea]
  · rcases d2 with ⟨-, -, d1⟩ | ⟨d1, d2, d3, d4, d5, d6⟩
    · exact absurd (d1 k2 k0 k1) ne2
    · have q := d6 k2 k0 k1 ne2
      rcases ea with ⟨b0, ea⟩ | ⟨b0, ea⟩
      · rw [if_pos b0] at d3
        rw [ng] at ea
        have q1 := q.1 b0
        omega
      · rw [if_neg b0] at d3
        have q1 := q.2 b0
        omega
  · by_cases q : k2 = x
    · rw [q, ← e]
      exact ⟨fun _ => Int.le_refl _, fun _ => Int.le_refl _⟩
    · rcases d2 with ⟨-, -, d1⟩ | ⟨d1, d2, d3, d4, d5, d6⟩
      · exact absurd (d1 k2 k0 (by omega)) ne2
      · have q := d6 k2 k0 (by omega) ne2
        rcases ea with ⟨b0, ea⟩ | ⟨b0, ea⟩
        · rw [if_pos b0] at d3
          rw [ng] at ea
          have q1 := q.1 b0
          exact ⟨fun _ => by omega, fun b1 => absurd b0 b1⟩
        · rw [if_neg b0] at d3
          have q1 := q.2 b0
          exact ⟨fun b1 => absurd b1 b0, fun _ => by omega⟩
theorem bn_e (d : bwN m s b w y x) (h : x = 4) : bwP m s b w := fun mv u c => by
  subst h
  rcases d mv u c with ⟨d1, d2, d3⟩ | ⟨d1, d2, -, d4, d5, -⟩
  · exact Or.inl ⟨d1, d2, fun k k0 k1 => d3 k k0 (by omega)⟩
  · exact Or.inr ⟨by omega, d2, d4.1, d5⟩
end BW
/-! the loops -/
def pbI (j : Int) : Int := if j % 2 = 0 then 1 else 0
theorem pbI_s (j : Int) : (if pbI j = 0 then (1 : Int) else 0) = pbI (j + 1) := by
  unfold pbI
  by_cases h : j % 2 = 0
  · rw [if_pos h, if_neg (by decide), if_neg (by omega)]
  · rw [if_neg h, if_pos rfl, if_pos (by omega)]
theorem plF_9 {mv : Int → Int → Int} {mk : Int → Int} {L : Int} (cl : cloN mv L) (h : ∀ s : Int, 0 ≤ s → s < L → 0 ≤ mk s ∧ mk s ≤ 9) : ∀ (n : Nat) (b s : Int), 0 ≤ s → s < L → 0 ≤ plF mv mk n b s ∧ plF mv mk n b s ≤ 9
  | 0, b, s, h0, h1 => h s h0 h1
  | n + 1, b, s, h0, h1 => by
    have ih := plF_9 cl h n (if b = 0 then 1 else 0)
    show 0 ≤ (if plS mv (fun t => plF mv mk n (if b = 0 then 1 else 0) t) b s 4 = -1 then mk s else plS mv (fun t => plF mv mk n (if b = 0 then 1 else 0) t) b s 4) ∧ (if plS mv (fun t => plF mv mk n (if b = 0 then 1 else 0) t) b s 4 = -1 then mk s else plS mv (fun t => plF mv mk n (if b = 0 then 1 else 0) t) b s 4) ≤ 9
    generalize (if b = 0 then (1 : Int) else 0) = b2 at ih ⊢
    have k : ∀ k : Nat, k ≤ 4 → plS mv (fun t => plF mv mk n b2 t) b s k = -1 ∨ (0 ≤ plS mv (fun t => plF mv mk n b2 t) b s k ∧ plS mv (fun t => plF mv mk n b2 t) b s k ≤ 9) := by
      intro k
      induction k with
      | zero => exact fun _ => Or.inl rfl
      | succ k ihk =>
        intro hk
        have q := ihk (by omega)
        have st : plS mv (fun t => plF mv mk n b2 t) b s (k + 1) = if mv s (k : Int) = -1 then plS mv (fun t => plF mv mk n b2 t) b s k else if plS mv (fun t => plF mv mk n b2 t) b s k = -1 ∨ (b = 0 ∧ plF mv mk n b2 (mv s (k : Int)) < plS mv (fun t => plF mv mk n b2 t) b s k) ∨ (¬ b = 0 ∧ plS mv (fun t => plF mv mk n b2 t) b s k < plF mv mk n b2 (mv s (k : Int))) then plF mv mk n b2 (mv s (k : Int)) else plS mv (fun t => plF mv mk n b2 t) b s k := rfl
        rw [st]
        by_cases c : mv s (k : Int) = -1
        · rw [if_pos c]; exact q
        · rw [if_neg c]
          have cl2 := (cl s (k : Int) h0 h1 (by omega) (by omega)).resolve_left c
          split
          · exact Or.inr (ih _ cl2.1 cl2.2)
          · exact q
    by_cases c : plS mv (fun t => plF mv mk n b2 t) b s 4 = -1
    · rw [if_pos c]; exact h s h0 h1
    · rw [if_neg c]; exact (k 4 (Nat.le_refl _)).resolve_left c
/-- marks on top are digits -/
theorem ml_9 {m : Mm} {A : Ab} {T F : Nat → Int} {c s t : Int} (w : mlP m A T F c) (tm : Ty m) (ht : 0 ≤ t ∧ t ≤ 5) (hs : 0 ≤ s) : 0 ≤ mkN A.r F c s t ∧ mkN A.r F c s t ≤ 9 := by
  obtain ⟨⟨y, -⟩, -, -, ⟨f1, f2⟩, -, hc⟩ := w
  have y3 := y.2.2.1.2.2
  have b := f2 (Int.toNat (s % 24 * 6 + t)) (by omega)
  have e := y.2.1 (Int.toNat (25 + 6 * c) + Int.toNat (F (Int.toNat (s % 24 * 6 + t)))) (by omega)
  have r := ty_323 tm (Int.toNat (25 + 6 * c) + Int.toNat (F (Int.toNat (s % 24 * 6 + t))))
  have e2 : ty51 (Int.toNat (25 + 6 * c) + Int.toNat (F (Int.toNat (s % 24 * 6 + t)))) = (0, 9) := by
    unfold ty51
    rw [Nat.mod_eq_of_lt (by omega), if_pos (by omega)]
  rw [e2, e] at r
  exact r
def gmK (m31 m : Mm) (c n x5 : Int) : Prop := n32 m31 m ∧ ∀ A T F, mlP m31 A T F c → ∀ s : Int, 0 ≤ s → s < 24 * (A.Y 0 * A.Y 1) → rd m 332 (Int.toNat s) = plF (mvN A.Y A.r T c) (fun s => mkN A.r F c s 0) (Int.toNat (n - 1 - x5)) (pbI (x5 + 1)) s
def gmI (m31 m86 m : Mm) (c n x5 x : Int) : Prop := (n32 m31 m ∧ ∀ j : Nat, rd m 332 j = rd m86 332 j) ∧ ∀ A T F, mlP m31 A T F c → ∀ s : Int, 0 ≤ s → s < x → s < 24 * (A.Y 0 * A.Y 1) → rd m 333 (Int.toNat s) = plF (mvN A.Y A.r T c) (fun s => mkN A.r F c s 0) (Int.toNat (n - x5)) (pbI x5) s
def gmV (m31 : Mm) (c n x5 x v : Int) : Prop := ∀ A T F, mlP m31 A T F c → x < 24 * (A.Y 0 * A.Y 1) → v = plF (mvN A.Y A.r T c) (fun s => mkN A.r F c s 0) (Int.toNat (n - x5)) (pbI x5) x
theorem gm_f {m31 m m2 : Mm} {c x z v : Int} (d : n32 m31 m ∧ ∀ A T F, mlP m31 A T F c → ∀ s : Int, 0 ≤ s → s < x → s < 24 * (A.Y 0 * A.Y 1) → rd m 332 (Int.toNat s) = mkN A.r F c s 0) (h : 0 ≤ x ∧ z = x + 1) (ev : v = rd m 323 (Int.toNat (25 + 6 * c + rd m 319 (Int.toNat (6 * (x % 24) + 0))))) (rv : rg v) (e : m2 = wt m 332 (Int.toNat x) v) : n32 m31 m2 ∧ ∀ A T F, mlP m31 A T F c → ∀ s : Int, 0 ≤ s → s < z → s < 24 * (A.Y 0 * A.Y 1) → rd m2 332 (Int.toNat s) = mkN A.r F c s 0 := by
  refine ⟨fun i j n => by rw [e, rd_wt, if_neg (fun w => n (Or.inl w.1))]; exact d.1 i j n, fun A T F w s h0 h1 h2 => ?_⟩
  have b := (ml_N w d.1).1
  rw [e, rd_wt]
  by_cases q : s = x
  · subst q
    rw [if_pos ⟨rfl, rfl⟩, wr_i rv]
    exact ml_k w (fun j => d.1 323 j (by decide)) (fun j => d.1 319 j (by decide)) ⟨h0, by omega⟩ (by decide) ev
  · rw [if_neg (by omega)]
    exact d.2 A T F w s h0 (by omega) h2
theorem gm_a {m31 m86 : Mm} {c n x5 : Int} (f : n32 m31 m86) : gmI m31 m86 m86 c n x5 0 := ⟨⟨f, fun _ => rfl⟩, fun A T F w s h0 h1 => by omega⟩
theorem gm_i {m31 m : Mm} {c n x v z : Int} (d : n32 m31 m ∧ ∀ A T F, mlP m31 A T F c → ∀ s : Int, 0 ≤ s → s < x → s < 24 * (A.Y 0 * A.Y 1) → rd m 332 (Int.toNat s) = mkN A.r F c s 0) (ev : v = 24 * (rd m 293 (Int.toNat (rd m 284 18)) * rd m 294 (Int.toNat (rd m 284 18)))) (hv : v ≤ x) (ez : z = n - 1) : gmK m31 m c n z := by
  refine ⟨d.1, fun A T F w s h0 h1 => ?_⟩
  have en := (ml_N w d.1).2
  rw [show Int.toNat (n - 1 - z) = 0 by omega]
  exact d.2 A T F w s h0 (by omega) h1
section GM
variable {m31 m86 m : Mm} {c n x5 x v w b : Int}
theorem gm_bw {A : Ab} {T F : Nat → Int} (tm : Ty m31) (K : gmK m31 m86 c n x5) (k : gmI m31 m86 m c n x5 w) (wl : mlP m31 A T F c) (hx : 0 ≤ x ∧ x < 24 * (A.Y 0 * A.Y 1)) : bwC m x (mvN A.Y A.r T c) (fun t => plF (mvN A.Y A.r T c) (fun s => mkN A.r F c s 0) (Int.toNat (n - 1 - x5)) (pbI (x5 + 1)) t) := by
  refine ⟨fun q q0 q1 => ?_, fun q q0 q1 ne => ?_⟩
  · have cl := wl.2.2.1 x q hx.1 hx.2 q0 q1
    refine ⟨(k.1.1 325 _ (by decide)).trans (wl.2.1 x q hx.1 hx.2 q0 q1), ?_⟩
    rcases cl with r | r
    · exact Or.inl r
    · exact Or.inr r.1
  · have cl := (wl.2.2.1 x q hx.1 hx.2 q0 q1).resolve_left ne
    exact ⟨(k.1.2 _).trans (K.2 A T F wl _ cl.1 cl.2), plF_9 wl.2.2.1 (fun s h0 _ => ml_9 wl tm (by decide) h0) _ _ _ cl.1 cl.2⟩
theorem gv_0 (tm : Ty m31) (K : gmK m31 m86 c n x5) (k : gmI m31 m86 m c n x5 x) (p : bwP m x b v) (eb : b = pbI x5) (neg : v < 0) (h : (0 ≤ x ∧ x < 600) ∧ x5 ≤ n - 1) (ev : w = rd m 323 (Int.toNat (25 + 6 * c + rd m 319 (Int.toNat (6 * (x % 24) + 0))))) : gmV m31 c n x5 x w := fun A T F wl hx => by
  have q := p _ _ (gm_bw tm K k wl ⟨h.1.1, hx⟩)
  rcases q with ⟨q1, q2, q3⟩ | ⟨q1, -⟩
  · rw [show Int.toNat (n - x5) = Int.toNat (n - 1 - x5) + 1 by omega]
    show w = if plS (mvN A.Y A.r T c) (fun t => plF (mvN A.Y A.r T c) (fun s => mkN A.r F c s 0) (Int.toNat (n - 1 - x5)) (if pbI x5 = 0 then 1 else 0) t) (pbI x5) x 4 = -1 then mkN A.r F c x 0 else plS (mvN A.Y A.r T c) (fun t => plF (mvN A.Y A.r T c) (fun s => mkN A.r F c s 0) (Int.toNat (n - 1 - x5)) (if pbI x5 = 0 then 1 else 0) t) (pbI x5) x 4
    rw [pbI_s, ← eb, if_pos q2]
    exact ml_k wl (fun j => k.1.1 323 j (by decide)) (fun j => k.1.1 319 j (by decide)) h.1 (by decide) ev
  · omega
theorem gv_1 {q : Nat} (tm : Ty m31) (K : gmK m31 m86 c n x5) (k : gmI m31 m86 m c n x5 x) (p : bwP m x b v) (eb : b = pbI x5) (pos : 0 ≤ v) (h : (0 ≤ x ∧ x < 600) ∧ x5 ≤ n - 1) (eq : q = Int.toNat (4 * x + v)) : gmV m31 c n x5 x (rd m 332 (Int.toNat (rd m 325 q))) := fun A T F wl hx => by
  have bc := gm_bw tm K k wl ⟨h.1.1, hx⟩
  have r := p _ _ bc
  subst eq
  rcases r with ⟨q1, -⟩ | ⟨q1, ⟨q2, q3⟩, q4, -⟩
  · omega
  · have e1 := (bc.1 v q1.1 q1.2).1
    have e2 := (bc.2 v q1.1 q1.2 q2).1
    rw [show Int.toNat (n - x5) = Int.toNat (n - 1 - x5) + 1 by omega]
    show _ = if plS (mvN A.Y A.r T c) (fun t => plF (mvN A.Y A.r T c) (fun s => mkN A.r F c s 0) (Int.toNat (n - 1 - x5)) (if pbI x5 = 0 then 1 else 0) t) (pbI x5) x 4 = -1 then mkN A.r F c x 0 else plS (mvN A.Y A.r T c) (fun t => plF (mvN A.Y A.r T c) (fun s => mkN A.r F c s 0) (Int.toNat (n - 1 - x5)) (if pbI x5 = 0 then 1 else 0) t) (pbI x5) x 4
    rw [pbI_s, ← eb, if_neg (by omega), e1]
    exact e2.trans q3
theorem gm_c {m84 m184 : Mm} {z s : Int} (k : gmI m31 m86 m c n x5 x) (e : m84 = m) (g : gmV m31 c n x5 x s) (h : 0 ≤ x ∧ z = x + 1) (r : rg s) (e2 : m184 = wt m84 333 (Int.toNat x) s) : gmI m31 m86 m184 c n x5 z := by
  subst e
  refine ⟨⟨fun i j q => by rw [e2, rd_wt, if_neg (fun w => q (Or.inr w.1))]; exact k.1.1 i j q, fun j => by rw [e2, rd_wt, if_neg (by omega)]; exact k.1.2 j⟩, fun A T F w s2 h0 h1 h2 => ?_⟩
  rw [e2, rd_wt]
  by_cases q : s2 = x
  · subst q
    rw [if_pos ⟨rfl, rfl⟩, wr_i r]
    exact g A T F w h2
  · rw [if_neg (by omega)]
    exact k.2 A T F w s2 h0 (by omega) h2
theorem gm_e {m192 : Mm} {z5 : Int} (_K : gmK m31 m86 c n x5) (k : gmI m31 m86 m c n x5 x) (ev : v = 24 * (rd m 293 (Int.toNat (rd m 284 18)) * rd m 294 (Int.toNat (rd m 284 18)))) (hv : v ≤ x) (km : kmP m m192) (h : 0 ≤ x5 ∧ x5 ≤ n - 1) (ez : z5 = x5 - 1) : gmK m31 m192 c n z5 := by
  refine ⟨fun i j q => (km.1 i j (fun w => q (Or.inl w))).trans (k.1.1 i j q), fun A T F w s h0 h1 => ?_⟩
  have en := (ml_N w k.1.1).2
  rw [km.2 _ (by omega), k.2 A T F w s h0 (by omega) h1, show n - 1 - z5 = n - x5 by omega, show z5 + 1 = x5 by omega]
theorem gm_z {A : Ab} {T F : Nat → Int} {q : Nat} {z : Int} (wl : mlP m31 A T F c) (ez : z = wr (24 * rd m31 323 q)) (eq : q = Int.toNat (43 + c)) : z = 24 * fC A.r c ∧ 0 ≤ z ∧ z < 24 * (A.Y 0 * A.Y 1) := by
  have o := wl.2.2.2.2.1
  have hc := wl.2.2.2.2.2
  have y3 := wl.1.1.2.2.1.2.2
  have b := wh_b wl.1.1.2.2.1.1 wl.1.1.2.2.1.2.1
  have e : rd m31 323 q = fC A.r c := by
    rw [eq]
    exact wl.1.1.2.1 _ (by omega)
  rw [e, wr_id (by omega) (by omega)] at ez
  exact ⟨ez, by omega, by omega⟩
theorem gam_M1 {A : Ab} {T F : Nat → Int} {q : Nat} {x1 x2 x3 z : Int} (tm : Ty m31) (wl : mlP m31 A T F x1) (h2 : 1 ≤ x2 ∧ x2 ≤ 6) (h3 : (0 ≤ x3 ∧ x3 ≤ 1) ∧ ¬ x3 = 0) (K : gmK m31 m86 x1 x2 x5) (h5 : x5 = 0) (ez : z = wr (24 * rd m31 323 q)) (eq : q = Int.toNat (43 + x1)) (p : bwP m86 z 1 v) : gamA A T F x1 x2 x3 v ∧ mA m86 A := by
  subst h5
  have zz := gm_z wl ez eq
  have r := p _ _ (gm_bw tm K (gm_a K.1) wl zz.2)
  refine ⟨Or.inr ⟨⟨wl.2.2.2.2.2, h2, h3.1⟩, Or.inr ⟨h3.2, ?_⟩⟩, ml_mA wl K.1⟩
  have e0 : pbI (0 + 1) = 0 := by decide
  rw [e0, show x2 - 1 - 0 = x2 - 1 by omega] at r
  rw [← zz.1, show Int.toNat x2 = Int.toNat (x2 - 1) + 1 by omega]
  show fiK _ _ _ (if plS (mvN A.Y A.r T x1) (fun t => plF (mvN A.Y A.r T x1) (fun s => mkN A.r F x1 s 0) (Int.toNat (x2 - 1)) (if (1 : Int) = 0 then 1 else 0) t) 1 z 4 = -1 then mkN A.r F x1 z 0 else plS (mvN A.Y A.r T x1) (fun t => plF (mvN A.Y A.r T x1) (fun s => mkN A.r F x1 s 0) (Int.toNat (x2 - 1)) (if (1 : Int) = 0 then 1 else 0) t) 1 z 4) v
  rw [if_neg (by decide : ¬ (1 : Int) = 0)]
  rcases r with ⟨r1, r2, r3⟩ | ⟨r1, ⟨r2, r3⟩, r4, r5⟩
  · exact Or.inl ⟨r1, fun k k0 k1 ne => absurd (r3 k k0 k1) ne⟩
  · rw [if_neg (by omega)]
    exact Or.inr ⟨r1, ⟨r2, r3⟩, r5⟩
theorem gam_M0 {A : Ab} {T F : Nat → Int} {q : Nat} {x1 x2 x3 z : Int} (wl : mlP m31 A T F x1) (h2 : 1 ≤ x2 ∧ x2 ≤ 6) (h3 : (0 ≤ x3 ∧ x3 ≤ 1) ∧ x3 = 0) (K : gmK m31 m86 x1 x2 x5) (h5 : x5 = -1) (ez : z = wr (24 * rd m31 323 q)) (eq : q = Int.toNat (43 + x1)) : gamA A T F x1 x2 x3 (rd m86 332 (Int.toNat z)) ∧ mA m86 A := by
  subst h5
  have zz := gm_z wl ez eq
  refine ⟨Or.inr ⟨⟨wl.2.2.2.2.2, h2, h3.1⟩, Or.inl ⟨h3.2, ?_⟩⟩, ml_mA wl K.1⟩
  have e := K.2 A T F wl z zz.2.1 zz.2.2
  have e0 : pbI (-1 + 1) = 1 := by decide
  rw [e0, show x2 - 1 - -1 = x2 by omega] at e
  rw [← zz.1]
  exact e
end GM
theorem gam_Mn {m m27 : Mm} {A : Ab} {T F : Nat → Int} {x1 x2 x3 : Int} (h : mA m A) (e : m27 = m) (n : ¬ (0 ≤ x1 ∧ x1 < rd m 302 (Int.toNat (rd m 284 18))) ∨ ¬ (1 ≤ x2 ∧ x2 ≤ 6) ∨ ¬ (0 ≤ x3 ∧ x3 ≤ 1)) : gamA A T F x1 x2 x3 (-1) ∧ mA m27 A := by
  subst e
  rw [h.1.1.2.2.2.1] at n
  exact ⟨Or.inl ⟨by omega, rfl⟩, h⟩
-- TippedCratesModel.bestWay(IZ)I
set_option maxRecDepth 20000 in
theorem my_263 {m : Mm} {x1 : Int} {x2 : Int}  (T_m : Ty m) (r_x1 : rg x1) (r_x2 : rg x2) (p0 : 0 ≤ x1 ∧ x1 ≤ 599) : CK 1 263 [.ref 284, iv x1, iv x2] m (fun m2 v => m2 = m ∧ ((v = -2 ∨ (0 ≤ v ∧ v ≤ 3 ∧ 0 ≤ rd m 325 (Int.toNat (4 * x1 + v)))) ∧ (bwP m x1 x2 v))) := by
  refine br_263 r_x1 r_x2 ?_
  unfold P_263
  refine ⟨fun x3_9 x4_9 x5_9 => ((0 ≤ x5_9 ∧ x5_9 ≤ 4) ∧ (x3_9 = -2 ∨ (0 ≤ x3_9 ∧ x3_9 ≤ 3 ∧ 0 ≤ rd m 325 (Int.toNat (4 * x1 + x3_9))))) ∧ (bwN m x1 x2 x3_9 x4_9 x5_9), fun x3_9 x4_9 x5_9 => Int.toNat (4 - x5_9), ?_, ?_⟩
  · (exact ⟨by first | omega | (refine ⟨?_, ?_⟩ <;> omega) | trivial, by exact fun mv u c => Or.inl ⟨rfl, rfl, fun k h0 h1 => by omega⟩⟩)
  · intro x3_9 x4_9 x5_9 r_x3_9 r_x4_9 r_x5_9 hI_9
    obtain ⟨hI_9, dI_9⟩ := hI_9
    refine ⟨fun hq => ?_, fun hq => ?_⟩
    · skip
      exact ⟨rfl, by exact ⟨by first | trivial | omega | (refine ⟨?_, ?_⟩ <;> omega), by exact bn_e dI_9 (by omega)⟩⟩
    · skip
      try have w1 : wr (4 * x1) = 4 * x1 := wr_id (by omega) (by omega)
      try have w2 : wr ((wr (4 * x1)) + x5_9) = (wr (4 * x1)) + x5_9 := wr_id (by omega) (by omega)
      refine ⟨⟨by omega, by omega⟩, ?_⟩
      have t3 := ty_325 T_m (Int.toNat (wr ((wr (4 * x1)) + x5_9)))
      intro z6_26 e_z6_26
      have r_z6_26 : rg z6_26 := by rw [e_z6_26]; exact (rd_rg _ _ _)
      refine ⟨fun y3_81 y4_81 => ((y3_81 = -2 ∨ (0 ≤ y3_81 ∧ y3_81 ≤ 3 ∧ 0 ≤ rd m 325 (Int.toNat (4 * x1 + y3_81))))) ∧ (bwN m x1 x2 y3_81 y4_81 (x5_9 + 1)), ?_, ?_⟩
      · skip
        refine ⟨fun hq => ?_, fun hq => ?_⟩
        · skip
          refine ⟨fun s0_58 => (x2 = 0 ∧ s0_58 = ngI (rd m 332 (Int.toNat z6_26))) ∨ (¬ x2 = 0 ∧ s0_58 = rd m 332 (Int.toNat z6_26)), ?_, ?_⟩
          · skip
            refine ⟨fun hq => ?_, fun hq => ?_⟩
            · skip
              refine ⟨⟨by omega, by omega⟩, ?_⟩
              (first | exact Or.inl ⟨by assumption, rfl⟩ | exact Or.inr ⟨by assumption, rfl⟩)
            · skip
              refine ⟨⟨by omega, by omega⟩, ?_⟩
              (first | exact Or.inl ⟨by assumption, rfl⟩ | exact Or.inr ⟨by assumption, rfl⟩)
          · intro s0_58 r_s0_58 hR_58
            refine ⟨x3_9 < 0 ∨ x4_9 < s0_58, ?_, ?_⟩
            · skip
              refine ⟨fun hq => ?_, fun hq => ?_⟩
              · skip
                (omega)
              · skip
                refine ⟨fun hq => ?_, fun hq => ?_⟩
                · skip
                  (omega)
                · skip
                  have e4 : rd m 325 (Int.toNat (4 * x1 + x5_9)) = rd m 325 (Int.toNat (wr ((wr (4 * x1)) + x5_9))) := congrArg (rd m 325) (by omega)
                  (exact ⟨by first | trivial | omega | (refine ⟨?_, ?_⟩ <;> omega), by first | (have u := hR_74; exact bn_2 dI_9 (by omega) (e_z6_26.trans (congrArg (rd m 325) (by omega))) (by omega) hR_58 hR_74) | (have u := hR_58; exact bn_1 dI_9 (by omega) (e_z6_26.trans (congrArg (rd m 325) (by omega))) (by omega) hR_58 (by omega)) | exact bn_0 dI_9 (by omega) (e_z6_26.trans (congrArg (rd m 325) (by omega))) (by omega)⟩)
            · intro   hR_74
              have e4 : rd m 325 (Int.toNat (4 * x1 + x5_9)) = rd m 325 (Int.toNat (wr ((wr (4 * x1)) + x5_9))) := congrArg (rd m 325) (by omega)
              (exact ⟨by first | trivial | omega | (refine ⟨?_, ?_⟩ <;> omega), by first | (have u := hR_74; exact bn_2 dI_9 (by omega) (e_z6_26.trans (congrArg (rd m 325) (by omega))) (by omega) hR_58 hR_74) | (have u := hR_58; exact bn_1 dI_9 (by omega) (e_z6_26.trans (congrArg (rd m 325) (by omega))) (by omega) hR_58 (by omega)) | exact bn_0 dI_9 (by omega) (e_z6_26.trans (congrArg (rd m 325) (by omega))) (by omega)⟩)
        · skip
          have e4 : rd m 325 (Int.toNat (4 * x1 + x5_9)) = rd m 325 (Int.toNat (wr ((wr (4 * x1)) + x5_9))) := congrArg (rd m 325) (by omega)
          (exact ⟨by first | trivial | omega | (refine ⟨?_, ?_⟩ <;> omega), by first | (have u := hR_74; exact bn_2 dI_9 (by omega) (e_z6_26.trans (congrArg (rd m 325) (by omega))) (by omega) hR_58 hR_74) | (have u := hR_58; exact bn_1 dI_9 (by omega) (e_z6_26.trans (congrArg (rd m 325) (by omega))) (by omega) hR_58 (by omega)) | exact bn_0 dI_9 (by omega) (e_z6_26.trans (congrArg (rd m 325) (by omega))) (by omega)⟩)
      · intro y3_81 y4_81 r_y3_81 r_y4_81 hR_81
        obtain ⟨hR_81, dR_81⟩ := hR_81
        try have w6 : wr (x5_9 + 1) = x5_9 + 1 := wr_id (by omega) (by omega)
        intro z5_81 e_z5_81
        have r_z5_81 : rg z5_81 := by rw [e_z5_81]; exact wr_rg _
        exact ⟨by exact ⟨by first | omega | (refine ⟨?_, ?_⟩ <;> omega) | trivial, by exact fun mv u c => by rw [e_z5_81, show wr (x5_9 + 1) = x5_9 + 1 by omega]; exact dR_81 mv u c⟩, by (try dsimp only); omega⟩
-- TippedCratesModel.game(III)I
set_option maxRecDepth 20000 in
theorem my_264 {m0 m : Mm} {x1 : Int} {x2 : Int} {x3 : Int}  (g_m : G m0 m) (r_x1 : rg x1) (r_x2 : rg x2) (r_x3 : rg x3) (p0 : MW m0) : CK 5 264 [.ref 284, iv x1, iv x2, iv x3] m (fun m2 v => G m0 m2 ∧ ((True) ∧ (∀ A T F, okY A.Y → okR A.Y A.r → mA m A → tbR m 319 320 F T → gamA A T F x1 x2 x3 v ∧ mA m2 A))) := by
  refine br_264 r_x1 r_x2 r_x3 ?_
  unfold P_264
  refine CK.mono (ct_210   g_m.1 r_x1) (by decide) ?_
  rintro m2 v2 r_v2 ⟨e_m2, h_m2⟩
  replace e_m2 := e_m2.symm
  subst e_m2
  refine ⟨fun m_27 => G m0 m_27 ∧ (m_27 = m ∧ (¬ (0 ≤ x1 ∧ x1 < rd m 302 (Int.toNat (rd m 284 18))) ∨ ¬ (1 ≤ x2 ∧ x2 ≤ 6) ∨ ¬ (0 ≤ x3 ∧ x3 ≤ 1))), ?_, ?_⟩
  · skip
    refine ⟨fun hq => ?_, fun hq => ?_⟩
    · skip
      exact ⟨g_m, by exact ⟨rfl, by omega⟩⟩
    · skip
      refine CK.mono (ct_206   r_x2 (by unfold rg; decide) (by unfold rg; decide)) (by decide) ?_
      rintro m12 v12 r_v12 ⟨e_m12, h_m12⟩
      replace e_m12 := e_m12.symm
      subst e_m12
      refine ⟨fun hq => ?_, fun hq => ?_⟩
      · skip
        exact ⟨g_m, by exact ⟨rfl, by omega⟩⟩
      · skip
        refine CK.mono (ct_206   r_x3 (by unfold rg; decide) (by unfold rg; decide)) (by decide) ?_
        rintro m21 v21 r_v21 ⟨e_m21, h_m21⟩
        replace e_m21 := e_m21.symm
        subst e_m21
        refine ⟨fun hq => ?_, fun hq => ?_⟩
        · skip
          refine CV.mono (my_246   g_m r_x1 p0 (by omega)) (by decide) ?_
          rintro m31 ⟨g_m31, h_m31⟩
          try have w1 : wr (43 + x1) = 43 + x1 := wr_id (by omega) (by omega)
          refine ⟨⟨by omega, by omega⟩, ?_⟩
          have t2 := tr_323 g_m31.1 (Int.toNat (wr (43 + x1)))
          try have w3 : wr (24 * (rd m31 323 (Int.toNat (wr (43 + x1))))) = 24 * (rd m31 323 (Int.toNat (wr (43 + x1)))) := wr_id (by omega) (by omega)
          intro z4_46 e_z4_46
          have r_z4_46 : rg z4_46 := by rw [e_z4_46]; exact (wr_rg _)
          refine ⟨fun x5_51 m_51 => G m0 m_51 ∧ ((0 ≤ x5_51 ∧ x5_51 ≤ 600) ∧ (n32 m31 m_51 ∧ ∀ A T F, mlP m31 A T F x1 → ∀ s : Int, 0 ≤ s → s < x5_51 → s < 24 * (A.Y 0 * A.Y 1) → rd m_51 332 (Int.toNat s) = mkN A.r F x1 s 0)), fun x5_51 m_51 => Int.toNat (600 - x5_51), ?_, ?_⟩
          · exact ⟨g_m31, by exact ⟨by first | omega | (refine ⟨?_, ?_⟩ <;> omega) | trivial, by exact ⟨fun _ _ _ => rfl, fun A T F w s h0 h1 => by omega⟩⟩⟩
          · intro x5_51 m_51 r_x5_51 hI_51
            obtain ⟨g_m_51, hI_51⟩ := hI_51
            obtain ⟨hI_51, dI_51⟩ := hI_51
            refine CK.mono (my_247   g_m_51.1 (MW_G p0 g_m_51)) (by decide) ?_
            rintro m54 v54 r_v54 ⟨e_m54, h_m54⟩
            replace e_m54 := e_m54.symm
            subst e_m54
            refine ⟨fun hq => ?_, fun hq => ?_⟩
            · skip
              try have w4 : wr (x2 - 1) = x2 - 1 := wr_id (by omega) (by omega)
              intro z5_84 e_z5_84
              have r_z5_84 : rg z5_84 := by rw [e_z5_84]; exact (wr_rg _)
              refine ⟨fun x5_86 m_86 => G m0 m_86 ∧ ((-1 ≤ x5_86 ∧ x5_86 ≤ 5) ∧ ((x5_86 ≤ x2 - 1 ∧ (x3 = 1 → 0 ≤ x5_86)) ∧ gmK m31 m_86 x1 x2 x5_86)), fun x5_86 m_86 => Int.toNat (x5_86 + 1), ?_, ?_⟩
              · exact ⟨g_m_51, by exact ⟨by first | omega | (refine ⟨?_, ?_⟩ <;> omega) | trivial, by exact ⟨by omega, gm_i dI_51 h_m54.2 (by omega) (by omega)⟩⟩⟩
              · intro x5_86 m_86 r_x5_86 hI_86
                obtain ⟨g_m_86, hI_86⟩ := hI_86
                obtain ⟨hI_86, dI_86⟩ := hI_86
                refine ⟨fun hq => ?_, fun hq => ?_⟩
                · skip
                  refine ⟨⟨by omega, by omega⟩, ?_⟩
                  exact ⟨g_m_86, by exact ⟨by first | trivial | omega | (refine ⟨?_, ?_⟩ <;> omega), by first | (have u := h_m119; exact fun A T F oY oR h tb => gam_M1 g_m31.1 (ml_A h oY oR (ty_284_18 g_m.1) (te_x h oY (by omega)) tb g_m h_m31.2) (by omega) (by omega) dI_86.2 (by omega) e_z4_46 (by omega) h_m119.2) | (have u := dI_86; exact fun A T F oY oR h tb => gam_M0 (ml_A h oY oR (ty_284_18 g_m.1) (te_x h oY (by omega)) tb g_m h_m31.2) (by omega) (by omega) dI_86.2 (by omega) e_z4_46 (by omega)) | exact fun A T F oY oR h tb => gam_Mn h hR_27.1 hR_27.2⟩⟩
                · skip
                  try have q6 : rmI x5_86 2 = x5_86 % 2 := rm_eq (by omega) (by omega) (by omega) (by omega)
                  refine ⟨fun s0_103 => s0_103 = pbI x5_86, ?_, ?_⟩
                  · skip
                    refine ⟨fun hq => ?_, fun hq => ?_⟩
                    · skip
                      (unfold pbI; split <;> omega)
                    · skip
                      (unfold pbI; split <;> omega)
                  · intro s0_103 r_s0_103 hR_103
                    refine ⟨¬ (x5_86 = 0 ∧ x3 = 1), ?_, ?_⟩
                    · skip
                      refine ⟨fun hq => ?_, fun hq => ?_⟩
                      · skip
                        (omega)
                      · skip
                        refine ⟨fun hq => ?_, fun hq => ?_⟩
                        · skip
                          (omega)
                        · skip
                          refine CK.mono (my_263   g_m_86.1 r_z4_46 (by unfold rg; decide) (by omega)) (by decide) ?_
                          rintro m119 v119 r_v119 ⟨e_m119, h_m119⟩
                          replace e_m119 := e_m119.symm
                          subst e_m119
                          exact ⟨g_m_86, by exact ⟨by first | trivial | omega | (refine ⟨?_, ?_⟩ <;> omega), by first | (have u := h_m119; exact fun A T F oY oR h tb => gam_M1 g_m31.1 (ml_A h oY oR (ty_284_18 g_m.1) (te_x h oY (by omega)) tb g_m h_m31.2) (by omega) (by omega) dI_86.2 (by omega) e_z4_46 (by omega) h_m119.2) | (have u := dI_86; exact fun A T F oY oR h tb => gam_M0 (ml_A h oY oR (ty_284_18 g_m.1) (te_x h oY (by omega)) tb g_m h_m31.2) (by omega) (by omega) dI_86.2 (by omega) e_z4_46 (by omega)) | exact fun A T F oY oR h tb => gam_Mn h hR_27.1 hR_27.2⟩⟩
                    · intro   hR_123
                      refine ⟨fun x7_126 m_126 => G m0 m_126 ∧ ((0 ≤ x7_126 ∧ x7_126 ≤ 600) ∧ (gmI m31 m_86 m_126 x1 x2 x5_86 x7_126)), fun x7_126 m_126 => Int.toNat (600 - x7_126), ?_, ?_⟩
                      · exact ⟨g_m_86, by exact ⟨by first | omega | (refine ⟨?_, ?_⟩ <;> omega) | trivial, by exact gm_a dI_86.2.1⟩⟩
                      · intro x7_126 m_126 r_x7_126 hI_126
                        obtain ⟨g_m_126, hI_126⟩ := hI_126
                        obtain ⟨hI_126, dI_126⟩ := hI_126
                        refine CK.mono (my_247   g_m_126.1 (MW_G p0 g_m_126)) (by decide) ?_
                        rintro m129 v129 r_v129 ⟨e_m129, h_m129⟩
                        replace e_m129 := e_m129.symm
                        subst e_m129
                        refine ⟨fun hq => ?_, fun hq => ?_⟩
                        · skip
                          refine CV.mono (my_258   g_m_126 p0) (by decide) ?_
                          rintro m192 ⟨g_m192, h_m192⟩
                          try have w7 : wr (x5_86 + (-1)) = x5_86 + (-1) := wr_id (by omega) (by omega)
                          intro z5_195 e_z5_195
                          have r_z5_195 : rg z5_195 := by rw [e_z5_195]; exact wr_rg _
                          exact ⟨⟨g_m192, by exact ⟨by first | omega | (refine ⟨?_, ?_⟩ <;> omega) | trivial, by exact ⟨by omega, gm_e dI_86.2 dI_126 h_m129.2 (by omega) h_m192.2 (by omega) (by omega)⟩⟩⟩, by (try dsimp only); omega⟩
                        · skip
                          refine CK.mono (my_263   g_m_126.1 r_x7_126 r_s0_103 (by omega)) (by decide) ?_
                          rintro m140 v140 r_v140 ⟨e_m140, h_m140⟩
                          replace e_m140 := e_m140.symm
                          subst e_m140
                          have e140 : 0 ≤ v140 → rd m_126 325 (Int.toNat (wr ((wr (4 * x7_126)) + v140))) = rd m_126 325 (Int.toNat (4 * x7_126 + v140)) := fun h => congrArg (rd m_126 325) (by rw [wr_id (x := 4 * x7_126) (by omega) (by omega), wr_id (by omega) (by omega)])
                          refine ⟨fun s2_184 m_184 => G m0 m_184 ∧ (m_184 = m_126 ∧ gmV m31 x1 x2 x5_86 x7_126 s2_184), ?_, ?_⟩
                          · skip
                            refine ⟨fun hq => ?_, fun hq => ?_⟩
                            · skip
                              try have w8 : wr (4 * x7_126) = 4 * x7_126 := wr_id (by omega) (by omega)
                              try have w9 : wr ((wr (4 * x7_126)) + v140) = (wr (4 * x7_126)) + v140 := wr_id (by omega) (by omega)
                              refine ⟨⟨by omega, by omega⟩, ?_⟩
                              have t10 := ty_325 g_m_126.1 (Int.toNat (wr ((wr (4 * x7_126)) + v140)))
                              refine ⟨⟨by omega, by omega⟩, ?_⟩
                              exact ⟨g_m_126, by first | (have u := h_m161; exact ⟨rfl, gv_0 g_m31.1 dI_86.2 dI_126 h_m140.2 hR_103 (by omega) (by omega) h_m161.2⟩) | exact ⟨rfl, gv_1 g_m31.1 dI_86.2 dI_126 h_m140.2 hR_103 (by omega) (by omega) (q := Int.toNat (wr ((wr (4 * x7_126)) + v140))) (by have := h_m140.1; omega)⟩⟩
                            · skip
                              refine CK.mono (my_248   g_m_126.1 r_x1 r_x7_126 (by unfold rg; decide) (by omega) (by omega) (by omega)) (by decide) ?_
                              rintro m161 v161 r_v161 ⟨e_m161, h_m161⟩
                              replace e_m161 := e_m161.symm
                              subst e_m161
                              exact ⟨g_m_126, by first | (have u := h_m161; exact ⟨rfl, gv_0 g_m31.1 dI_86.2 dI_126 h_m140.2 hR_103 (by omega) (by omega) h_m161.2⟩) | exact ⟨rfl, gv_1 g_m31.1 dI_86.2 dI_126 h_m140.2 hR_103 (by omega) (by omega) (q := Int.toNat (wr ((wr (4 * x7_126)) + v140))) (by have := h_m140.1; omega)⟩⟩
                          · intro s2_184 m_184 r_s2_184 hR_184
                            obtain ⟨g_m_184, hR_184⟩ := hR_184
                            refine ⟨⟨by omega, by omega⟩, ?_⟩
                            intro m184 e_m184
                            have g_m184 : G m0 m184 := by rw [e_m184]; exact GX.wt g_m_184 (tw_333 g_m_184.1 (by first | assumption | omega)) (Eq.refl true)
                            try have w12 : wr (x7_126 + 1) = x7_126 + 1 := wr_id (by omega) (by omega)
                            intro z7_185 e_z7_185
                            have r_z7_185 : rg z7_185 := by rw [e_z7_185]; exact wr_rg _
                            exact ⟨⟨g_m184, by exact ⟨by first | omega | (refine ⟨?_, ?_⟩ <;> omega) | trivial, by exact gm_c dI_126 hR_184.1 hR_184.2 (by omega) r_s2_184 e_m184⟩⟩, by (try dsimp only); omega⟩
            · skip
              refine CK.mono (my_248   g_m_51.1 r_x1 r_x5_51 (by unfold rg; decide) (by omega) (by omega) (by omega)) (by decide) ?_
              rintro m71 v71 r_v71 ⟨e_m71, h_m71⟩
              replace e_m71 := e_m71.symm
              subst e_m71
              refine ⟨⟨by omega, by omega⟩, ?_⟩
              intro m74 e_m74
              have g_m74 : G m0 m74 := by rw [e_m74]; exact GX.wt g_m_51 (tw_332 g_m_51.1 (by first | assumption | omega)) (Eq.refl true)
              try have w13 : wr (x5_51 + 1) = x5_51 + 1 := wr_id (by omega) (by omega)
              intro z5_75 e_z5_75
              have r_z5_75 : rg z5_75 := by rw [e_z5_75]; exact wr_rg _
              exact ⟨⟨g_m74, by exact ⟨by first | omega | (refine ⟨?_, ?_⟩ <;> omega) | trivial, by exact gm_f dI_51 (by omega) h_m71.2 r_v71 e_m74⟩⟩, by (try dsimp only); omega⟩
        · skip
          exact ⟨g_m, by exact ⟨rfl, by omega⟩⟩
  · intro m_27  hR_27
    obtain ⟨g_m_27, hR_27⟩ := hR_27
    exact ⟨g_m_27, by exact ⟨by first | trivial | omega | (refine ⟨?_, ?_⟩ <;> omega), by first | (have u := h_m119; exact fun A T F oY oR h tb => gam_M1 g_m31.1 (ml_A h oY oR (ty_284_18 g_m.1) (te_x h oY (by omega)) tb g_m h_m31.2) (by omega) (by omega) dI_86.2 (by omega) e_z4_46 (by omega) h_m119.2) | (have u := dI_86; exact fun A T F oY oR h tb => gam_M0 (ml_A h oY oR (ty_284_18 g_m.1) (te_x h oY (by omega)) tb g_m h_m31.2) (by omega) (by omega) dI_86.2 (by omega) e_z4_46 (by omega)) | exact fun A T F oY oR h tb => gam_Mn h hR_27.1 hR_27.2⟩⟩
