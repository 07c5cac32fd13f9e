def n3q (m m2 : Mm) : Prop := ∀ i j : Nat, ¬ i = 332 → rd m2 i j = rd m i j
theorem kmo_n {m m2 : Mm} (h : n3q m m2) : 24 * (rd m2 293 (Int.toNat (rd m2 284 18)) * rd m2 294 (Int.toNat (rd m2 284 18))) = 24 * (rd m 293 (Int.toNat (rd m 284 18)) * rd m 294 (Int.toNat (rd m 284 18))) := by
  rw [h 284 18 (by decide), h 293 _ (by decide), h 294 _ (by decide)]
/-- more is kept -/
def kmP (m m2 : Mm) : Prop := n3q m m2 ∧ ∀ j : Nat, (j : Int) < 24 * (rd m 293 (Int.toNat (rd m 284 18)) * rd m 294 (Int.toNat (rd m 284 18))) → rd m2 332 j = rd m 333 j
theorem km_s {m m2 m21 : Mm} {x z : Int} {q : Nat} (d : n3q m m2 ∧ ∀ j : Nat, (j : Int) < x → rd m2 332 j = rd m 333 j) (h : (0 ≤ x ∧ z = x + 1) ∧ q = Int.toNat x) (e : m21 = wt m2 332 q (rd m2 333 q)) : n3q m m21 ∧ ∀ j : Nat, (j : Int) < z → rd m21 332 j = rd m 333 j := by
  refine ⟨fun i j n => by rw [e, rd_wt, if_neg (fun w => n w.1)]; exact d.1 i j n, fun j hj => ?_⟩
  rw [e, rd_wt]
  by_cases c : j = q
  · rw [if_pos ⟨rfl, c⟩, wr_i (rd_rg _ _ _), d.1 333 q (by decide), c]
  · rw [if_neg (fun w => c w.2)]
    exact d.2 j (by omega)
def n32 (m m2 : Mm) : Prop := ∀ i j : Nat, ¬ (i = 332 ∨ i = 333) → rd m2 i j = rd m i j
/-- behind fillsLeads -/
def mlP (m : Mm) (A : Ab) (T F : Nat → Int) (c : Int) : Prop := (YM m A.Y A.E A.r ∧ mA m A ∧ 0 ≤ rd m 284 18 ∧ rd m 284 18 ≤ 1) ∧ agL m (mvN A.Y A.r T c) (24 * (A.Y 0 * A.Y 1)) ∧ cloN (mvN A.Y A.r T c) (24 * (A.Y 0 * A.Y 1)) ∧ ((∀ j : Nat, j < 144 → rd m 319 j = F j) ∧ ∀ j : Nat, j < 144 → 0 ≤ F j ∧ F j ≤ 5) ∧ (0 ≤ fC A.r c ∧ fC A.r c < A.Y 0 * A.Y 1) ∧ (0 ≤ c ∧ c < A.Y 3)
theorem ml_A {m0 m ml : Mm} {A : Ab} {T F : Nat → Int} {c : Int} (h : mA m A) (oY : okY A.Y) (oR : okR A.Y A.r) (l : 0 ≤ rd m 284 18 ∧ rd m 284 18 ≤ 1) (hc : 0 ≤ c ∧ c < A.Y 3) (tb : tbR m 319 320 F T) (g : G m0 m) (p : fsP m ml c) : mlP ml A T F c := by
  obtain ⟨⟨yl, al⟩, ag, t9⟩ := fs_A h oY oR l p tb.2
  have clo := mv_clo (r := A.r) (T := T) (c := c) oY (fun j hj => by rw [← tb.2 j hj]; exact ty_320 g.1 j)
  refine ⟨⟨yl, al, ?_⟩, ag, clo, ⟨fun j hj => (t9 j).trans (tb.1 j hj), fun j hj => by rw [← tb.1 j hj]; exact ty_319 g.1 j⟩, oR c hc.1 hc.2, hc⟩
  obtain ⟨m1, cp, f5, -⟩ := p
  rw [f5 284 18 (by decide), cp.2.2 284 18 (by decide) (by decide)]
  exact l
theorem ml_N {m m2 : Mm} {A : Ab} {T F : Nat → Int} {c : Int} (w : mlP m A T F c) (f : n32 m m2) : (4 ≤ A.Y 0 * A.Y 1 ∧ A.Y 0 * A.Y 1 ≤ 25) ∧ 24 * (rd m2 293 (Int.toNat (rd m2 284 18)) * rd m2 294 (Int.toNat (rd m2 284 18))) = 24 * (A.Y 0 * A.Y 1) := by
  have y := w.1.1.1.1
  have o := w.1.1.2.2.1
  refine ⟨wh_b o.1 o.2.1, ?_⟩
  rw [f 284 18 (by decide), f 293 _ (by decide), f 294 _ (by decide), y.1, y.2.1]
theorem ml_mA {m m2 : Mm} {A : Ab} {T F : Nat → Int} {c : Int} (w : mlP m A T F c) (f : n32 m m2) : mA m2 A := mA_fr w.1.2.1 w.1.2.2 (fun i j q => f i j (by unfold plR at q; omega))
theorem ml_k {m m2 : Mm} {A : Ab} {T F : Nat → Int} {c s t v : Int} (w : mlP m A T F c) (f : ∀ j : Nat, rd m2 323 j = rd m 323 j) (f9 : ∀ j : Nat, rd m2 319 j = rd m 319 j) (hs : 0 ≤ s ∧ s < 600) (ht : 0 ≤ t ∧ t ≤ 5) (ev : v = rd m2 323 (Int.toNat (25 + 6 * c + rd m2 319 (Int.toNat (6 * (s % 24) + t))))) : v = mkN A.r F c s t := by
  obtain ⟨⟨y, -⟩, -, -, ⟨f1, f2⟩, -, hc⟩ := w
  have y3 := y.2.2.1.2.2
  have b := f2 (Int.toNat (s % 24 * 6 + t)) (by omega)
  rw [f, f9, show Int.toNat (6 * (s % 24) + t) = Int.toNat (s % 24 * 6 + t) by omega, f1 _ (by omega), y.2.1 _ (by omega)] at ev
  rw [ev]
  unfold mkN
  exact congrArg A.r (by omega)
/-! numbers by ten -/
theorem te_d (n : Nat) {x : Int} (h : n ≤ 5) (hx : 0 ≤ x) : x / te n % 10 = x % te (n + 1) / te n ∧ x % te (n + 1) % te n = x % te n ∧ x / te (n + 1) = x / te n / 10 := by
  have t0 : te 0 = 1 := by decide
  have t1 : te 1 = 10 := by decide
  have t2 : te 2 = 100 := by decide
  have t3 : te 3 = 1000 := by decide
  have t4 : te 4 = 10000 := by decide
  have t5 : te 5 = 100000 := by decide
  have t6 : te 6 = 1000000 := by decide
  have h6 : n = 0 ∨ n = 1 ∨ n = 2 ∨ n = 3 ∨ n = 4 ∨ n = 5 := by omega
  rcases h6 with rfl | rfl | rfl | rfl | rfl | rfl
  · rw [show 0 + 1 = 1 from rfl, t0, t1]; omega
  · rw [show 1 + 1 = 2 from rfl, t1, t2]; omega
  · rw [show 2 + 1 = 3 from rfl, t2, t3]; omega
  · rw [show 3 + 1 = 4 from rfl, t3, t4]; omega
  · rw [show 4 + 1 = 5 from rfl, t4, t5]; omega
  · rw [show 5 + 1 = 6 from rfl, t5, t6]; omega
theorem te_z (n : Nat) {x : Int} (h : n ≤ 6) (hx : 0 ≤ x) : x / te n ≤ 0 ↔ x < te n := by
  have b := te_b n h
  constructor
  · intro w
    have e := Int.mul_ediv_add_emod x (te n)
    have l := Int.emod_lt_of_pos x (show 0 < te n by omega)
    have q0 := Int.ediv_nonneg hx (show 0 ≤ te n by omega)
    rw [show x / te n = 0 by omega, Int.mul_zero] at e
    omega
  · intro w
    rw [Int.ediv_eq_zero_of_lt hx w]
    exact Int.le_refl _
theorem spS_cg {mv : Int → Int → Int} {mk : Int → Int} {d s : Int} {u u2 : Int → Int} : ∀ k : Nat, (∀ j : Nat, j < k → ¬ mv s (j : Int) = -1 → u (mv s (j : Int)) = u2 (mv s (j : Int))) → spS mv mk d u s k = spS mv mk d u2 s k
  | 0, _ => rfl
  | k + 1, h => by
    have ih := spS_cg (mk := mk) (d := d) k (fun j hj => h j (by omega))
    show (if mv s (k : Int) = -1 then spS mv mk d u s k else if mk (mv s (k : Int)) = d then wr (spS mv mk d u s k + u (mv s (k : Int))) else spS mv mk d u s k) = if mv s (k : Int) = -1 then spS mv mk d u2 s k else if mk (mv s (k : Int)) = d then wr (spS mv mk d u2 s k + u2 (mv s (k : Int))) else spS mv mk d u2 s k
    by_cases q : mv s (k : Int) = -1
    · rw [if_pos q, if_pos q]; exact ih
    · rw [if_neg q, if_neg q, ih, h k (by omega) q]
/-! the loops -/
def sqK (m26 m : Mm) (c x2 x5 : Int) : Prop := n32 m26 m ∧ ∀ A T F, mlP m26 A T F c → ∀ s : Int, 0 ≤ s → s < 24 * (A.Y 0 * A.Y 1) → rd m 332 (Int.toNat s) = spF (mvN A.Y A.r T c) (fun s => mkN A.r F c s 1) (Int.toNat x5) s (x2 % te (Int.toNat x5))
def sqI (m26 m60 m : Mm) (c d x : Int) : Prop := (n32 m26 m ∧ ∀ j : Nat, rd m 332 j = rd m60 332 j) ∧ ∀ A T F, mlP m26 A T F c → ∀ s : Int, 0 ≤ s → s < x → s < 24 * (A.Y 0 * A.Y 1) → rd m 333 (Int.toNat s) = spS (mvN A.Y A.r T c) (fun s => mkN A.r F c s 1) d (fun t => rd m60 332 (Int.toNat t)) s 4
def sqJ (m26 m60 m : Mm) (c d x y : Int) : Prop := sqI m26 m60 m c d x ∧ ∀ A T F, mlP m26 A T F c → x < 24 * (A.Y 0 * A.Y 1) → rd m 333 (Int.toNat x) = spS (mvN A.Y A.r T c) (fun s => mkN A.r F c s 1) d (fun t => rd m60 332 (Int.toNat t)) x (Int.toNat y)
theorem sq_f {m m1 m2 : Mm} {x z : Int} (d : n32 m m1 ∧ ∀ j : Nat, (j : Int) < x → rd m1 332 j = 1) (h : 0 ≤ x ∧ z = x + 1) (e : m2 = wt m1 332 (Int.toNat x) 1) : n32 m m2 ∧ ∀ j : Nat, (j : Int) < z → rd m2 332 j = 1 := by
  refine ⟨fun i j n => by rw [e, rd_wt, if_neg (fun w => n (Or.inl w.1))]; exact d.1 i j n, fun j hj => ?_⟩
  rw [e, rd_wt]
  by_cases c : j = Int.toNat x
  · rw [if_pos ⟨rfl, c⟩]; rfl
  · rw [if_neg (fun w => c w.2)]
    exact d.2 j (by omega)
theorem sq_i {m m1 : Mm} {c x x2 : Int} (d : n32 m m1 ∧ ∀ j : Nat, (j : Int) < x → rd m1 332 j = 1) (h : 600 ≤ x) : sqK m m1 c x2 0 := by
  refine ⟨d.1, fun A T F w s h0 h1 => ?_⟩
  have b := (ml_N w d.1).1
  exact d.2 _ (by omega)
theorem sq_a {m26 m60 : Mm} {c d : Int} (f : n32 m26 m60) : sqI m26 m60 m60 c d 0 := ⟨⟨f, fun _ => rfl⟩, fun A T F w s h0 h1 => by omega⟩
theorem sq_b {m26 m60 m m85 : Mm} {c d x : Int} (k : sqI m26 m60 m c d x) (h : 0 ≤ x) (e : m85 = wt m 333 (Int.toNat x) 0) : sqJ m26 m60 m85 c d x 0 := by
  refine ⟨⟨⟨fun i j n => by rw [e, rd_wt, if_neg (fun w => n (Or.inr w.1))]; exact k.1.1 i j n, fun j => by rw [e, rd_wt, if_neg (by omega)]; exact k.1.2 j⟩, fun A T F w s h0 h1 h2 => ?_⟩, fun A T F w _ => ?_⟩
  · rw [e, rd_wt, if_neg (by omega)]
    exact k.2 A T F w s h0 h1 h2
  · rw [e, rd_wt, if_pos ⟨rfl, rfl⟩]
    rfl
section SQ
variable {m26 m60 m m2 : Mm} {c d x y z v : Int}
theorem sq_v {A : Ab} {T F : Nat → Int} (w : mlP m26 A T F c) (f : n32 m26 m) (hx : 0 ≤ x ∧ x < 24 * (A.Y 0 * A.Y 1)) (hy : 0 ≤ y ∧ y ≤ 3) (ez : z = rd m 325 (Int.toNat (4 * x + y))) : z = mvN A.Y A.r T c x y ∧ (z = -1 ∨ (0 ≤ z ∧ z < 24 * (A.Y 0 * A.Y 1))) := by
  have e := w.2.1 x y hx.1 hx.2 hy.1 hy.2
  rw [f 325 _ (by decide)] at ez
  have cl := w.2.2.1 x y hx.1 hx.2 hy.1 hy.2
  rw [← e, ← ez] at cl
  exact ⟨ez.trans e, cl⟩
theorem sq_0 (k : sqJ m26 m60 m c d x y) (h : 0 ≤ x ∧ (0 ≤ y ∧ y ≤ 3)) (ez : z = rd m 325 (Int.toNat (4 * x + y))) (n : z < 0) : sqJ m26 m60 m c d x (y + 1) := by
  refine ⟨k.1, fun A T F w hx => ?_⟩
  have q := sq_v w k.1.1.1 ⟨h.1, hx⟩ h.2 ez
  rw [show Int.toNat (y + 1) = Int.toNat y + 1 by omega]
  exact sp_0 (k.2 A T F w hx) h.2.1 q.1 (by omega)
theorem sq_1 (k : sqJ m26 m60 m c d x y) (h : 0 ≤ x ∧ (0 ≤ y ∧ y ≤ 3)) (ez : z = rd m 325 (Int.toNat (4 * x + y))) (n : 0 ≤ z ∧ z < 600) (ev : v = rd m 323 (Int.toNat (25 + 6 * c + rd m 319 (Int.toNat (6 * (z % 24) + 1))))) (ne : ¬ v = d) : sqJ m26 m60 m c d x (y + 1) := by
  refine ⟨k.1, fun A T F w hx => ?_⟩
  have q := sq_v w k.1.1.1 ⟨h.1, hx⟩ h.2 ez
  rw [show Int.toNat (y + 1) = Int.toNat y + 1 by omega]
  exact sp_1 (k.2 A T F w hx) h.2.1 q.1 (by omega) (ml_k w (fun j => k.1.1.1 323 j (by decide)) (fun j => k.1.1.1 319 j (by decide)) n (by decide) ev) ne
theorem sq_2 (k : sqJ m26 m60 m c d x y) (h : 0 ≤ x ∧ (0 ≤ y ∧ y ≤ 3)) (ez : z = rd m 325 (Int.toNat (4 * x + y))) (n : 0 ≤ z ∧ z < 600) (ev : v = rd m 323 (Int.toNat (25 + 6 * c + rd m 319 (Int.toNat (6 * (z % 24) + 1))))) (eq : v = d) (e : m2 = wt m 333 (Int.toNat x) (wr (rd m 333 (Int.toNat x) + rd m 332 (Int.toNat z)))) : sqJ m26 m60 m2 c d x (y + 1) := by
  refine ⟨⟨⟨fun i j n => by rw [e, rd_wt, if_neg (fun w => n (Or.inr w.1))]; exact k.1.1.1 i j n, fun j => by rw [e, rd_wt, if_neg (by omega)]; exact k.1.1.2 j⟩, fun A T F w s h0 h1 h2 => ?_⟩, fun A T F w hx => ?_⟩
  · rw [e, rd_wt, if_neg (by omega)]
    exact k.1.2 A T F w s h0 h1 h2
  · have q := sq_v w k.1.1.1 ⟨h.1, hx⟩ h.2 ez
    rw [show Int.toNat (y + 1) = Int.toNat y + 1 by omega]
    refine sp_2 (k.2 A T F w hx) h.2.1 q.1 (by omega) (ml_k w (fun j => k.1.1.1 323 j (by decide)) (fun j => k.1.1.1 319 j (by decide)) n (by decide) ev) eq (k.1.1.2 (Int.toNat z)) ?_
    rw [e, rd_wt, if_pos ⟨rfl, rfl⟩, wr_i (wr_rg _)]
theorem sq_c (_k : sqJ m26 m60 m c d x y) (r : sqJ m26 m60 m2 c d x (y + 1)) (h : z = y + 1) : sqJ m26 m60 m2 c d x z := by
  rw [h]
  exact r
theorem sq_d (k : sqJ m26 m60 m c d x y) (h : y = 4) (ez : z = x + 1) : sqI m26 m60 m c d z := by
  refine ⟨k.1.1, fun A T F w s h0 h1 h2 => ?_⟩
  by_cases q : s < x
  · exact k.1.2 A T F w s h0 q h2
  · have e : s = x := by omega
    subst e
    have t := k.2 A T F w h2
    rw [h] at t
    exact t
theorem sq_n {x2 x4 x5 z4 z5 : Int} (e : x4 = x2 / te (Int.toNat x5)) (h : (0 ≤ x5 ∧ x5 ≤ 5) ∧ 0 ≤ x2) (e4 : z4 = x4 / 10) (e5 : z5 = x5 + 1) : z4 = x2 / te (Int.toNat z5) := by
  rw [show Int.toNat z5 = Int.toNat x5 + 1 by omega, (te_d (Int.toNat x5) (x := x2) (by omega) h.2).2.2, e4, e]
theorem sq_e {m160 : Mm} {x2 x4 x5 z5 v72 : Int} (K : sqK m26 m60 c x2 x5) (e4 : x4 = x2 / te (Int.toNat x5)) (k : sqI m26 m60 m c (x4 % 10) x) (ev : v72 = 24 * (rd m 293 (Int.toNat (rd m 284 18)) * rd m 294 (Int.toNat (rd m 284 18)))) (hv : v72 ≤ x) (km : kmP m m160) (h : (0 ≤ x5 ∧ x5 ≤ 5) ∧ 0 ≤ x2) (e5 : z5 = x5 + 1) : sqK m26 m160 c x2 z5 := by
  refine ⟨fun i j n => (km.1 i j (fun w => n (Or.inl w))).trans (k.1.1 i j n), fun A T F w s h0 h1 => ?_⟩
  have en := (ml_N w k.1.1).2
  have t := te_d (Int.toNat x5) (x := x2) (by omega) h.2
  rw [km.2 _ (by omega), k.2 A T F w s h0 (by omega) h1, show Int.toNat z5 = Int.toNat x5 + 1 by omega]
  show _ = spS (mvN A.Y A.r T c) (fun s => mkN A.r F c s 1) (x2 % te (Int.toNat x5 + 1) / te (Int.toNat x5)) (fun t => spF (mvN A.Y A.r T c) (fun s => mkN A.r F c s 1) (Int.toNat x5) t (x2 % te (Int.toNat x5 + 1) % te (Int.toNat x5))) s 4
  rw [← t.1, t.2.1, ← e4]
  refine spS_cg 4 (fun j hj n => ?_)
  have cl := w.2.2.1 s (j : Int) h0 h1 (by omega) (by omega)
  exact K.2 A T F w _ (by omega) (by omega)
end SQ
theorem sq_l {m : Mm} {i j : Nat} {x1 : Int} (ei : i = Int.toNat (24 * rd m 323 j)) (ej : j = Int.toNat (43 + x1)) : rd m 332 i = rd m 332 (Int.toNat (24 * rd m 323 (Int.toNat (43 + x1)))) := by
  subst ej
  subst ei
  rfl
theorem spe_M {m26 m : Mm} {A : Ab} {T F : Nat → Int} {x1 x2 x3 x4 x5 s : Int} (w : mlP m26 A T F x1) (h3 : 1 ≤ x3 ∧ x3 ≤ 6) (h2 : 0 ≤ x2) (K : sqK m26 m x1 x2 x5) (e4 : x4 = x2 / te (Int.toNat x5)) (h5 : x5 = x3) (r : (x4 ≤ 0 ∧ s = rd m 332 (Int.toNat (24 * rd m 323 (Int.toNat (43 + x1))))) ∨ (¬ x4 ≤ 0 ∧ s = -1)) : s = speA A T F x1 x2 x3 ∧ mA m A := by
  subst h5
  have z := te_z (Int.toNat x5) (by omega) h2
  have y3 := w.1.1.2.2.1.2.2
  have hc := w.2.2.2.2.2
  have o := w.2.2.2.2.1
  rw [← e4] at z
  refine ⟨?_, ml_mA w K.1⟩
  unfold speA
  rcases r with ⟨a, b⟩ | ⟨a, b⟩
  · have l := z.mp a
    rw [if_pos ⟨⟨hc, h3⟩, h2, l⟩, b, K.1 323 _ (by decide), w.1.1.2.1 _ (by omega)]
    have t := K.2 A T F w (24 * fC A.r x1) (by omega) (by omega)
    rw [Int.emod_eq_of_lt h2 l] at t
    exact t
  · rw [if_neg (fun q => a (z.mpr q.2.2)), b]
theorem spe_Mn {m m22 : Mm} {A : Ab} {T F : Nat → Int} {x1 x2 x3 : Int} (h : mA m A) (e : m22 = m) (n : ¬ (0 ≤ x1 ∧ x1 < rd m 302 (Int.toNat (rd m 284 18))) ∨ ¬ (1 ≤ x3 ∧ x3 ≤ 6) ∨ x2 < 0) : (-1 : Int) = speA A T F x1 x2 x3 ∧ mA m22 A := by
  subst e
  rw [h.1.1.2.2.2.1] at n
  refine ⟨?_, h⟩
  unfold speA
  rw [if_neg (by omega)]
-- TippedCratesModel.standings()I
set_option maxRecDepth 20000 in
theorem my_247 {m : Mm}   (T_m : Ty m)  (p0 : MW m) : CK 2 247 [.ref 284] m (fun m2 v => m2 = m ∧ ((96 ≤ v ∧ v ≤ 600) ∧ (v = 24 * (rd m 293 (Int.toNat (rd m 284 18)) * rd m 294 (Int.toNat (rd m 284 18)))))) := by
  refine br_247  ?_
  unfold P_247
  refine CK.mono (ct_208   T_m p0) (by decide) ?_
  rintro m3 v3 r_v3 ⟨e_m3, h_m3⟩
  replace e_m3 := e_m3.symm
  subst e_m3
  try have w1 : wr (24 * v3) = 24 * v3 := wr_id (by omega) (by omega)
  exact ⟨rfl, by exact ⟨by first | trivial | omega | (refine ⟨?_, ?_⟩ <;> omega), by have a := h_m3.1; omega⟩⟩
-- TippedCratesModel.keepsMore()V
set_option maxRecDepth 20000 in
theorem my_258 {m0 m : Mm}   (g_m : G m0 m)  (p0 : MW m0) : CV 3 258 [.ref 284] m (fun m2 => G m0 m2 ∧ ((True) ∧ (kmP m m2))) := by
  refine br_258  ?_
  unfold P_258
  refine ⟨fun x1_2 m_2 => G m0 m_2 ∧ ((0 ≤ x1_2 ∧ x1_2 ≤ 600) ∧ (n3q m m_2 ∧ ∀ j : Nat, (j : Int) < x1_2 → rd m_2 332 j = rd m 333 j)), fun x1_2 m_2 => Int.toNat (600 - x1_2), ?_, ?_⟩
  · exact ⟨g_m, by exact ⟨by first | omega | (refine ⟨?_, ?_⟩ <;> omega) | trivial, by exact ⟨fun _ _ _ => rfl, fun j hj => by omega⟩⟩⟩
  · intro x1_2 m_2 r_x1_2 hI_2
    obtain ⟨g_m_2, hI_2⟩ := hI_2
    obtain ⟨hI_2, dI_2⟩ := hI_2
    refine CK.mono (my_247   g_m_2.1 (MW_G p0 g_m_2)) (by decide) ?_
    rintro m4 v4 r_v4 ⟨e_m4, h_m4⟩
    replace e_m4 := e_m4.symm
    subst e_m4
    refine ⟨fun hq => ?_, fun hq => ?_⟩
    · skip
      exact ⟨g_m_2, by exact ⟨by first | trivial | omega | (refine ⟨?_, ?_⟩ <;> omega), by exact ⟨dI_2.1, fun j hj => dI_2.2 j (by have a := h_m4.2; rw [kmo_n dI_2.1] at a; omega)⟩⟩⟩
    · skip
      refine ⟨⟨by omega, by omega⟩, ?_⟩
      refine ⟨⟨by omega, by omega⟩, ?_⟩
      intro m21 e_m21
      have g_m21 : G m0 m21 := by rw [e_m21]; exact GX.wt g_m_2 (tw_332 g_m_2.1 (rd_rg _ _ _)) (Eq.refl true)
      try have w2 : wr (x1_2 + 1) = x1_2 + 1 := wr_id (by omega) (by omega)
      intro z1_22 e_z1_22
      have r_z1_22 : rg z1_22 := by rw [e_z1_22]; exact wr_rg _
      exact ⟨⟨g_m21, by exact ⟨by first | omega | (refine ⟨?_, ?_⟩ <;> omega) | trivial, by exact km_s dI_2 (by omega) e_m21⟩⟩, by (try dsimp only); omega⟩
-- TippedCratesModel.spell(III)I
set_option maxRecDepth 20000 in
theorem my_262 {m0 m : Mm} {x1 : Int} {x2 : Int} {x3 : Int}  (g_m : G m0 m) (r_x1 : rg x1) (r_x2 : rg x2) (r_x3 : rg x3) (p0 : MW m0) : CK 5 262 [.ref 284, iv x1, iv x2, iv x3] m (fun m2 v => G m0 m2 ∧ ((True) ∧ (∀ A T F, okY A.Y → okR A.Y A.r → mA m A → tbR m 319 320 F T → v = speA A T F x1 x2 x3 ∧ mA m2 A))) := by
  refine br_262 r_x1 r_x2 r_x3 ?_
  unfold P_262
  refine CK.mono (ct_210   g_m.1 r_x1) (by decide) ?_
  rintro m2 v2 r_v2 ⟨e_m2, h_m2⟩
  replace e_m2 := e_m2.symm
  subst e_m2
  refine ⟨fun m_22 => G m0 m_22 ∧ (m_22 = m ∧ (¬ (0 ≤ x1 ∧ x1 < rd m 302 (Int.toNat (rd m 284 18))) ∨ ¬ (1 ≤ x3 ∧ x3 ≤ 6) ∨ x2 < 0)), ?_, ?_⟩
  · skip
    refine ⟨fun hq => ?_, fun hq => ?_⟩
    · skip
      exact ⟨g_m, by exact ⟨rfl, by omega⟩⟩
    · skip
      refine CK.mono (ct_206   r_x3 (by unfold rg; decide) (by unfold rg; decide)) (by decide) ?_
      rintro m12 v12 r_v12 ⟨e_m12, h_m12⟩
      replace e_m12 := e_m12.symm
      subst e_m12
      refine ⟨fun hq => ?_, fun hq => ?_⟩
      · skip
        exact ⟨g_m, by exact ⟨rfl, by omega⟩⟩
      · skip
        refine ⟨fun hq => ?_, fun hq => ?_⟩
        · skip
          refine CV.mono (my_246   g_m r_x1 p0 (by omega)) (by decide) ?_
          rintro m26 ⟨g_m26, h_m26⟩
          refine ⟨fun x4_32 m_32 => G m0 m_32 ∧ ((0 ≤ x4_32 ∧ x4_32 ≤ 600) ∧ (n32 m26 m_32 ∧ ∀ j : Nat, (j : Int) < x4_32 → rd m_32 332 j = 1)), fun x4_32 m_32 => Int.toNat (600 - x4_32), ?_, ?_⟩
          · exact ⟨g_m26, by exact ⟨by first | omega | (refine ⟨?_, ?_⟩ <;> omega) | trivial, by exact ⟨fun _ _ _ => rfl, fun j hj => by omega⟩⟩⟩
          · intro x4_32 m_32 r_x4_32 hI_32
            obtain ⟨g_m_32, hI_32⟩ := hI_32
            obtain ⟨hI_32, dI_32⟩ := hI_32
            refine ⟨fun hq => ?_, fun hq => ?_⟩
            · skip
              refine ⟨fun x4_60 x5_60 m_60 => G m0 m_60 ∧ ((0 ≤ x5_60 ∧ x5_60 ≤ 6) ∧ (x5_60 ≤ x3 ∧ sqK m26 m_60 x1 x2 x5_60 ∧ x4_60 = x2 / te (Int.toNat x5_60))), fun x4_60 x5_60 m_60 => Int.toNat (6 - x5_60), ?_, ?_⟩
              · exact ⟨g_m_32, by exact ⟨by first | omega | (refine ⟨?_, ?_⟩ <;> omega) | trivial, by exact ⟨by omega, sq_i dI_32 (by omega), (Int.ediv_one x2).symm⟩⟩⟩
              · intro x4_60 x5_60 m_60 r_x4_60 r_x5_60 hI_60
                obtain ⟨g_m_60, hI_60⟩ := hI_60
                obtain ⟨hI_60, dI_60⟩ := hI_60
                have n60 : 0 ≤ x4_60 := by rw [dI_60.2.2]; exact Int.ediv_nonneg (by omega) (by have := te_b (Int.toNat x5_60) (by omega); omega)
                refine ⟨fun hq => ?_, fun hq => ?_⟩
                · skip
                  refine ⟨fun s0_202 => (x4_60 ≤ 0 ∧ s0_202 = rd m_60 332 (Int.toNat (24 * rd m_60 323 (Int.toNat (43 + x1))))) ∨ (¬ x4_60 ≤ 0 ∧ s0_202 = -1), ?_, ?_⟩
                  · skip
                    refine ⟨fun hq => ?_, fun hq => ?_⟩
                    · skip
                      try have w1 : wr (43 + x1) = 43 + x1 := wr_id (by omega) (by omega)
                      refine ⟨⟨by omega, by omega⟩, ?_⟩
                      have t2 := tr_323 g_m_60.1 (Int.toNat (wr (43 + x1)))
                      try have w3 : wr (24 * (rd m_60 323 (Int.toNat (wr (43 + x1))))) = 24 * (rd m_60 323 (Int.toNat (wr (43 + x1)))) := wr_id (by omega) (by omega)
                      refine ⟨⟨by omega, by omega⟩, ?_⟩
                      (first | exact Or.inr ⟨by assumption, rfl⟩ | exact Or.inl ⟨by assumption, sq_l (j := Int.toNat (wr (43 + x1))) (by omega) (by omega)⟩)
                    · skip
                      (first | exact Or.inr ⟨by assumption, rfl⟩ | exact Or.inl ⟨by assumption, sq_l (j := Int.toNat (wr (43 + x1))) (by omega) (by omega)⟩)
                  · intro s0_202 r_s0_202 hR_202
                    exact ⟨g_m_60, by exact ⟨by first | trivial | omega | (refine ⟨?_, ?_⟩ <;> omega), by first | (have u := hR_202; exact fun A T F oY oR h tb => spe_M (ml_A h oY oR (ty_284_18 g_m.1) (te_x h oY (by omega)) tb g_m h_m26.2) (by omega) (by omega) dI_60.2.1 dI_60.2.2 (by omega) hR_202) | exact fun A T F oY oR h tb => spe_Mn h hR_22.1 hR_22.2⟩⟩
                · skip
                  refine ⟨fun x6_69 m_69 => G m0 m_69 ∧ ((0 ≤ x6_69 ∧ x6_69 ≤ 600) ∧ (sqI m26 m_60 m_69 x1 (x4_60 % 10) x6_69)), fun x6_69 m_69 => Int.toNat (600 - x6_69), ?_, ?_⟩
                  · exact ⟨g_m_60, by exact ⟨by first | omega | (refine ⟨?_, ?_⟩ <;> omega) | trivial, by exact sq_a dI_60.2.1.1⟩⟩
                  · intro x6_69 m_69 r_x6_69 hI_69
                    obtain ⟨g_m_69, hI_69⟩ := hI_69
                    obtain ⟨hI_69, dI_69⟩ := hI_69
                    refine CK.mono (my_247   g_m_69.1 (MW_G p0 g_m_69)) (by decide) ?_
                    rintro m72 v72 r_v72 ⟨e_m72, h_m72⟩
                    replace e_m72 := e_m72.symm
                    subst e_m72
                    refine ⟨fun hq => ?_, fun hq => ?_⟩
                    · skip
                      refine CV.mono (my_258   g_m_69 p0) (by decide) ?_
                      rintro m160 ⟨g_m160, h_m160⟩
                      try have q5 : dvI x4_60 10 = x4_60 / 10 := dv_eq (by omega) (by omega) (by omega) (by omega)
                      intro z4_168 e_z4_168
                      have r_z4_168 : rg z4_168 := by rw [e_z4_168]; exact (io_rg _ _ _)
                      try have w6 : wr (x5_60 + 1) = x5_60 + 1 := wr_id (by omega) (by omega)
                      intro z5_170 e_z5_170
                      have r_z5_170 : rg z5_170 := by rw [e_z5_170]; exact wr_rg _
                      exact ⟨⟨g_m160, by exact ⟨by first | omega | (refine ⟨?_, ?_⟩ <;> omega) | trivial, by exact ⟨by omega, sq_e dI_60.2.1 dI_60.2.2 dI_69 h_m72.2 (by omega) h_m160.2 (by omega) (by omega), sq_n dI_60.2.2 (by omega) (by omega) (by omega)⟩⟩⟩, by (try dsimp only); omega⟩
                    · skip
                      refine ⟨⟨by omega, by omega⟩, ?_⟩
                      intro m85 e_m85
                      have g_m85 : G m0 m85 := by rw [e_m85]; exact GX.wt g_m_69 (tw_333 g_m_69.1 (by first | assumption | omega)) (Eq.refl true)
                      refine ⟨fun x7_89 m_89 => G m0 m_89 ∧ ((0 ≤ x7_89 ∧ x7_89 ≤ 4) ∧ (sqJ m26 m_60 m_89 x1 (x4_60 % 10) x6_69 x7_89)), fun x7_89 m_89 => Int.toNat (4 - x7_89), ?_, ?_⟩
                      · exact ⟨g_m85, by exact ⟨by first | omega | (refine ⟨?_, ?_⟩ <;> omega) | trivial, by exact sq_b dI_69 (by omega) e_m85⟩⟩
                      · intro x7_89 m_89 r_x7_89 hI_89
                        obtain ⟨g_m_89, hI_89⟩ := hI_89
                        obtain ⟨hI_89, dI_89⟩ := hI_89
                        refine ⟨fun hq => ?_, fun hq => ?_⟩
                        · skip
                          try have w7 : wr (x6_69 + 1) = x6_69 + 1 := wr_id (by omega) (by omega)
                          intro z6_153 e_z6_153
                          have r_z6_153 : rg z6_153 := by rw [e_z6_153]; exact wr_rg _
                          exact ⟨⟨g_m_89, by exact ⟨by first | omega | (refine ⟨?_, ?_⟩ <;> omega) | trivial, by exact sq_d dI_89 (by omega) (by omega)⟩⟩, by (try dsimp only); omega⟩
                        · skip
                          try have w8 : wr (4 * x6_69) = 4 * x6_69 := wr_id (by omega) (by omega)
                          try have w9 : wr ((wr (4 * x6_69)) + x7_89) = (wr (4 * x6_69)) + x7_89 := wr_id (by omega) (by omega)
                          refine ⟨⟨by omega, by omega⟩, ?_⟩
                          have t10 := ty_325 g_m_89.1 (Int.toNat (wr ((wr (4 * x6_69)) + x7_89)))
                          intro z8_107 e_z8_107
                          have r_z8_107 : rg z8_107 := by rw [e_z8_107]; exact (rd_rg _ _ _)
                          refine ⟨fun m_147 => G m0 m_147 ∧ (sqJ m26 m_60 m_147 x1 (x4_60 % 10) x6_69 (x7_89 + 1)), ?_, ?_⟩
                          · skip
                            refine ⟨fun hq => ?_, fun hq => ?_⟩
                            · skip
                              exact ⟨g_m_89, by first | (have u := e_m146; exact sq_2 dI_89 (by omega) (e_z8_107.trans (congrArg (rd m_89 325) (by omega))) (by omega) h_m119.2 (by omega) e_m146) | (have u := h_m119; exact sq_1 dI_89 (by omega) (e_z8_107.trans (congrArg (rd m_89 325) (by omega))) (by omega) h_m119.2 (by omega)) | exact sq_0 dI_89 (by omega) (e_z8_107.trans (congrArg (rd m_89 325) (by omega))) (by omega)⟩
                            · skip
                              refine CK.mono (my_248   g_m_89.1 r_x1 r_z8_107 (by unfold rg; decide) (by omega) (by omega) (by omega)) (by decide) ?_
                              rintro m119 v119 r_v119 ⟨e_m119, h_m119⟩
                              replace e_m119 := e_m119.symm
                              subst e_m119
                              try have q11 : rmI x4_60 10 = x4_60 % 10 := rm_eq (by omega) (by omega) (by omega) (by omega)
                              refine ⟨fun hq => ?_, fun hq => ?_⟩
                              · skip
                                exact ⟨g_m_89, by first | (have u := e_m146; exact sq_2 dI_89 (by omega) (e_z8_107.trans (congrArg (rd m_89 325) (by omega))) (by omega) h_m119.2 (by omega) e_m146) | (have u := h_m119; exact sq_1 dI_89 (by omega) (e_z8_107.trans (congrArg (rd m_89 325) (by omega))) (by omega) h_m119.2 (by omega)) | exact sq_0 dI_89 (by omega) (e_z8_107.trans (congrArg (rd m_89 325) (by omega))) (by omega)⟩
                              · skip
                                refine ⟨⟨by omega, by omega⟩, ?_⟩
                                refine ⟨⟨by omega, by omega⟩, ?_⟩
                                refine ⟨⟨by omega, by omega⟩, ?_⟩
                                try have w14 : wr ((rd m_89 333 (Int.toNat x6_69)) + (rd m_89 332 (Int.toNat z8_107))) = (rd m_89 333 (Int.toNat x6_69)) + (rd m_89 332 (Int.toNat z8_107)) := wr_id (by omega) (by omega)
                                intro m146 e_m146
                                have g_m146 : G m0 m146 := by rw [e_m146]; exact GX.wt g_m_89 (tw_333 g_m_89.1 (wr_rg _)) (Eq.refl true)
                                exact ⟨g_m146, by first | (have u := e_m146; exact sq_2 dI_89 (by omega) (e_z8_107.trans (congrArg (rd m_89 325) (by omega))) (by omega) h_m119.2 (by omega) e_m146) | (have u := h_m119; exact sq_1 dI_89 (by omega) (e_z8_107.trans (congrArg (rd m_89 325) (by omega))) (by omega) h_m119.2 (by omega)) | exact sq_0 dI_89 (by omega) (e_z8_107.trans (congrArg (rd m_89 325) (by omega))) (by omega)⟩
                          · intro m_147  hR_147
                            obtain ⟨g_m_147, hR_147⟩ := hR_147
                            try have w15 : wr (x7_89 + 1) = x7_89 + 1 := wr_id (by omega) (by omega)
                            intro z7_147 e_z7_147
                            have r_z7_147 : rg z7_147 := by rw [e_z7_147]; exact wr_rg _
                            exact ⟨⟨g_m_147, by exact ⟨by first | omega | (refine ⟨?_, ?_⟩ <;> omega) | trivial, by exact sq_c dI_89 hR_147 (by omega)⟩⟩, by (try dsimp only); omega⟩
            · skip
              refine ⟨⟨by omega, by omega⟩, ?_⟩
              intro m47 e_m47
              have g_m47 : G m0 m47 := by rw [e_m47]; exact GX.wt g_m_32 (tw_332 g_m_32.1 (by first | assumption | omega)) (Eq.refl true)
              try have w16 : wr (x4_32 + 1) = x4_32 + 1 := wr_id (by omega) (by omega)
              intro z4_48 e_z4_48
              have r_z4_48 : rg z4_48 := by rw [e_z4_48]; exact wr_rg _
              exact ⟨⟨g_m47, by exact ⟨by first | omega | (refine ⟨?_, ?_⟩ <;> omega) | trivial, by exact sq_f dI_32 (by omega) e_m47⟩⟩, by (try dsimp only); omega⟩
        · skip
          exact ⟨g_m, by exact ⟨rfl, by omega⟩⟩
  · intro m_22  hR_22
    obtain ⟨g_m_22, hR_22⟩ := hR_22
    exact ⟨g_m_22, by exact ⟨by first | trivial | omega | (refine ⟨?_, ?_⟩ <;> omega), by first | (have u := hR_202; exact fun A T F oY oR h tb => spe_M (ml_A h oY oR (ty_284_18 g_m.1) (te_x h oY (by omega)) tb g_m h_m26.2) (by omega) (by omega) dI_60.2.1 dI_60.2.2 (by omega) hR_202) | exact fun A T F oY oR h tb => spe_Mn h hR_22.1 hR_22.2⟩⟩
