/-- digits, as ints take them -/
def dgW (g : Nat → Int) : Nat → Int
  | 0 => 0
  | n + 1 => wr (wr (dgW g n * 10) + g n)
theorem dgW_cg {f g : Nat → Int} : ∀ n : Nat, (∀ t, t < n → f t = g t) → dgW f n = dgW g n
  | 0, _ => rfl
  | n + 1, h => by
    show wr (wr (dgW f n * 10) + f n) = wr (wr (dgW g n * 10) + g n)
    rw [dgW_cg n (fun t ht => h t (by omega)), h n (by omega)]
/-- six digits tell which they are -/
def sixD (g : Nat → Int) : Prop := ∀ t : Nat, t < 6 → 0 ≤ g t ∧ g t ≤ 9
theorem dg_6 {g : Nat → Int} (h : sixD g) : dgW g 6 = 100000 * g 0 + 10000 * g 1 + 1000 * g 2 + 100 * g 3 + 10 * g 4 + g 5 := by
  have h0 := h 0 (by decide)
  have h1 := h 1 (by decide)
  have h2 := h 2 (by decide)
  have h3 := h 3 (by decide)
  have h4 := h 4 (by decide)
  have h5 := h 5 (by decide)
  have e1 : dgW g 1 = g 0 := by
    show wr (wr (0 * 10) + g 0) = g 0
    rw [wr_id (x := 0 * 10) (by omega) (by omega), wr_id (by omega) (by omega)]
    omega
  have e2 : dgW g 2 = 10 * g 0 + g 1 := by
    show wr (wr (dgW g 1 * 10) + g 1) = _
    rw [e1, wr_id (x := g 0 * 10) (by omega) (by omega), wr_id (by omega) (by omega)]
    omega
  have e3 : dgW g 3 = 100 * g 0 + 10 * g 1 + g 2 := by
    show wr (wr (dgW g 2 * 10) + g 2) = _
    rw [e2, wr_id (x := (10 * g 0 + g 1) * 10) (by omega) (by omega), wr_id (by omega) (by omega)]
    omega
  have e4 : dgW g 4 = 1000 * g 0 + 100 * g 1 + 10 * g 2 + g 3 := by
    show wr (wr (dgW g 3 * 10) + g 3) = _
    rw [e3, wr_id (x := (100 * g 0 + 10 * g 1 + g 2) * 10) (by omega) (by omega), wr_id (by omega) (by omega)]
    omega
  have e5 : dgW g 5 = 10000 * g 0 + 1000 * g 1 + 100 * g 2 + 10 * g 3 + g 4 := by
    show wr (wr (dgW g 4 * 10) + g 4) = _
    rw [e4, wr_id (x := (1000 * g 0 + 100 * g 1 + 10 * g 2 + g 3) * 10) (by omega) (by omega), wr_id (by omega) (by omega)]
    omega
  show wr (wr (dgW g 5 * 10) + g 5) = _
  rw [e5, wr_id (x := (10000 * g 0 + 1000 * g 1 + 100 * g 2 + 10 * g 3 + g 4) * 10) (by omega) (by omega), wr_id (by omega) (by omega)]
  omega
theorem dg_inj {f g : Nat → Int} (hf : sixD f) (hg : sixD g) : dgW f 6 = dgW g 6 ↔ ∀ t : Nat, t < 6 → f t = g t := by
  constructor
  · intro e
    rw [dg_6 hf, dg_6 hg] at e
    have f0 := hf 0 (by decide)
    have f1 := hf 1 (by decide)
    have f2 := hf 2 (by decide)
    have f3 := hf 3 (by decide)
    have f4 := hf 4 (by decide)
    have f5 := hf 5 (by decide)
    have g0 := hg 0 (by decide)
    have g1 := hg 1 (by decide)
    have g2 := hg 2 (by decide)
    have g3 := hg 3 (by decide)
    have g4 := hg 4 (by decide)
    have g5 := hg 5 (by decide)
    intro t ht
    have h6 : t = 0 ∨ t = 1 ∨ t = 2 ∨ t = 3 ∨ t = 4 ∨ t = 5 := by omega
    rcases h6 with rfl | rfl | rfl | rfl | rfl | rfl <;> omega
  · exact fun h => dgW_cg 6 h
/-- the marks of crate x2 in row b, lying as x3 -/
def lkG (m : Mm) (b : Nat) (x2 x3 : Int) (t : Nat) : Int := rd m b (Int.toNat (x2 * 6 + rd m 32 (Int.toNat (x3 * 6 + (t : Int)))))
theorem dgw_s {m : Mm} {b q p : Nat} {x2 x3 x4 x5 z4 z5 : Int} (d : x4 = dgW (lkG m b x2 x3) (Int.toNat x5)) (h : 0 ≤ x5 ∧ z5 = x5 + 1) (eq : q = Int.toNat (x3 * 6 + x5)) (ep : p = Int.toNat (x2 * 6 + rd m 32 q)) (e : z4 = wr (wr (x4 * 10) + rd m b p)) : z4 = dgW (lkG m b x2 x3) (Int.toNat z5) := by
  subst eq
  subst ep
  rw [show Int.toNat z5 = Int.toNat x5 + 1 by omega]
  show z4 = wr (wr (dgW (lkG m b x2 x3) (Int.toNat x5) * 10) + rd m b (Int.toNat (x2 * 6 + rd m 32 (Int.toNat (x3 * 6 + ((Int.toNat x5 : Nat) : Int))))))
  rw [← d, Int.toNat_of_nonneg h.1]
  exact e
def mirT (t : Nat) : Nat := if t = 4 then 5 else if t = 5 then 4 else t
def mrG (m : Mm) (b : Nat) (x2 : Int) (t : Nat) : Int := rd m b (Int.toNat (x2 * 6 + (mirT t : Int)))
theorem mg_s {m : Mm} {b p : Nat} {x2 x3 x4 z3 z4 : Int} (d : x3 = dgW (mrG m b x2) (Int.toNat x4)) (h : (0 ≤ x4 ∧ x4 < 4) ∧ z4 = x4 + 1) (ep : p = Int.toNat (x2 * 6 + x4)) (e : z3 = wr (wr (x3 * 10) + rd m b p)) : z3 = dgW (mrG m b x2) (Int.toNat z4) := by
  subst ep
  have k : mirT (Int.toNat x4) = Int.toNat x4 := by
    unfold mirT
    rw [if_neg (by omega), if_neg (by omega)]
  rw [show Int.toNat z4 = Int.toNat x4 + 1 by omega]
  show z3 = wr (wr (dgW (mrG m b x2) (Int.toNat x4) * 10) + rd m b (Int.toNat (x2 * 6 + (mirT (Int.toNat x4) : Int))))
  rw [← d, k, Int.toNat_of_nonneg h.1.1]
  exact e
theorem mg_e {m : Mm} {b p q : Nat} {x2 x3 x4 z3 : Int} (d : x3 = dgW (mrG m b x2) (Int.toNat x4)) (h : x4 = 4) (e : z3 = wr (wr (x3 * 10) + rd m b p)) (ep : p = Int.toNat (x2 * 6 + 5)) (eq : q = Int.toNat (x2 * 6 + 4)) : wr (wr (z3 * 10) + rd m b q) = dgW (mrG m b x2) 6 := by
  subst ep
  subst eq
  subst h
  have k4 : mrG m b x2 4 = rd m b (Int.toNat (x2 * 6 + 5)) := by
    unfold mrG
    rw [show ((mirT 4 : Nat) : Int) = 5 from by decide]
  have k5 : mrG m b x2 5 = rd m b (Int.toNat (x2 * 6 + 4)) := by
    unfold mrG
    rw [show ((mirT 5 : Nat) : Int) = 4 from by decide]
  have d2 : x3 = dgW (mrG m b x2) 4 := d
  show _ = wr (wr (wr (wr (dgW (mrG m b x2) 4 * 10) + mrG m b x2 4) * 10) + mrG m b x2 5)
  rw [k4, k5, ← d2, ← e]
/-- looks of all ways to lie, up to x -/
def lrP (m m2 : Mm) (b : Nat) (x2 x : Int) : Prop := (∀ i j : Nat, ¬ i = 35 → rd m2 i j = rd m i j) ∧ ∀ l : Nat, (l : Int) < x → rd m2 35 l = dgW (lkG m b x2 (l : Int)) 6
theorem lkG_fr {m m2 : Mm} {b : Nat} {x2 x3 : Int} (h : ∀ i j : Nat, ¬ i = 35 → rd m2 i j = rd m i j) (hb : ¬ b = 35) : lkG m2 b x2 x3 = lkG m b x2 x3 := funext fun t => by
  unfold lkG
  rw [h 32 _ (by decide), h b _ hb]
theorem lr_s {m m1 m2 : Mm} {b : Nat} {x2 x z v : Int} (d : lrP m m1 b x2 x) (hb : ¬ b = 35) (h : 0 ≤ x ∧ z = x + 1) (ev : v = dgW (lkG m1 b x2 x) 6) (rv : rg v) (e : m2 = wt m1 35 (Int.toNat x) v) : lrP m m2 b x2 z := by
  refine ⟨fun i j q => by rw [e, rd_wt, if_neg (fun w => q w.1)]; exact d.1 i j q, fun l hl => ?_⟩
  rw [e, rd_wt]
  by_cases q : l = Int.toNat x
  · rw [if_pos ⟨rfl, q⟩, wr_i rv, ev, lkG_fr d.1 hb, q, Int.toNat_of_nonneg h.1]
  · rw [if_neg (fun w => q w.2)]
    exact d.2 l (by omega)
/-- whether x is seen among the first n -/
def seP (m : Mm) (x n v : Int) : Prop := (v = 1 ∧ ∃ l : Nat, (l : Int) < n ∧ rd m 35 l = x) ∨ (v = 0 ∧ ∀ l : Nat, (l : Int) < n → ¬ rd m 35 l = x)
theorem se_k {m : Mm} {x y z : Int} (d : ∀ l : Nat, (l : Int) < y → ¬ rd m 35 l = x) (h : 0 ≤ y ∧ z = y + 1) (n : ¬ rd m 35 (Int.toNat y) = x) : ∀ l : Nat, (l : Int) < z → ¬ rd m 35 l = x := fun l hl w => by
  by_cases q : (l : Int) < y
  · exact d l q w
  · rw [show l = Int.toNat y by omega] at w
    exact n w
def sbF (g : Nat → Int) (x : Int) : Nat → Int
  | 0 => 0
  | n + 1 => if g n = x then 1 else sbF g x n
theorem sb_1 {g : Nat → Int} {x : Int} : ∀ n : Nat, (∃ l, l < n ∧ g l = x) → sbF g x n = 1
  | 0, ⟨l, h, _⟩ => absurd h (Nat.not_lt_zero l)
  | n + 1, ⟨l, h, e⟩ => by
    show (if g n = x then (1 : Int) else sbF g x n) = 1
    by_cases q : g n = x
    · rw [if_pos q]
    · rw [if_neg q]
      exact sb_1 n ⟨l, by
        have : ¬ l = n := fun w => q (by rw [← w]; exact e)
        omega, e⟩
theorem sb_0 {g : Nat → Int} {x : Int} : ∀ n : Nat, (∀ l, l < n → ¬ g l = x) → sbF g x n = 0
  | 0, _ => rfl
  | n + 1, h => by
    show (if g n = x then (1 : Int) else sbF g x n) = 0
    rw [if_neg (h n (by omega))]
    exact sb_0 n (fun l hl => h l (by omega))
theorem sb_cg {f g : Nat → Int} {x : Int} : ∀ n : Nat, (∀ l, l < n → f l = g l) → sbF f x n = sbF g x n
  | 0, _ => rfl
  | n + 1, h => by
    show (if f n = x then (1 : Int) else sbF f x n) = if g n = x then (1 : Int) else sbF g x n
    rw [h n (by omega), sb_cg n (fun l hl => h l (by omega))]
theorem se_sb {m : Mm} {g : Nat → Int} {x y v : Int} (w : seP m x y v) (h : ∀ l : Nat, (l : Int) < y → rd m 35 l = g l) : v = sbF g x (Int.toNat y) := by
  rcases w with ⟨a, l, b, c⟩ | ⟨a, b⟩
  · rw [a]
    exact (sb_1 _ ⟨l, by omega, (h l b).symm.trans c⟩).symm
  · rw [a]
    exact (sb_0 _ (fun l hl e => b l (by omega) ((h l (by omega)).trans e))).symm
/-- how many kinds among the first n -/
def cntF (g : Nat → Int) : Nat → Int
  | 0 => 0
  | n + 1 => if sbF g (g n) n = 1 then cntF g n else cntF g n + 1
theorem cnt_b {g : Nat → Int} : ∀ n : Nat, 0 ≤ cntF g n ∧ cntF g n ≤ (n : Int)
  | 0 => ⟨Int.le_refl 0, Int.le_refl 0⟩
  | n + 1 => by
    have b := cnt_b (g := g) n
    show 0 ≤ (if sbF g (g n) n = 1 then cntF g n else cntF g n + 1) ∧ (if sbF g (g n) n = 1 then cntF g n else cntF g n + 1) ≤ ((n + 1 : Nat) : Int)
    split <;> omega
theorem cnt_cg {f g : Nat → Int} : ∀ n : Nat, (∀ l, l < n → f l = g l) → cntF f n = cntF g n
  | 0, _ => rfl
  | n + 1, h => by
    show (if sbF f (f n) n = 1 then cntF f n else cntF f n + 1) = if sbF g (g n) n = 1 then cntF g n else cntF g n + 1
    rw [h n (by omega), sb_cg n (fun l hl => h l (by omega)), cnt_cg n (fun l hl => h l (by omega))]
theorem cn_s {m : Mm} {x1 x2 z2 y v : Int} (d : x1 = cntF (rd m 35) (Int.toNat x2)) (h : (0 ≤ x2 ∧ x2 < 24) ∧ z2 = x2 + 1) (w : seP m (rd m 35 (Int.toNat x2)) x2 v) (r : (v = 1 ∧ y = wr x1) ∨ (v = 0 ∧ y = wr (x1 + 1))) : y = cntF (rd m 35) (Int.toNat z2) := by
  have b := cnt_b (g := rd m 35) (Int.toNat x2)
  have e := se_sb (g := rd m 35) w (fun _ _ => rfl)
  rw [show Int.toNat z2 = Int.toNat x2 + 1 by omega]
  show y = if sbF (rd m 35) (rd m 35 (Int.toNat x2)) (Int.toNat x2) = 1 then cntF (rd m 35) (Int.toNat x2) else cntF (rd m 35) (Int.toNat x2) + 1
  rw [← e, ← d]
  rw [← d] at b
  rcases r with ⟨r1, r2⟩ | ⟨r1, r2⟩
  · rw [if_pos r1, r2]
    exact wr_id (by omega) (by omega)
  · rw [if_neg (by omega), r2]
    exact wr_id (by omega) (by omega)
/-! .. of a crate -/
def lkN (r : Ro) (F : Nat → Int) (c : Int) (l t : Nat) : Int := r (Int.toNat (25 + (c * 6 + F (Int.toNat ((l : Int) * 6 + (t : Int))))))
def mrN (r : Ro) (c : Int) (t : Nat) : Int := r (Int.toNat (25 + (c * 6 + (mirT t : Int))))
def alA (A : Ab) (F : Nat → Int) (x1 x2 : Int) : Int := if (0 ≤ x1 ∧ x1 < A.Y 3) ∧ 0 ≤ x2 ∧ x2 < A.Y 3 then sbF (fun l => dgW (lkN A.r F x1 l) 6) (dgW (lkN A.r F x2 0) 6) 24 else -1
def looA (A : Ab) (F : Nat → Int) (x1 : Int) : Int := if 0 ≤ x1 ∧ x1 < A.Y 3 then cntF (fun l => dgW (lkN A.r F x1 l) 6) 24 else -1
def mirA (A : Ab) (F : Nat → Int) (x1 : Int) : Int := if 0 ≤ x1 ∧ x1 < A.Y 3 then sbF (fun l => dgW (lkN A.r F x1 l) 6) (dgW (mrN A.r x1) 6) 24 else -1
section LKC
variable {m m30 : Mm} {A : Ab} {F : Nat → Int} {x1 x2 v w s : Int}
theorem lk_C (h : cA m A) (T : Ty m) (hc : 0 ≤ x1 ∧ x1 < A.Y 3) (tb : ∀ j : Nat, j < 144 → rd m 32 j = F j) {l : Nat} (hl : l < 24) : dgW (lkG m 277 x1 (l : Int)) 6 = dgW (lkN A.r F x1 l) 6 := by
  refine dgW_cg 6 (fun t ht => ?_)
  have b := ty_32 T (Int.toNat ((l : Int) * 6 + (t : Int)))
  unfold lkG lkN
  rw [← tb _ (by omega)]
  exact h.2.2.1.2.2.2.2.1 _ (by omega) (by omega)
theorem mr_C (h : cA m A) (hc : 0 ≤ x1 ∧ x1 < A.Y 3) : dgW (mrG m 277 x1) 6 = dgW (mrN A.r x1) 6 := by
  refine dgW_cg 6 (fun t ht => ?_)
  have b : mirT t ≤ 5 := by
    unfold mirT
    split
    · omega
    · split <;> omega
  unfold mrG mrN
  exact h.2.2.1.2.2.2.2.1 _ (by omega) (by omega)
theorem al_C (h : cA m A) (T : Ty m) (hc : 0 ≤ x1 ∧ x1 < A.Y 3) (hd : 0 ≤ x2 ∧ x2 < A.Y 3) (tb : ∀ j : Nat, j < 144 → rd m 32 j = F j) (p : lrP m m30 277 x1 24) (q : v = dgW (lkG m30 277 x2 0) 6) (k : seP m30 v 24 w) (e : (w = 0 ∧ s = 0) ∨ (¬ w = 0 ∧ s = 1)) : s = alA A F x1 x2 := by
  have k2 := se_sb (g := fun l => dgW (lkN A.r F x1 l) 6) k (fun l hl => (p.2 l hl).trans (lk_C h T hc tb (by omega)))
  rw [lkG_fr p.1 (by decide)] at q
  have q2 := q.trans (lk_C h T hd tb (l := 0) (by decide))
  unfold alA
  rw [if_pos ⟨hc, hd⟩, ← q2]
  have k3 : w = sbF (fun l => dgW (lkN A.r F x1 l) 6) v 24 := k2
  rw [← k3]
  rcases k with ⟨a, -⟩ | ⟨a, -⟩ <;> omega
theorem al_n (h : cA m A) (hc : ¬ (0 ≤ x1 ∧ x1 ≤ rd m 7 3 - 1) ∨ ¬ (0 ≤ x2 ∧ x2 ≤ rd m 7 3 - 1)) : (-1 : Int) = alA A F x1 x2 := by
  rw [h.1.1.2.2.2.1] at hc
  unfold alA
  rw [if_neg (by omega)]
theorem lo_C (h : cA m A) (T : Ty m) (hc : 0 ≤ x1 ∧ x1 < A.Y 3) (tb : ∀ j : Nat, j < 144 → rd m 32 j = F j) (p : lrP m m30 277 x1 24) (q : v = cntF (rd m30 35) 24) : v = looA A F x1 := by
  unfold looA
  rw [if_pos hc, q]
  exact cnt_cg 24 (fun l hl => (p.2 l (by omega)).trans (lk_C h T hc tb hl))
theorem lo_n (hc : ¬ (0 ≤ x1 ∧ x1 < A.Y 3)) : (-1 : Int) = looA A F x1 := by
  unfold looA
  rw [if_neg hc]
theorem mi_C (h : cA m A) (T : Ty m) (hc : 0 ≤ x1 ∧ x1 < A.Y 3) (tb : ∀ j : Nat, j < 144 → rd m 32 j = F j) (p : lrP m m30 277 x1 24) (q : v = dgW (mrG m30 277 x1) 6) (k : seP m30 v 24 w) (e : (w = 0 ∧ s = 0) ∨ (¬ w = 0 ∧ s = 1)) : s = mirA A F x1 := by
  have k2 := se_sb (g := fun l => dgW (lkN A.r F x1 l) 6) k (fun l hl => (p.2 l hl).trans (lk_C h T hc tb (by omega)))
  have e9 : dgW (mrG m30 277 x1) 6 = dgW (mrG m 277 x1) 6 := dgW_cg 6 (fun t _ => p.1 277 _ (by decide))
  have q2 := (q.trans e9).trans (mr_C h hc)
  unfold mirA
  rw [if_pos hc, ← q2]
  have k3 : w = sbF (fun l => dgW (lkN A.r F x1 l) 6) v 24 := k2
  rw [← k3]
  rcases k with ⟨a, -⟩ | ⟨a, -⟩ <;> omega
theorem mi_n (hc : ¬ (0 ≤ x1 ∧ x1 < A.Y 3)) : (-1 : Int) = mirA A F x1 := by
  unfold mirA
  rw [if_neg hc]
end LKC
-- TippedCrates$Turns.lookOf([III)I
set_option maxRecDepth 20000 in
theorem fy_98 {m : Mm} {b n : Nat} {x2 : Int} {x3 : Int}  (T_m : Ty m) (h_b : isR n b) (r_x2 : rg x2) (r_x3 : rg x3) (p0 : 0 ≤ x2 ∧ x2 ≤ 2) (p1 : 0 ≤ x3 ∧ x3 ≤ 23) (p2 : n = 18) : CK 1 98 [.ref 31, .ref b, iv x2, iv x3] m (fun m2 v => m2 = m ∧ ((True) ∧ (v = dgW (lkG m b x2 x3) 6))) := by
  refine br_98 h_b r_x2 r_x3 ?_
  unfold P_98
  subst p2
  refine ⟨fun x4_6 x5_6 => (0 ≤ x5_6 ∧ x5_6 ≤ 6) ∧ (x4_6 = dgW (lkG m b x2 x3) (Int.toNat x5_6)), fun x4_6 x5_6 => Int.toNat (6 - x5_6), ?_, ?_⟩
  · (exact ⟨by first | omega | (refine ⟨?_, ?_⟩ <;> omega) | trivial, by exact rfl⟩)
  · intro x4_6 x5_6 r_x4_6 r_x5_6 hI_6
    obtain ⟨hI_6, dI_6⟩ := hI_6
    refine ⟨fun hq => ?_, fun hq => ?_⟩
    · skip
      exact ⟨rfl, by exact ⟨by first | trivial | omega | (refine ⟨?_, ?_⟩ <;> omega), by rw [show Int.toNat x5_6 = 6 by omega] at dI_6; exact dI_6⟩⟩
    · skip
      try have w1 : wr (x3 * 6) = x3 * 6 := wr_id (by omega) (by omega)
      try have w2 : wr ((wr (x3 * 6)) + x5_6) = (wr (x3 * 6)) + x5_6 := wr_id (by omega) (by omega)
      refine ⟨⟨by omega, by omega⟩, ?_⟩
      try have w3 : wr (x2 * 6) = x2 * 6 := wr_id (by omega) (by omega)
      have t4 := ty_32 T_m (Int.toNat (wr ((wr (x3 * 6)) + x5_6)))
      try have w5 : wr ((wr (x2 * 6)) + (rd m 32 (Int.toNat (wr ((wr (x3 * 6)) + x5_6))))) = (wr (x2 * 6)) + (rd m 32 (Int.toNat (wr ((wr (x3 * 6)) + x5_6)))) := wr_id (by omega) (by omega)
      refine ⟨⟨by omega, by omega⟩, ?_⟩
      try have w6 : wr (x4_6 * 10) = x4_6 * 10 := wr_id (by omega) (by omega)
      try have w8 : wr ((wr (x4_6 * 10)) + (rd m b (Int.toNat (wr ((wr (x2 * 6)) + (rd m 32 (Int.toNat (wr ((wr (x3 * 6)) + x5_6))))))))) = (wr (x4_6 * 10)) + (rd m b (Int.toNat (wr ((wr (x2 * 6)) + (rd m 32 (Int.toNat (wr ((wr (x3 * 6)) + x5_6)))))))) := wr_id (by omega) (by omega)
      intro z4_38 e_z4_38
      have r_z4_38 : rg z4_38 := by rw [e_z4_38]; exact (wr_rg _)
      try have w9 : wr (x5_6 + 1) = x5_6 + 1 := wr_id (by omega) (by omega)
      intro z5_40 e_z5_40
      have r_z5_40 : rg z5_40 := by rw [e_z5_40]; exact wr_rg _
      exact ⟨by exact ⟨by first | omega | (refine ⟨?_, ?_⟩ <;> omega) | trivial, by exact dgw_s (q := Int.toNat (wr ((wr (x3 * 6)) + x5_6))) dI_6 (by omega) (by omega) (by omega) e_z4_38⟩, by (try dsimp only); omega⟩
-- TippedCrates$Turns.mirroredLook([II)I
set_option maxRecDepth 20000 in
theorem fy_99 {m : Mm} {b n : Nat} {x2 : Int}  (T_m : Ty m) (h_b : isR n b) (r_x2 : rg x2) (p0 : 0 ≤ x2 ∧ x2 ≤ 2) (p1 : n = 18) : CK 1 99 [.ref 31, .ref b, iv x2] m (fun m2 v => m2 = m ∧ ((True) ∧ (v = dgW (mrG m b x2) 6))) := by
  refine br_99 h_b r_x2 ?_
  unfold P_99
  subst p1
  refine ⟨fun x3_5 x4_5 => (0 ≤ x4_5 ∧ x4_5 ≤ 4) ∧ (x3_5 = dgW (mrG m b x2) (Int.toNat x4_5)), fun x3_5 x4_5 => Int.toNat (4 - x4_5), ?_, ?_⟩
  · (exact ⟨by first | omega | (refine ⟨?_, ?_⟩ <;> omega) | trivial, by exact rfl⟩)
  · intro x3_5 x4_5 r_x3_5 r_x4_5 hI_5
    obtain ⟨hI_5, dI_5⟩ := hI_5
    refine ⟨fun hq => ?_, fun hq => ?_⟩
    · skip
      try have w1 : wr (x2 * 6) = x2 * 6 := wr_id (by omega) (by omega)
      try have w2 : wr ((wr (x2 * 6)) + 5) = (wr (x2 * 6)) + 5 := wr_id (by omega) (by omega)
      refine ⟨⟨by omega, by omega⟩, ?_⟩
      try have w3 : wr (x3_5 * 10) = x3_5 * 10 := wr_id (by omega) (by omega)
      try have w5 : wr ((wr (x3_5 * 10)) + (rd m b (Int.toNat (wr ((wr (x2 * 6)) + 5))))) = (wr (x3_5 * 10)) + (rd m b (Int.toNat (wr ((wr (x2 * 6)) + 5)))) := wr_id (by omega) (by omega)
      intro z3_45 e_z3_45
      have r_z3_45 : rg z3_45 := by rw [e_z3_45]; exact (wr_rg _)
      try have w6 : wr ((wr (x2 * 6)) + 4) = (wr (x2 * 6)) + 4 := wr_id (by omega) (by omega)
      refine ⟨⟨by omega, by omega⟩, ?_⟩
      try have w7 : wr (z3_45 * 10) = z3_45 * 10 := wr_id (by omega) (by omega)
      try have w9 : wr ((wr (z3_45 * 10)) + (rd m b (Int.toNat (wr ((wr (x2 * 6)) + 4))))) = (wr (z3_45 * 10)) + (rd m b (Int.toNat (wr ((wr (x2 * 6)) + 4)))) := wr_id (by omega) (by omega)
      exact ⟨rfl, by exact ⟨by first | trivial | omega | (refine ⟨?_, ?_⟩ <;> omega), by exact mg_e dI_5 (by omega) e_z3_45 (by omega) (by omega)⟩⟩
    · skip
      try have w10 : wr (x2 * 6) = x2 * 6 := wr_id (by omega) (by omega)
      try have w11 : wr ((wr (x2 * 6)) + x4_5) = (wr (x2 * 6)) + x4_5 := wr_id (by omega) (by omega)
      refine ⟨⟨by omega, by omega⟩, ?_⟩
      try have w12 : wr (x3_5 * 10) = x3_5 * 10 := wr_id (by omega) (by omega)
      try have w14 : wr ((wr (x3_5 * 10)) + (rd m b (Int.toNat (wr ((wr (x2 * 6)) + x4_5))))) = (wr (x3_5 * 10)) + (rd m b (Int.toNat (wr ((wr (x2 * 6)) + x4_5)))) := wr_id (by omega) (by omega)
      intro z3_25 e_z3_25
      have r_z3_25 : rg z3_25 := by rw [e_z3_25]; exact (wr_rg _)
      try have w15 : wr (x4_5 + 1) = x4_5 + 1 := wr_id (by omega) (by omega)
      intro z4_26 e_z4_26
      have r_z4_26 : rg z4_26 := by rw [e_z4_26]; exact wr_rg _
      exact ⟨by exact ⟨by first | omega | (refine ⟨?_, ?_⟩ <;> omega) | trivial, by exact mg_s dI_5 (by omega) (by omega) e_z3_25⟩, by (try dsimp only); omega⟩
-- TippedCrates$Turns.lookRound([II)V
set_option maxRecDepth 20000 in
theorem fy_100 {m0 m : Mm} {b n : Nat} {x2 : Int}  (g_m : G m0 m) (h_b : isR n b) (r_x2 : rg x2) (p0 : 0 ≤ x2 ∧ x2 ≤ 2) (p1 : n = 18) (p2 : ¬ b = 35) : CV 2 100 [.ref 31, .ref b, iv x2] m (fun m2 => G m0 m2 ∧ ((True) ∧ (lrP m m2 b x2 24))) := by
  refine br_100 h_b r_x2 ?_
  unfold P_100
  refine ⟨fun x3_2 m_2 => G m0 m_2 ∧ ((0 ≤ x3_2 ∧ x3_2 ≤ 24) ∧ (lrP m m_2 b x2 x3_2)), fun x3_2 m_2 => Int.toNat (24 - x3_2), ?_, ?_⟩
  · exact ⟨g_m, by exact ⟨by first | omega | (refine ⟨?_, ?_⟩ <;> omega) | trivial, by exact ⟨fun _ _ _ => rfl, fun l hl => by omega⟩⟩⟩
  · intro x3_2 m_2 r_x3_2 hI_2
    obtain ⟨g_m_2, hI_2⟩ := hI_2
    obtain ⟨hI_2, dI_2⟩ := hI_2
    refine ⟨fun hq => ?_, fun hq => ?_⟩
    · skip
      exact ⟨g_m_2, by exact ⟨by first | trivial | omega | (refine ⟨?_, ?_⟩ <;> omega), by exact ⟨dI_2.1, fun l hl => dI_2.2 l (by omega)⟩⟩⟩
    · skip
      refine CK.mono (fy_98   g_m_2.1 h_b r_x2 r_x3_2 (by omega) (by omega) (by omega)) (by decide) ?_
      rintro m17 v17 r_v17 ⟨e_m17, h_m17⟩
      replace e_m17 := e_m17.symm
      subst e_m17
      refine ⟨⟨by omega, by omega⟩, ?_⟩
      intro m20 e_m20
      have g_m20 : G m0 m20 := by rw [e_m20]; exact GX.wt g_m_2 (tw_35 g_m_2.1 (by first | assumption | omega)) (Eq.refl true)
      try have w1 : wr (x3_2 + 1) = x3_2 + 1 := wr_id (by omega) (by omega)
      intro z3_21 e_z3_21
      have r_z3_21 : rg z3_21 := by rw [e_z3_21]; exact wr_rg _
      exact ⟨⟨g_m20, by exact ⟨by first | omega | (refine ⟨?_, ?_⟩ <;> omega) | trivial, by exact lr_s dI_2 p2 (by omega) h_m17.2 r_v17 e_m20⟩⟩, by (try dsimp only); omega⟩
-- TippedCrates$Turns.seenBefore(II)Z
set_option maxRecDepth 20000 in
theorem fy_103 {m : Mm} {x1 : Int} {x2 : Int}  (T_m : Ty m) (r_x1 : rg x1) (r_x2 : rg x2) (p0 : x2 ≤ 24) : CK 1 103 [.ref 31, iv x1, iv x2] m (fun m2 v => m2 = m ∧ ((v = 0 ∨ v = 1) ∧ (seP m x1 x2 v))) := by
  refine br_103 r_x1 r_x2 ?_
  unfold P_103
  refine ⟨fun x3_2 => (0 ≤ x3_2 ∧ x3_2 ≤ 24) ∧ (∀ l : Nat, (l : Int) < x3_2 → ¬ rd m 35 l = x1), fun x3_2 => Int.toNat (24 - x3_2), ?_, ?_⟩
  · (exact ⟨by first | omega | (refine ⟨?_, ?_⟩ <;> omega) | trivial, by exact fun l hl => by omega⟩)
  · intro x3_2 r_x3_2 hI_2
    obtain ⟨hI_2, dI_2⟩ := hI_2
    refine ⟨fun hq => ?_, fun hq => ?_⟩
    · skip
      exact ⟨rfl, by exact ⟨by first | trivial | omega | (refine ⟨?_, ?_⟩ <;> omega), by first | exact Or.inr ⟨rfl, fun l hl => dI_2 l (by omega)⟩ | exact Or.inl ⟨rfl, Int.toNat x3_2, by omega, by assumption⟩⟩⟩
    · skip
      refine ⟨⟨by omega, by omega⟩, ?_⟩
      refine ⟨fun hq => ?_, fun hq => ?_⟩
      · skip
        try have w2 : wr (x3_2 + 1) = x3_2 + 1 := wr_id (by omega) (by omega)
        intro z3_19 e_z3_19
        have r_z3_19 : rg z3_19 := by rw [e_z3_19]; exact wr_rg _
        exact ⟨by exact ⟨by first | omega | (refine ⟨?_, ?_⟩ <;> omega) | trivial, by exact se_k dI_2 (by omega) (by assumption)⟩, by (try dsimp only); omega⟩
      · skip
        exact ⟨rfl, by exact ⟨by first | trivial | omega | (refine ⟨?_, ?_⟩ <;> omega), by first | exact Or.inr ⟨rfl, fun l hl => dI_2 l (by omega)⟩ | exact Or.inl ⟨rfl, Int.toNat x3_2, by omega, by assumption⟩⟩⟩
-- TippedCrates$Turns.canLook(I)Z
set_option maxRecDepth 20000 in
theorem fy_101 {m : Mm} {x1 : Int}  (T_m : Ty m) (r_x1 : rg x1)  : CK 2 101 [.ref 31, iv x1] m (fun m2 v => m2 = m ∧ ((v = 0 ∨ v = 1) ∧ (seP m x1 24 v))) := by
  refine br_101 r_x1 ?_
  unfold P_101
  refine CK.mono (fy_103   T_m r_x1 (by unfold rg; decide) (by omega)) (by decide) ?_
  rintro m4 v4 r_v4 ⟨e_m4, h_m4⟩
  replace e_m4 := e_m4.symm
  subst e_m4
  exact ⟨by omega, ⟨rfl, by exact ⟨by first | trivial | omega | (refine ⟨?_, ?_⟩ <;> omega), by exact h_m4.2⟩⟩⟩
-- TippedCrates$Turns.countLooks()I
set_option maxRecDepth 20000 in
theorem fy_102 {m : Mm}   (T_m : Ty m)   : CK 2 102 [.ref 31] m (fun m2 v => m2 = m ∧ ((True) ∧ (v = cntF (rd m 35) 24))) := by
  refine br_102  ?_
  unfold P_102
  refine ⟨fun x1_4 x2_4 m_4 => m_4 = m ∧ ((0 ≤ x2_4 ∧ x2_4 ≤ 24) ∧ (x1_4 = cntF (rd m 35) (Int.toNat x2_4))), fun x1_4 x2_4 m_4 => Int.toNat (24 - x2_4), ?_, ?_⟩
  · exact ⟨rfl, by exact ⟨by first | omega | (refine ⟨?_, ?_⟩ <;> omega) | trivial, by exact rfl⟩⟩
  · intro x1_4 x2_4 m_4 r_x1_4 r_x2_4 hI_4
    obtain ⟨e_m_4, hI_4⟩ := hI_4
    replace e_m_4 := e_m_4.symm
    subst e_m_4
    obtain ⟨hI_4, dI_4⟩ := hI_4
    refine ⟨fun hq => ?_, fun hq => ?_⟩
    · skip
      exact ⟨rfl, by exact ⟨by first | trivial | omega | (refine ⟨?_, ?_⟩ <;> omega), by rw [show Int.toNat x2_4 = 24 by omega] at dI_4; exact dI_4⟩⟩
    · skip
      refine ⟨⟨by omega, by omega⟩, ?_⟩
      refine CK.mono (fy_103   T_m (rd_rg _ _ _) r_x2_4 (by omega)) (by decide) ?_
      rintro m18 v18 r_v18 ⟨e_m18, h_m18⟩
      replace e_m18 := e_m18.symm
      subst e_m18
      refine ⟨fun y1_27 => (v18 = 1 ∧ y1_27 = wr x1_4) ∨ (v18 = 0 ∧ y1_27 = wr (x1_4 + 1)), ?_, ?_⟩
      · skip
        refine ⟨fun hq => ?_, fun hq => ?_⟩
        · skip
          (first | exact Or.inr ⟨by assumption, e_z1_24⟩ | exact Or.inl ⟨by have := h_m18.1; omega, (wr_i (by assumption)).symm⟩)
        · skip
          try have w2 : wr (x1_4 + 1) = x1_4 + 1 := wr_id (by omega) (by omega)
          intro z1_24 e_z1_24
          have r_z1_24 : rg z1_24 := by rw [e_z1_24]; exact wr_rg _
          (first | exact Or.inr ⟨by assumption, e_z1_24⟩ | exact Or.inl ⟨by have := h_m18.1; omega, (wr_i (by assumption)).symm⟩)
      · intro y1_27 r_y1_27 hR_27
        try have w3 : wr (x2_4 + 1) = x2_4 + 1 := wr_id (by omega) (by omega)
        intro z2_27 e_z2_27
        have r_z2_27 : rg z2_27 := by rw [e_z2_27]; exact wr_rg _
        exact ⟨⟨rfl, by exact ⟨by first | omega | (refine ⟨?_, ?_⟩ <;> omega) | trivial, by exact cn_s dI_4 (by omega) h_m18.2 hR_27⟩⟩, by (try dsimp only); omega⟩
-- TippedCrates.alike(II)I
set_option maxRecDepth 20000 in
theorem fy_144 {m0 m : Mm} {x1 : Int} {x2 : Int}  (g_m : G m0 m) (r_x1 : rg x1) (r_x2 : rg x2) (p0 : okS m 274) : CK 3 144 [.ref 0, iv x1, iv x2] m (fun m2 v => G m0 m2 ∧ ((True) ∧ (∀ A T F, cA m A → tbR m 32 33 F T → v = alA A F x1 x2))) := by
  refine br_144 r_x1 r_x2 ?_
  unfold P_144
  have ok := p0
  have okn := p0.1
  have t73 := ty_7_3 g_m.1
  refine CK.mono (ct_162   g_m.1 r_x1) (by decide) ?_
  rintro m2 v2 r_v2 ⟨e_m2, h_m2⟩
  replace e_m2 := e_m2.symm
  subst e_m2
  refine ⟨fun m_16 => G m0 m_16 ∧ (¬ (0 ≤ x1 ∧ x1 ≤ rd m 7 3 - 1) ∨ ¬ (0 ≤ x2 ∧ x2 ≤ rd m 7 3 - 1)), ?_, ?_⟩
  · skip
    refine ⟨fun hq => ?_, fun hq => ?_⟩
    · skip
      exact ⟨g_m, by omega⟩
    · skip
      refine CK.mono (ct_162   g_m.1 r_x2) (by decide) ?_
      rintro m10 v10 r_v10 ⟨e_m10, h_m10⟩
      replace e_m10 := e_m10.symm
      subst e_m10
      refine ⟨fun hq => ?_, fun hq => ?_⟩
      · skip
        refine CV.mono (fy_100   g_m (st_3 st_274) r_x1 (by omega) rfl (by omega)) (by decide) ?_
        rintro m30 ⟨g_m30, h_m30⟩
        refine CK.mono (fy_98   g_m30.1 (st_3 st_274) r_x2 (by unfold rg; decide) (by omega) (by omega) rfl) (by decide) ?_
        rintro m50 v50 r_v50 ⟨e_m50, h_m50⟩
        replace e_m50 := e_m50.symm
        subst e_m50
        refine CK.mono (fy_101   g_m30.1 r_v50) (by decide) ?_
        rintro m53 v53 r_v53 ⟨e_m53, h_m53⟩
        replace e_m53 := e_m53.symm
        subst e_m53
        refine ⟨fun s0_64 => (v53 = 0 ∧ s0_64 = 0) ∨ (¬ v53 = 0 ∧ s0_64 = 1), ?_, ?_⟩
        · skip
          refine ⟨fun hq => ?_, fun hq => ?_⟩
          · skip
            (first | exact Or.inl ⟨by assumption, rfl⟩ | exact Or.inr ⟨by assumption, rfl⟩)
          · skip
            (first | exact Or.inl ⟨by assumption, rfl⟩ | exact Or.inr ⟨by assumption, rfl⟩)
        · intro s0_64 r_s0_64 hR_64
          exact ⟨g_m30, by exact ⟨by first | trivial | omega | (refine ⟨?_, ?_⟩ <;> omega), by first | (have u := h_m53; exact fun A T F h tb => al_C h g_m.1 (te_Cx h (by omega)) (te_Cx h (by omega)) tb.1 h_m30.2 h_m50.2 h_m53.2 hR_64) | exact fun A T F h tb => al_n h hR_16⟩⟩
      · skip
        exact ⟨g_m, by omega⟩
  · intro m_16  hR_16
    obtain ⟨g_m_16, hR_16⟩ := hR_16
    exact ⟨g_m_16, by exact ⟨by first | trivial | omega | (refine ⟨?_, ?_⟩ <;> omega), by first | (have u := h_m53; exact fun A T F h tb => al_C h g_m.1 (te_Cx h (by omega)) (te_Cx h (by omega)) tb.1 h_m30.2 h_m50.2 h_m53.2 hR_64) | exact fun A T F h tb => al_n h hR_16⟩⟩
-- TippedCrates.looks(I)I
set_option maxRecDepth 20000 in
theorem fy_145 {m0 m : Mm} {x1 : Int}  (g_m : G m0 m) (r_x1 : rg x1) (p0 : okS m 274) : CK 3 145 [.ref 0, iv x1] m (fun m2 v => G m0 m2 ∧ ((True) ∧ (∀ A T F, cA m A → tbR m 32 33 F T → v = looA A F x1))) := by
  refine br_145 r_x1 ?_
  unfold P_145
  have ok := p0
  have okn := p0.1
  have t73 := ty_7_3 g_m.1
  refine CK.mono (ct_162   g_m.1 r_x1) (by decide) ?_
  rintro m2 v2 r_v2 ⟨e_m2, h_m2⟩
  replace e_m2 := e_m2.symm
  subst e_m2
  refine ⟨fun hq => ?_, fun hq => ?_⟩
  · skip
    refine CV.mono (fy_100   g_m (st_3 st_274) r_x1 (by omega) rfl (by omega)) (by decide) ?_
    rintro m22 ⟨g_m22, h_m22⟩
    refine CK.mono (fy_102   g_m22.1) (by decide) ?_
    rintro m29 v29 r_v29 ⟨e_m29, h_m29⟩
    replace e_m29 := e_m29.symm
    subst e_m29
    exact ⟨g_m22, by exact ⟨by first | trivial | omega | (refine ⟨?_, ?_⟩ <;> omega), by first | (have u := h_m29; exact fun A T F h tb => lo_C h g_m.1 (te_Cx h (by omega)) tb.1 h_m22.2 h_m29.2) | exact fun A T F h tb => lo_n (fun w => by have := h.1.1.2.2.2.1; omega)⟩⟩
  · skip
    exact ⟨g_m, by exact ⟨by first | trivial | omega | (refine ⟨?_, ?_⟩ <;> omega), by first | (have u := h_m29; exact fun A T F h tb => lo_C h g_m.1 (te_Cx h (by omega)) tb.1 h_m22.2 h_m29.2) | exact fun A T F h tb => lo_n (fun w => by have := h.1.1.2.2.2.1; omega)⟩⟩
-- TippedCrates.mirror(I)I
set_option maxRecDepth 20000 in
theorem fy_146 {m0 m : Mm} {x1 : Int}  (g_m : G m0 m) (r_x1 : rg x1) (p0 : okS m 274) : CK 3 146 [.ref 0, iv x1] m (fun m2 v => G m0 m2 ∧ ((True) ∧ (∀ A T F, cA m A → tbR m 32 33 F T → v = mirA A F x1))) := by
  refine br_146 r_x1 ?_
  unfold P_146
  have ok := p0
  have okn := p0.1
  have t73 := ty_7_3 g_m.1
  refine CK.mono (ct_162   g_m.1 r_x1) (by decide) ?_
  rintro m2 v2 r_v2 ⟨e_m2, h_m2⟩
  replace e_m2 := e_m2.symm
  subst e_m2
  refine ⟨fun hq => ?_, fun hq => ?_⟩
  · skip
    refine CV.mono (fy_100   g_m (st_3 st_274) r_x1 (by omega) rfl (by omega)) (by decide) ?_
    rintro m22 ⟨g_m22, h_m22⟩
    refine CK.mono (fy_99   g_m22.1 (st_3 st_274) r_x1 (by omega) rfl) (by decide) ?_
    rintro m41 v41 r_v41 ⟨e_m41, h_m41⟩
    replace e_m41 := e_m41.symm
    subst e_m41
    refine CK.mono (fy_101   g_m22.1 r_v41) (by decide) ?_
    rintro m44 v44 r_v44 ⟨e_m44, h_m44⟩
    replace e_m44 := e_m44.symm
    subst e_m44
    refine ⟨fun s0_55 => (v44 = 0 ∧ s0_55 = 0) ∨ (¬ v44 = 0 ∧ s0_55 = 1), ?_, ?_⟩
    · skip
      refine ⟨fun hq => ?_, fun hq => ?_⟩
      · skip
        (first | exact Or.inl ⟨by assumption, rfl⟩ | exact Or.inr ⟨by assumption, rfl⟩)
      · skip
        (first | exact Or.inl ⟨by assumption, rfl⟩ | exact Or.inr ⟨by assumption, rfl⟩)
    · intro s0_55 r_s0_55 hR_55
      exact ⟨g_m22, by exact ⟨by first | trivial | omega | (refine ⟨?_, ?_⟩ <;> omega), by first | (have u := h_m44; exact fun A T F h tb => mi_C h g_m.1 (te_Cx h (by omega)) tb.1 h_m22.2 h_m41.2 h_m44.2 hR_55) | exact fun A T F h tb => mi_n (fun w => by have := h.1.1.2.2.2.1; omega)⟩⟩
  · skip
    exact ⟨g_m, by exact ⟨by first | trivial | omega | (refine ⟨?_, ?_⟩ <;> omega), by first | (have u := h_m44; exact fun A T F h tb => mi_C h g_m.1 (te_Cx h (by omega)) tb.1 h_m22.2 h_m41.2 h_m44.2 hR_55) | exact fun A T F h tb => mi_n (fun w => by have := h.1.1.2.2.2.1; omega)⟩⟩
