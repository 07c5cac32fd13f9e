theorem gb_ext {a b : Int} (ha : rg a) (hb : rg b) (h : ∀ n : Nat, n < 32 → gb a n = gb b n) : a = b := by
  have e : Int32.ofInt a = Int32.ofInt b := Int32.toBitVec_inj.1 (BitVec.eq_of_getLsbD_eq h)
  rw [← to_of_rg ha, e, to_of_rg hb]
/-- where the model says that a crate can go is where it can -/
theorem cf_N {m : Mm} {Y r : Ro} {E : Lw} {c f k : Int} (y : YM m Y E r) (hf : 0 ≤ f ∧ f < Y 0 * Y 1) (hk : 0 ≤ k ∧ k ≤ 3) : (cfM m c f k → ¬ freN Y r c f k = -1 ∧ freN Y r c f k = nxN Y f k) ∧ (¬ cfM m c f k → freN Y r c f k = -1) := by
  have b := nx_b y.2.2.1 hf hk
  have y3 := y.2.2.1.2.2
  obtain ⟨y0, y1, y2, yc, -⟩ := y.1.1
  have rw3 := y.2.1
  have t : tknM m c (nxN Y f k) ↔ ((¬ c = 0 ∧ 1 ≤ Y 3 ∧ r 43 = nxN Y f k) ∨ (¬ c = 1 ∧ 2 ≤ Y 3 ∧ r 44 = nxN Y f k) ∨ (¬ c = 2 ∧ 3 ≤ Y 3 ∧ r 45 = nxN Y f k)) := by
    unfold tknM
    rw [yc]
    constructor
    · rintro ⟨o, o0, o1, o2, o3⟩
      have h3 : o = 0 ∨ o = 1 ∨ o = 2 := by omega
      rcases h3 with rfl | rfl | rfl
      · exact Or.inl ⟨fun z => o2 z.symm, by omega, (rw3 43 (by decide)).symm.trans o3⟩
      · exact Or.inr (Or.inl ⟨fun z => o2 z.symm, by omega, (rw3 44 (by decide)).symm.trans o3⟩)
      · exact Or.inr (Or.inr ⟨fun z => o2 z.symm, by omega, (rw3 45 (by decide)).symm.trans o3⟩)
    · rintro (⟨a, b, e⟩ | ⟨a, b, e⟩ | ⟨a, b, e⟩)
      · exact ⟨0, by omega, by omega, fun z => a z.symm, (rw3 43 (by decide)).trans e⟩
      · exact ⟨1, by omega, by omega, fun z => a z.symm, (rw3 44 (by decide)).trans e⟩
      · exact ⟨2, by omega, by omega, fun z => a z.symm, (rw3 45 (by decide)).trans e⟩
  have ec : cfM m c f k ↔ (¬ nxN Y f k < 0 ∧ ¬ anI (srI (Y 2) (nxN Y f k)) 1 = 1 ∧ ¬ tknM m c (nxN Y f k)) := by
    unfold cfM
    rw [y0, y1, y2]
    exact Iff.rfl
  rw [ec, t]
  constructor
  · rintro ⟨a1, a2, a3⟩
    have e : freN Y r c f k = nxN Y f k := by
      unfold freN
      rw [if_neg]
      rintro (w | w | w)
      · omega
      · exact a2 w
      · exact a3 w
    exact ⟨by rw [e]; omega, e⟩
  · intro n
    unfold freN
    rw [if_pos]
    apply Decidable.byContradiction
    intro w
    apply n
    refine ⟨fun z => w (Or.inl ?_), fun z => w (Or.inr (Or.inl z)), fun z => w (Or.inr (Or.inr z))⟩
    omega
theorem fs_A {m ml : Mm} {A : Ab} {T : Nat → Int} {c : Int} (h : mA m A) (oY : okY A.Y) (oR : okR A.Y A.r) (l : 0 ≤ rd m 284 18 ∧ rd m 284 18 ≤ 1) (p : fsP m ml c) (tb : ∀ j : Nat, j < 96 → rd m 320 j = T j) : (YM ml A.Y A.E A.r ∧ mA ml A) ∧ agL ml (mvN A.Y A.r T c) (24 * (A.Y 0 * A.Y 1)) ∧ ∀ j : Nat, rd ml 319 j = rd m 319 j := by
  obtain ⟨m1, cp, f5, ld⟩ := p
  have y1 := mA_cp h oY oR l cp
  have l1 : 0 ≤ rd m1 284 18 ∧ rd m1 284 18 ≤ 1 := by rw [cp.2.2 284 18 (by decide) (by decide)]; exact l
  have yl : YM ml A.Y A.E A.r := ⟨plM_fr y1.1.1 l1 (fun i j q => f5 i j (by unfold plR at q; omega)), fun j hj => (f5 323 j (by decide)).trans (y1.1.2.1 j hj), oY, oR⟩
  refine ⟨⟨yl, mA_fr y1.2 l1 (fun i j q => f5 i j (by unfold plR at q; omega))⟩, fun s k s0 s1 k0 k1 => ?_, fun j => (f5 319 j (by decide)).trans (cp.2.2 319 j (by omega) (by omega))⟩
  rw [yl.1.1.1, yl.1.1.2.1] at ld
  obtain ⟨t, td, e⟩ := ld (s / 24) k (s % 24) (by omega) (by omega) k0 k1 (by omega) (by omega)
  rw [show Int.toNat (96 * (s / 24) + 4 * (s % 24) + k) = Int.toNat (4 * s + k) by omega] at e
  have hf : 0 ≤ s / 24 ∧ s / 24 < A.Y 0 * A.Y 1 := ⟨by omega, by omega⟩
  have cf := cf_N (c := c) y1.1 hf ⟨k0, k1⟩
  have fb := fre_b (r := A.r) (c := c) oY hf ⟨k0, k1⟩
  have et : rd m1 320 (Int.toNat (4 * (s % 24) + k)) = T (Int.toNat (4 * (s % 24) + k)) := (cp.2.2 320 _ (by omega) (by omega)).trans (tb _ (by omega))
  rw [e, et]
  unfold mvN
  rcases td with ⟨a, b⟩ | ⟨a, b⟩
  · rw [if_neg (by omega), if_pos (cf.2 b)]
  · have c1 := cf.1 a
    rw [y1.1.1.1.1, y1.1.1.1.2.1] at b
    have b2 : t = nxN A.Y (s / 24) k := b
    rw [if_pos (by omega), if_neg c1.1]
    omega
/-- behind goesThrough -/
def wmP (m : Mm) (A : Ab) (T F : Nat → Int) (c : Int) : Prop := okWk (24 * (A.Y 0 * A.Y 1)) (WA A T c) ∧ wkR m 284 67 329 326 (WA A T c) ∧ YM m A.Y A.E A.r ∧ mA m A ∧ (∀ j : Nat, j < 144 → rd m 319 j = F j) ∧ ∀ j : Nat, j < 144 → 0 ≤ F j ∧ F j ≤ 5
theorem wm_A {m0 m m2 : Mm} {A : Ab} {T F : Nat → Int} {c : Int} (h : mA m A) (oY : okY A.Y) (oR : okR A.Y A.r) (l : 0 ≤ rd m 284 18 ∧ rd m 284 18 ≤ 1) (_hc : c ≤ 2) (hc : 0 ≤ c ∧ c < A.Y 3) (tb : tbR m 319 320 F T) (g : G m0 m) (_g2 : G m0 m2) (p : ∃ ml, fsP m ml c ∧ f29 ml m2 ∧ wlF ml m2 c) : wmP m2 A T F c := by
  obtain ⟨ml, p1, p2, p3⟩ := p
  obtain ⟨⟨yl, al⟩, ag, t9⟩ := fs_A h oY oR l p1 tb.2
  have b := wh_b oY.1 oY.2.1
  have y3 := oY.2.2
  have own := oR c hc.1 hc.2
  have clo := mv_clo (r := A.r) (T := T) (c := c) oY (fun j hj => by rw [← tb.2 j hj]; exact ty_320 g.1 j)
  have es : stL ml c = 24 * fC A.r c := by
    unfold stL
    rw [yl.2.1 _ (by omega)]
    rfl
  have k := p3 (mvN A.Y A.r T c) _ ag clo (by rw [es]; omega) (by rw [es]; omega)
  rw [es] at k
  have ll : 0 ≤ rd ml 284 18 ∧ rd ml 284 18 ≤ 1 := by
    obtain ⟨m1, cp, f5, -⟩ := p1
    rw [f5 284 18 (by decide), cp.2.2 284 18 (by decide) (by decide)]
    exact l
  have fr : ∀ i j : Nat, (plR i j ∨ i = 322 ∨ i = 324 ∨ i = 339 ∨ i = 340 ∨ (i = 284 ∧ j = 60)) → rd m2 i j = rd ml i j := fun i j q => p2 i j (by unfold plR at q; omega) (by unfold plR at q; omega)
  exact ⟨k.1, k.2, ⟨plM_fr yl.1 ll (fun i j q => fr i j (Or.inl q)), fun j hj => (p2 323 j (by omega) (by omega)).trans (yl.2.1 j hj), oY, oR⟩, mA_fr al ll fr, fun j hj => (p2 319 j (by omega) (by omega)).trans ((t9 j).trans (tb.1 j hj)), fun j hj => by rw [← tb.1 j hj]; exact ty_319 g.1 j⟩
theorem mk_l {m1 m2 : Mm} {A : Ab} {T F : Nat → Int} {c x v : Int} (e : m2 = m1) (hc : 0 ≤ c ∧ c < A.Y 3) (w : wmP m1 A T F c) (hx : 0 ≤ x ∧ x < rd m2 284 67) (ev : v = rd m2 323 (Int.toNat (25 + 6 * c + rd m2 319 (Int.toNat (6 * (rd m2 329 (Int.toNat x) % 24) + 0))))) : v = mkN A.r F c (WA A T c 1 (Int.toNat x)) 0 := by
  subst e
  obtain ⟨o, k, y, -, f, fb⟩ := w
  have y3 := y.2.2.1.2.2
  have lx : ((Int.toNat x : Nat) : Int) < WA A T c 0 0 := by rw [← k.1]; omega
  have b := o.2.1 (Int.toNat x) lx
  rw [k.2.1 (Int.toNat x) lx] at ev
  have q : Int.toNat (6 * (WA A T c 1 (Int.toNat x) % 24) + 0) = Int.toNat (WA A T c 1 (Int.toNat x) % 24 * 6 + 0) := by omega
  have fb2 := fb (Int.toNat (WA A T c 1 (Int.toNat x) % 24 * 6 + 0)) (by omega)
  rw [q, f _ (by omega), y.2.1 _ (by omega)] at ev
  rw [ev]
  unfold mkN
  exact congrArg A.r (by omega)
theorem ln_l {m1 m2 : Mm} {A : Ab} {T F : Nat → Int} {c x : Int} (e : m2 = m1) (w : wmP m1 A T F c) (hx : 0 ≤ x ∧ x < rd m2 284 67) : rd m2 329 (Int.toNat x) = WA A T c 1 (Int.toNat x) := by
  subst e
  exact w.2.1.2.1 (Int.toNat x) (by rw [← w.2.1.1]; omega)
theorem spo_M {m : Mm} {A : Ab} {T F : Nat → Int} {c : Int} (w : wmP m A T F c) (hc : 0 ≤ c ∧ c < A.Y 3) : rd m 284 67 = spoA A T c ∧ mA m A := by
  refine ⟨?_, w.2.2.2.1⟩
  unfold spoA
  rw [if_pos hc]
  exact w.2.1.1
theorem top_M {m1 m2 : Mm} {A : Ab} {T F : Nat → Int} {c x v : Int} (w : wmP m1 A T F c) (hc : 0 ≤ c ∧ c < A.Y 3) (e : m2 = m1) (ex : x = rd m2 284 67) (ev : v = fcF (fun i => mkN A.r F c (WA A T c 1 i) 0) (Int.toNat x)) : v = topA A T F c ∧ mA m2 A := by
  subst e
  refine ⟨?_, w.2.2.2.1⟩
  unfold topA
  rw [if_pos hc, ev, ex, w.2.1.1]
def nvF (X : Int) (G K : Nat → Int) (x : Int) : Nat → Int
  | 0 => X
  | n + 1 => if G n = x then anI (nvF X G K x n) (xoI (slI 1 (K n)) (-1)) else nvF X G K x n
theorem nvF_rg {X x : Int} {G K : Nat → Int} (h : rg X) : ∀ n : Nat, rg (nvF X G K x n)
  | 0 => h
  | n + 1 => by
    show rg (if G n = x then anI (nvF X G K x n) (xoI (slI 1 (K n)) (-1)) else nvF X G K x n)
    split
    · exact io_rg _ _ _
    · exact nvF_rg h n
theorem nv_fr {X x : Int} {G K : Nat → Int} (h : rg X) : ∀ n : Nat, nvF X G K x n = anI X (xoI (frF G K x n) (-1))
  | 0 => by
    refine gb_ext h (io_rg _ _ _) (fun n hn => ?_)
    show gb X n = gb (anI X (xoI 0 (-1))) n
    rw [gb_and, gb_not _ hn, gb_z n hn, Bool.not_false, Bool.and_true]
  | k + 1 => by
    have ih := nv_fr (x := x) (G := G) (K := K) h k
    show (if G k = x then anI (nvF X G K x k) (xoI (slI 1 (K k)) (-1)) else nvF X G K x k) = anI X (xoI (if G k = x then orI (frF G K x k) (slI 1 (K k)) else frF G K x k) (-1))
    by_cases q : G k = x
    · rw [if_pos q, if_pos q, ih]
      refine gb_ext (io_rg _ _ _) (io_rg _ _ _) (fun n hn => ?_)
      rw [gb_and, gb_and, gb_not _ hn, gb_not _ hn, gb_and, gb_not _ hn, gb_or, Bool.not_or, Bool.and_assoc]
    · rw [if_neg q, if_neg q]; exact ih
theorem nv_0 {m : Mm} {A : Ab} {T F : Nat → Int} {c x z v : Int} (w : wmP m A T F c) (ez : z = wr (slI 1 v - 1)) (ev : v = rd m 293 (Int.toNat (rd m 284 18)) * rd m 294 (Int.toNat (rd m 284 18))) : z = nvF (allI A.Y) (fun i => mkN A.r F c (WA A T c 1 i) 0) (fun i => WA A T c 1 i / 24) x (Int.toNat 0) := by
  have y := w.2.2.1
  have b := wh_b y.2.2.1.1 y.2.2.1.2.1
  rw [y.1.1.1, y.1.1.2.1] at ev
  show z = wr (slI 1 (wr (A.Y 0 * A.Y 1)) - 1)
  rw [wr_id (x := A.Y 0 * A.Y 1) (by omega) (by omega), ez, ev]
theorem nvF_s {X x y z w v q u : Int} {W : Wk} {mk : Int → Int} (h : y = nvF X (fun i => mk (W 1 i)) (fun i => W 1 i / 24) x (Int.toNat w)) (hw : 0 ≤ w) (ez : z = w + 1) (ev : v = mk (W 1 (Int.toNat w))) (eq : q = W 1 (Int.toNat w)) (e : (v = x ∧ u = anI y (xoI (slI 1 (q / 24)) (-1))) ∨ (¬ v = x ∧ u = y)) : u = nvF X (fun i => mk (W 1 i)) (fun i => W 1 i / 24) x (Int.toNat z) := by
  rw [show Int.toNat z = Int.toNat w + 1 by omega]
  show u = if mk (W 1 (Int.toNat w)) = x then anI (nvF X (fun i => mk (W 1 i)) (fun i => W 1 i / 24) x (Int.toNat w)) (xoI (slI 1 (W 1 (Int.toNat w) / 24)) (-1)) else nvF X (fun i => mk (W 1 i)) (fun i => W 1 i / 24) x (Int.toNat w)
  rw [← h, ← ev, ← eq]
  rcases e with ⟨a, b⟩ | ⟨a, b⟩
  · rw [if_pos a]; exact b
  · rw [if_neg a]; exact b
theorem nev_M {m1 m2 : Mm} {A : Ab} {T F : Nat → Int} {c x y v : Int} (w : wmP m1 A T F c) (hc : 0 ≤ c ∧ c < A.Y 3) (hx : 0 ≤ x ∧ x ≤ 9) (e : m2 = m1) (ey : y = rd m2 284 67) (ev : v = nvF (allI A.Y) (fun i => mkN A.r F c (WA A T c 1 i) 0) (fun i => WA A T c 1 i / 24) x (Int.toNat y)) : v = nevA A T F c x ∧ mA m2 A := by
  subst e
  refine ⟨?_, w.2.2.2.1⟩
  unfold nevA
  rw [if_pos ⟨hc, hx⟩, ev, ey, w.2.1.1, nv_fr (X := allI A.Y) (wr_rg _)]
theorem nev_Mn {m m15 : Mm} {A : Ab} {T F : Nat → Int} {c x : Int} (h : mA m A) (e : m15 = m) (hc : ¬ (0 ≤ c ∧ c < rd m 302 (Int.toNat (rd m 284 18))) ∨ ¬ (0 ≤ x ∧ x ≤ 9)) : (-1 : Int) = nevA A T F c x ∧ mA m15 A := by
  subst e
  rw [h.1.1.2.2.2.1] at hc
  refine ⟨?_, h⟩
  unfold nevA
  rw [if_neg (by omega)]
theorem fb_N {m : Mm} {Y r : Ro} {E : Lw} {f k v : Int} (y : YM m Y E r) (e : v = fbyI (rd m 293 (Int.toNat (rd m 284 18))) (rd m 294 (Int.toNat (rd m 284 18))) f k) : v = nxN Y f k := by
  rw [y.1.1.1, y.1.1.2.1] at e
  exact e
theorem nb_k {Y : Ro} {f x y z v : Int} (d : ∀ k : Int, 0 ≤ k → k < y → ¬ nxN Y f k = x) (ez : 0 ≤ y ∧ z = y + 1) (ev : v = nxN Y f y) (n : ¬ v = x) : ∀ k : Int, 0 ≤ k → k < z → ¬ nxN Y f k = x := fun k h0 h1 w => by
  by_cases q : k < y
  · exact d k h0 q w
  · have e : k = y := by omega
    subst e
    exact n (ev.trans w)
theorem bn_s {Y : Ro} {W : Wk} {o x z : Int} (d : ∀ i : Nat, (i : Int) < x → ¬ bdN Y (W 1 i) o) (ez : 0 ≤ x ∧ z = x + 1) (n : ¬ bdN Y (W 1 (Int.toNat x)) o) : ∀ i : Nat, (i : Int) < z → ¬ bdN Y (W 1 i) o := fun i hi w => by
  by_cases q : (i : Int) < x
  · exact d i q w
  · rw [show i = Int.toNat x by omega] at w
    exact n w
theorem bq_l {m1 m2 : Mm} {A : Ab} {T F : Nat → Int} {c o x a v : Int} (e : m2 = m1) (w : wmP m1 A T F c) (_hc : 0 ≤ c ∧ c < A.Y 3) (ho : 0 ≤ o ∧ o < A.Y 3) (hx : (0 ≤ x ∧ x < rd m2 284 67) ∧ a = rd m2 329 (Int.toNat x) / 24) {q : Nat} (eb : q = Int.toNat (43 + o)) (p : (v = 1 ∧ ∃ k : Int, 0 ≤ k ∧ k ≤ 3 ∧ nxN A.Y a k = rd m2 323 q) ∨ (v = 0 ∧ ¬ ∃ k : Int, 0 ≤ k ∧ k ≤ 3 ∧ nxN A.Y a k = rd m2 323 q)) : (v = 1 ∧ bdN A.Y (WA A T c 1 (Int.toNat x)) (fC A.r o)) ∨ (v = 0 ∧ ¬ bdN A.Y (WA A T c 1 (Int.toNat x)) (fC A.r o)) := by
  have l := ln_l e w hx.1
  subst e
  have y3 := w.2.2.1.2.2.1.2.2
  have f : rd m2 323 q = fC A.r o := by
    rw [eb]
    exact w.2.2.1.2.1 _ (by omega)
  rw [f, hx.2, l] at p
  exact p
theorem bes_M {m1 m2 : Mm} {A : Ab} {T F : Nat → Int} {c o x : Int} (w : wmP m1 A T F c) (hc : 0 ≤ c ∧ c < A.Y 3) (ho : 0 ≤ o ∧ o < A.Y 3) (ne : ¬ c = o) (e : m2 = m1) (hx : 0 ≤ x ∧ x < rd m2 284 67) (hs : 0 ≤ rd m2 329 (Int.toNat x) ∧ rd m2 329 (Int.toNat x) < 600) (d : ∀ i : Nat, (i : Int) < x → ¬ bdN A.Y (WA A T c 1 i) (fC A.r o)) (q : (0 ≤ c ∧ c < A.Y 3) → (0 ≤ o ∧ o < A.Y 3) → wmP m1 A T F c → bdN A.Y (WA A T c 1 (Int.toNat x)) (fC A.r o)) : besA A T c o (rd m2 326 (Int.toNat (rd m2 329 (Int.toNat x)))) ∧ mA m2 A := by
  have l := ln_l e w hx
  have qq := q hc ho w
  subst e
  refine ⟨Or.inr ⟨⟨hc, ho, ne⟩, Or.inr ⟨Int.toNat x, by rw [← w.2.1.1]; omega, qq, fun j hj => d j (by omega), ?_⟩⟩, w.2.2.2.1⟩
  rw [w.2.1.2.2 _ (by omega), l]
theorem bes_M2 {m1 m2 : Mm} {A : Ab} {T F : Nat → Int} {c o x : Int} (w : wmP m1 A T F c) (hc : 0 ≤ c ∧ c < A.Y 3) (ho : 0 ≤ o ∧ o < A.Y 3) (ne : ¬ c = o) (e : m2 = m1) (hx : rd m2 284 67 ≤ x) (d : ∀ i : Nat, (i : Int) < x → ¬ bdN A.Y (WA A T c 1 i) (fC A.r o)) : besA A T c o (-2) ∧ mA m2 A := by
  subst e
  exact ⟨Or.inr ⟨⟨hc, ho, ne⟩, Or.inl ⟨rfl, fun i hi => d i (by rw [← w.2.1.1] at hi; omega)⟩⟩, w.2.2.2.1⟩
theorem bes_Mn {m m21 : Mm} {A : Ab} {T : Nat → Int} {c o : Int} (h : mA m A) (e : m21 = m) (hc : ¬ (0 ≤ c ∧ c < rd m 302 (Int.toNat (rd m 284 18))) ∨ ¬ (0 ≤ o ∧ o < rd m 302 (Int.toNat (rd m 284 18))) ∨ c = o) : besA A T c o (-1) ∧ mA m21 A := by
  subst e
  rw [h.1.1.2.2.2.1] at hc
  exact ⟨Or.inl ⟨by omega, rfl⟩, h⟩
-- TippedCratesModel.spots(I)I
set_option maxRecDepth 20000 in
theorem my_254 {m0 m : Mm} {x1 : Int}  (g_m : G m0 m) (r_x1 : rg x1) (p0 : MW m0) : CK 6 254 [.ref 284, iv x1] m (fun m2 v => G m0 m2 ∧ ((True) ∧ (∀ A T F, okY A.Y → okR A.Y A.r → mA m A → tbR m 319 320 F T → v = spoA A T x1 ∧ mA m2 A))) := by
  refine br_254 r_x1 ?_
  unfold P_254
  refine CK.mono (ct_210   g_m.1 r_x1) (by decide) ?_
  rintro m2 v2 r_v2 ⟨e_m2, h_m2⟩
  replace e_m2 := e_m2.symm
  subst e_m2
  refine ⟨fun hq => ?_, fun hq => ?_⟩
  · skip
    refine CV.mono (my_249   g_m r_x1 p0 (by omega)) (by decide) ?_
    rintro m12 ⟨g_m12, h_m12⟩
    have t1 := ty_284_67 g_m12.1
    exact ⟨g_m12, by exact ⟨by first | trivial | omega | (refine ⟨?_, ?_⟩ <;> omega), by first | (have u := h_m12; exact fun A T F oY oR h tb => spo_M (wm_A h oY oR (ty_284_18 g_m.1) (by omega) (te_x h oY (by omega)) tb g_m g_m12 h_m12.2) (te_x h oY (by omega))) | exact fun A T F oY oR h tb => ⟨sp_n (fun w => by have := h.1.1.2.2.2.1; omega), h⟩⟩⟩
  · skip
    exact ⟨g_m, by exact ⟨by first | trivial | omega | (refine ⟨?_, ?_⟩ <;> omega), by first | (have u := h_m12; exact fun A T F oY oR h tb => spo_M (wm_A h oY oR (ty_284_18 g_m.1) (by omega) (te_x h oY (by omega)) tb g_m g_m12 h_m12.2) (te_x h oY (by omega))) | exact fun A T F oY oR h tb => ⟨sp_n (fun w => by have := h.1.1.2.2.2.1; omega), h⟩⟩⟩
-- TippedCratesModel.tops(I)I
set_option maxRecDepth 20000 in
theorem my_265 {m0 m : Mm} {x1 : Int}  (g_m : G m0 m) (r_x1 : rg x1) (p0 : MW m0) : CK 6 265 [.ref 284, iv x1] m (fun m2 v => G m0 m2 ∧ ((True) ∧ (∀ A T F, okY A.Y → okR A.Y A.r → mA m A → tbR m 319 320 F T → v = topA A T F x1 ∧ mA m2 A))) := by
  refine br_265 r_x1 ?_
  unfold P_265
  refine CK.mono (ct_210   g_m.1 r_x1) (by decide) ?_
  rintro m2 v2 r_v2 ⟨e_m2, h_m2⟩
  replace e_m2 := e_m2.symm
  subst e_m2
  refine ⟨fun hq => ?_, fun hq => ?_⟩
  · skip
    refine CV.mono (my_249   g_m r_x1 p0 (by omega)) (by decide) ?_
    rintro m12 ⟨g_m12, h_m12⟩
    refine ⟨fun x2_19 x3_19 m_19 => G m0 m_19 ∧ ((0 ≤ x3_19 ∧ x3_19 ≤ 600) ∧ (m_19 = m12 ∧ x3_19 ≤ rd m_19 284 67 ∧ ∀ A T F, (0 ≤ x1 ∧ x1 < A.Y 3) → wmP m12 A T F x1 → x2_19 = fcF (fun i => mkN A.r F x1 (WA A T x1 1 i) 0) (Int.toNat x3_19))), fun x2_19 x3_19 m_19 => Int.toNat (600 - x3_19), ?_, ?_⟩
    · exact ⟨g_m12, by exact ⟨by first | omega | (refine ⟨?_, ?_⟩ <;> omega) | trivial, by exact ⟨rfl, (ty_284_67 g_m12.1).1, fun _ _ _ _ _ => rfl⟩⟩⟩
    · intro x2_19 x3_19 m_19 r_x2_19 r_x3_19 hI_19
      obtain ⟨g_m_19, hI_19⟩ := hI_19
      obtain ⟨hI_19, dI_19⟩ := hI_19
      have t1 := ty_284_67 g_m_19.1
      refine ⟨fun hq => ?_, fun hq => ?_⟩
      · skip
        exact ⟨g_m_19, by exact ⟨by first | trivial | omega | (refine ⟨?_, ?_⟩ <;> omega), by first | (have u := dI_19; exact fun A T F oY oR h tb => top_M (wm_A h oY oR (ty_284_18 g_m.1) (by omega) (te_x h oY (by omega)) tb g_m g_m12 h_m12.2) (te_x h oY (by omega)) dI_19.1 (by omega) (dI_19.2.2 A T F (te_x h oY (by omega)) (wm_A h oY oR (ty_284_18 g_m.1) (by omega) (te_x h oY (by omega)) tb g_m g_m12 h_m12.2))) | exact fun A T F oY oR h tb => ⟨tops_n (fun w => by have := h.1.1.2.2.2.1; omega), h⟩⟩⟩
      · skip
        refine ⟨⟨by omega, by omega⟩, ?_⟩
        have t2 := ty_329 g_m_19.1 (Int.toNat x3_19)
        refine CK.mono (my_248   g_m_19.1 r_x1 (rd_rg _ _ _) (by unfold rg; decide) (by omega) (by omega) (by omega)) (by decide) ?_
        rintro m38 v38 r_v38 ⟨e_m38, h_m38⟩
        replace e_m38 := e_m38.symm
        subst e_m38
        intro z2_43 e_z2_43
        have r_z2_43 : rg z2_43 := by rw [e_z2_43]; exact (io_rg _ _ _)
        try have w3 : wr (x3_19 + 1) = x3_19 + 1 := wr_id (by omega) (by omega)
        intro z3_44 e_z3_44
        have r_z3_44 : rg z3_44 := by rw [e_z3_44]; exact wr_rg _
        exact ⟨⟨g_m_19, by exact ⟨by first | omega | (refine ⟨?_, ?_⟩ <;> omega) | trivial, by exact ⟨dI_19.1, by omega, fun A T F hc w => fcF_s (F := fun i => mkN A.r F x1 (WA A T x1 1 i) 0) (dI_19.2.2 A T F hc w) (by omega) (by omega) (e_z2_43.trans (congrArg (fun q => orI x2_19 (slI 1 q)) (mk_l dI_19.1 hc w (by omega) h_m38.2)))⟩⟩⟩, by (try dsimp only); omega⟩
  · skip
    exact ⟨g_m, by exact ⟨by first | trivial | omega | (refine ⟨?_, ?_⟩ <;> omega), by first | (have u := dI_19; exact fun A T F oY oR h tb => top_M (wm_A h oY oR (ty_284_18 g_m.1) (by omega) (te_x h oY (by omega)) tb g_m g_m12 h_m12.2) (te_x h oY (by omega)) dI_19.1 (by omega) (dI_19.2.2 A T F (te_x h oY (by omega)) (wm_A h oY oR (ty_284_18 g_m.1) (by omega) (te_x h oY (by omega)) tb g_m g_m12 h_m12.2))) | exact fun A T F oY oR h tb => ⟨tops_n (fun w => by have := h.1.1.2.2.2.1; omega), h⟩⟩⟩
-- TippedCratesModel.never(II)I
set_option maxRecDepth 20000 in
theorem my_252 {m0 m : Mm} {x1 : Int} {x2 : Int}  (g_m : G m0 m) (r_x1 : rg x1) (r_x2 : rg x2) (p0 : MW m0) : CK 6 252 [.ref 284, iv x1, iv x2] m (fun m2 v => G m0 m2 ∧ ((True) ∧ (∀ A T F, okY A.Y → okR A.Y A.r → mA m A → tbR m 319 320 F T → v = nevA A T F x1 x2 ∧ mA m2 A))) := by
  refine br_252 r_x1 r_x2 ?_
  unfold P_252
  refine CK.mono (ct_210   g_m.1 r_x1) (by decide) ?_
  rintro m2 v2 r_v2 ⟨e_m2, h_m2⟩
  replace e_m2 := e_m2.symm
  subst e_m2
  refine ⟨fun m_15 => G m0 m_15 ∧ (m_15 = m ∧ (¬ (0 ≤ x1 ∧ x1 < rd m 302 (Int.toNat (rd m 284 18))) ∨ ¬ (0 ≤ x2 ∧ x2 ≤ 9))), ?_, ?_⟩
  · skip
    refine ⟨fun hq => ?_, fun hq => ?_⟩
    · skip
      exact ⟨g_m, by exact ⟨rfl, by omega⟩⟩
    · skip
      refine CK.mono (ct_211   r_x2) (by decide) ?_
      rintro m9 v9 r_v9 ⟨e_m9, h_m9⟩
      replace e_m9 := e_m9.symm
      subst e_m9
      refine ⟨fun hq => ?_, fun hq => ?_⟩
      · skip
        refine CV.mono (my_249   g_m r_x1 p0 (by omega)) (by decide) ?_
        rintro m19 ⟨g_m19, h_m19⟩
        refine CK.mono (ct_208   g_m19.1 (MW_G p0 g_m19)) (by decide) ?_
        rintro m24 v24 r_v24 ⟨e_m24, h_m24⟩
        replace e_m24 := e_m24.symm
        subst e_m24
        try have w1 : wr ((slI 1 v24) - 1) = (slI 1 v24) - 1 := wr_id (by omega) (by omega)
        intro z3_30 e_z3_30
        have r_z3_30 : rg z3_30 := by rw [e_z3_30]; exact (wr_rg _)
        refine ⟨fun x3_34 x4_34 m_34 => G m0 m_34 ∧ ((0 ≤ x4_34 ∧ x4_34 ≤ 600) ∧ (m_34 = m19 ∧ x4_34 ≤ rd m_34 284 67 ∧ ∀ A T F, (0 ≤ x1 ∧ x1 < A.Y 3) → wmP m19 A T F x1 → x3_34 = nvF (allI A.Y) (fun i => mkN A.r F x1 (WA A T x1 1 i) 0) (fun i => WA A T x1 1 i / 24) x2 (Int.toNat x4_34))), fun x3_34 x4_34 m_34 => Int.toNat (600 - x4_34), ?_, ?_⟩
        · exact ⟨g_m19, by exact ⟨by first | omega | (refine ⟨?_, ?_⟩ <;> omega) | trivial, by exact ⟨rfl, (ty_284_67 g_m19.1).1, fun A T F _ w => nv_0 w e_z3_30 h_m24.1⟩⟩⟩
        · intro x3_34 x4_34 m_34 r_x3_34 r_x4_34 hI_34
          obtain ⟨g_m_34, hI_34⟩ := hI_34
          obtain ⟨hI_34, dI_34⟩ := hI_34
          have t2 := ty_284_67 g_m_34.1
          refine ⟨fun hq => ?_, fun hq => ?_⟩
          · skip
            exact ⟨g_m_34, by exact ⟨by first | trivial | omega | (refine ⟨?_, ?_⟩ <;> omega), by first | (have u := dI_34; exact fun A T F oY oR h tb => nev_M (wm_A h oY oR (ty_284_18 g_m.1) (by omega) (te_x h oY (by omega)) tb g_m g_m19 h_m19.2) (te_x h oY (by omega)) (by omega) dI_34.1 (by omega) (dI_34.2.2 A T F (te_x h oY (by omega)) (wm_A h oY oR (ty_284_18 g_m.1) (by omega) (te_x h oY (by omega)) tb g_m g_m19 h_m19.2))) | exact fun A T F oY oR h tb => nev_Mn h hR_15.1 hR_15.2⟩⟩
          · skip
            refine ⟨⟨by omega, by omega⟩, ?_⟩
            have t3 := ty_329 g_m_34.1 (Int.toNat x4_34)
            refine CK.mono (my_248   g_m_34.1 r_x1 (rd_rg _ _ _) (by unfold rg; decide) (by omega) (by omega) (by omega)) (by decide) ?_
            rintro m53 v53 r_v53 ⟨e_m53, h_m53⟩
            replace e_m53 := e_m53.symm
            subst e_m53
            refine ⟨fun y3_77 => (v53 = x2 ∧ y3_77 = anI x3_34 (xoI (slI 1 (rd m_34 329 (Int.toNat x4_34) / 24)) (-1))) ∨ (¬ v53 = x2 ∧ y3_77 = x3_34), ?_, ?_⟩
            · skip
              refine ⟨fun hq => ?_, fun hq => ?_⟩
              · skip
                (first | exact Or.inr ⟨by assumption, rfl⟩ | exact Or.inl ⟨by assumption, by rw [e_z3_76]; exact congrArg (fun q => anI x3_34 (xoI (slI 1 q) (-1))) (by omega)⟩)
              · skip
                refine ⟨⟨by omega, by omega⟩, ?_⟩
                try have q4 : dvI (rd m_34 329 (Int.toNat x4_34)) 24 = (rd m_34 329 (Int.toNat x4_34)) / 24 := dv_eq (by omega) (by omega) (by omega) (by omega)
                intro z3_76 e_z3_76
                have r_z3_76 : rg z3_76 := by rw [e_z3_76]; exact (io_rg _ _ _)
                (first | exact Or.inr ⟨by assumption, rfl⟩ | exact Or.inl ⟨by assumption, by rw [e_z3_76]; exact congrArg (fun q => anI x3_34 (xoI (slI 1 q) (-1))) (by omega)⟩)
            · intro y3_77 r_y3_77 hR_77
              try have w5 : wr (x4_34 + 1) = x4_34 + 1 := wr_id (by omega) (by omega)
              intro z4_77 e_z4_77
              have r_z4_77 : rg z4_77 := by rw [e_z4_77]; exact wr_rg _
              exact ⟨⟨g_m_34, by exact ⟨by first | omega | (refine ⟨?_, ?_⟩ <;> omega) | trivial, by exact ⟨dI_34.1, by omega, fun A T F hc w => nvF_s (X := allI A.Y) (W := WA A T x1) (mk := fun s => mkN A.r F x1 s 0) (dI_34.2.2 A T F hc w) (by omega) (by omega) (mk_l dI_34.1 hc w (by omega) h_m53.2) (ln_l dI_34.1 w (by omega)) hR_77⟩⟩⟩, by (try dsimp only); omega⟩
      · skip
        exact ⟨g_m, by exact ⟨rfl, by omega⟩⟩
  · intro m_15  hR_15
    obtain ⟨g_m_15, hR_15⟩ := hR_15
    exact ⟨g_m_15, by exact ⟨by first | trivial | omega | (refine ⟨?_, ?_⟩ <;> omega), by first | (have u := dI_34; exact fun A T F oY oR h tb => nev_M (wm_A h oY oR (ty_284_18 g_m.1) (by omega) (te_x h oY (by omega)) tb g_m g_m19 h_m19.2) (te_x h oY (by omega)) (by omega) dI_34.1 (by omega) (dI_34.2.2 A T F (te_x h oY (by omega)) (wm_A h oY oR (ty_284_18 g_m.1) (by omega) (te_x h oY (by omega)) tb g_m g_m19 h_m19.2))) | exact fun A T F oY oR h tb => nev_Mn h hR_15.1 hR_15.2⟩⟩
-- TippedCratesModel.areBeside(II)Z
set_option maxRecDepth 20000 in
theorem my_266 {m : Mm} {x1 : Int} {x2 : Int}  (T_m : Ty m) (r_x1 : rg x1) (r_x2 : rg x2) (p0 : MW m) (p1 : 0 ≤ x1 ∧ x1 ≤ 24) : CK 3 266 [.ref 284, iv x1, iv x2] m (fun m2 v => m2 = m ∧ ((v = 0 ∨ v = 1) ∧ (∀ Y E r, YM m Y E r → (v = 1 ∧ ∃ k : Int, 0 ≤ k ∧ k ≤ 3 ∧ nxN Y x1 k = x2) ∨ (v = 0 ∧ ¬ ∃ k : Int, 0 ≤ k ∧ k ≤ 3 ∧ nxN Y x1 k = x2)))) := by
  refine br_266 r_x1 r_x2 ?_
  unfold P_266
  refine ⟨fun x3_2 m_2 => m_2 = m ∧ ((0 ≤ x3_2 ∧ x3_2 ≤ 4) ∧ (∀ Y E r, YM m Y E r → ∀ k : Int, 0 ≤ k → k < x3_2 → ¬ nxN Y x1 k = x2)), fun x3_2 m_2 => Int.toNat (4 - x3_2), ?_, ?_⟩
  · exact ⟨rfl, by exact ⟨by first | omega | (refine ⟨?_, ?_⟩ <;> omega) | trivial, by exact fun _ _ _ _ k h0 h1 => by omega⟩⟩
  · intro x3_2 m_2 r_x3_2 hI_2
    obtain ⟨e_m_2, hI_2⟩ := hI_2
    replace e_m_2 := e_m_2.symm
    subst e_m_2
    obtain ⟨hI_2, dI_2⟩ := hI_2
    refine ⟨fun hq => ?_, fun hq => ?_⟩
    · skip
      exact ⟨rfl, by exact ⟨by first | trivial | omega | (refine ⟨?_, ?_⟩ <;> omega), by first | (have u := h_m10; exact fun Y E r y => Or.inl ⟨rfl, x3_2, by omega, by omega, (fb_N y h_m10.1).symm.trans (by assumption)⟩) | exact fun Y E r y => Or.inr ⟨rfl, fun ⟨k, k0, k1, e⟩ => dI_2 Y E r y k k0 (by omega) e⟩⟩⟩
    · skip
      refine CK.mono (ct_221   T_m r_x1 r_x3_2 p0 (by omega) (by omega)) (by decide) ?_
      rintro m10 v10 r_v10 ⟨e_m10, h_m10⟩
      replace e_m10 := e_m10.symm
      subst e_m10
      refine ⟨fun hq => ?_, fun hq => ?_⟩
      · skip
        try have w1 : wr (x3_2 + 1) = x3_2 + 1 := wr_id (by omega) (by omega)
        intro z3_19 e_z3_19
        have r_z3_19 : rg z3_19 := by rw [e_z3_19]; exact wr_rg _
        exact ⟨⟨rfl, by exact ⟨by first | omega | (refine ⟨?_, ?_⟩ <;> omega) | trivial, by exact fun Y E r y => nb_k (dI_2 Y E r y) (by omega) (fb_N y h_m10.1) (by assumption)⟩⟩, by (try dsimp only); omega⟩
      · skip
        exact ⟨rfl, by exact ⟨by first | trivial | omega | (refine ⟨?_, ?_⟩ <;> omega), by first | (have u := h_m10; exact fun Y E r y => Or.inl ⟨rfl, x3_2, by omega, by omega, (fb_N y h_m10.1).symm.trans (by assumption)⟩) | exact fun Y E r y => Or.inr ⟨rfl, fun ⟨k, k0, k1, e⟩ => dI_2 Y E r y k k0 (by omega) e⟩⟩⟩
-- TippedCratesModel.beside(II)I
set_option maxRecDepth 20000 in
theorem my_267 {m0 m : Mm} {x1 : Int} {x2 : Int}  (g_m : G m0 m) (r_x1 : rg x1) (r_x2 : rg x2) (p0 : MW m0) : CK 6 267 [.ref 284, iv x1, iv x2] m (fun m2 v => G m0 m2 ∧ ((True) ∧ (∀ A T F, okY A.Y → okR A.Y A.r → mA m A → tbR m 319 320 F T → besA A T x1 x2 v ∧ mA m2 A))) := by
  refine br_267 r_x1 r_x2 ?_
  unfold P_267
  refine CK.mono (ct_210   g_m.1 r_x1) (by decide) ?_
  rintro m2 v2 r_v2 ⟨e_m2, h_m2⟩
  replace e_m2 := e_m2.symm
  subst e_m2
  refine ⟨fun m_21 => G m0 m_21 ∧ (m_21 = m ∧ (¬ (0 ≤ x1 ∧ x1 < rd m 302 (Int.toNat (rd m 284 18))) ∨ ¬ (0 ≤ x2 ∧ x2 < rd m 302 (Int.toNat (rd m 284 18))) ∨ x1 = x2)), ?_, ?_⟩
  · skip
    refine ⟨fun hq => ?_, fun hq => ?_⟩
    · skip
      exact ⟨g_m, by exact ⟨rfl, by omega⟩⟩
    · skip
      refine CK.mono (ct_210   g_m.1 r_x2) (by decide) ?_
      rintro m10 v10 r_v10 ⟨e_m10, h_m10⟩
      replace e_m10 := e_m10.symm
      subst e_m10
      refine ⟨fun hq => ?_, fun hq => ?_⟩
      · skip
        exact ⟨g_m, by exact ⟨rfl, by omega⟩⟩
      · skip
        refine ⟨fun hq => ?_, fun hq => ?_⟩
        · skip
          refine CV.mono (my_249   g_m r_x1 p0 (by omega)) (by decide) ?_
          rintro m25 ⟨g_m25, h_m25⟩
          refine ⟨fun x3_30 m_30 => G m0 m_30 ∧ ((0 ≤ x3_30 ∧ x3_30 ≤ 600) ∧ (m_30 = m25 ∧ x3_30 ≤ rd m_30 284 67 ∧ ∀ A T F, (0 ≤ x1 ∧ x1 < A.Y 3) → (0 ≤ x2 ∧ x2 < A.Y 3) → wmP m25 A T F x1 → ∀ i : Nat, (i : Int) < x3_30 → ¬ bdN A.Y (WA A T x1 1 i) (fC A.r x2))), fun x3_30 m_30 => Int.toNat (600 - x3_30), ?_, ?_⟩
          · exact ⟨g_m25, by exact ⟨by first | omega | (refine ⟨?_, ?_⟩ <;> omega) | trivial, by exact ⟨rfl, (ty_284_67 g_m25.1).1, fun _ _ _ _ _ _ i h => by omega⟩⟩⟩
          · intro x3_30 m_30 r_x3_30 hI_30
            obtain ⟨g_m_30, hI_30⟩ := hI_30
            obtain ⟨hI_30, dI_30⟩ := hI_30
            have t1 := ty_284_67 g_m_30.1
            refine ⟨fun hq => ?_, fun hq => ?_⟩
            · skip
              exact ⟨g_m_30, by exact ⟨by first | trivial | omega | (refine ⟨?_, ?_⟩ <;> omega), by first | (have u := h_m57; exact fun A T F oY oR h tb => bes_M (wm_A h oY oR (ty_284_18 g_m.1) (by omega) (te_x h oY (by omega)) tb g_m g_m25 h_m25.2) (te_x h oY (by omega)) (te_x h oY (by omega)) (by assumption) dI_30.1 (by omega) (by omega) (dI_30.2.2 A T F (te_x h oY (by omega)) (te_x h oY (by omega)) (wm_A h oY oR (ty_284_18 g_m.1) (by omega) (te_x h oY (by omega)) tb g_m g_m25 h_m25.2)) (fun hc ho w => or_1 (bq_l dI_30.1 w hc ho (by omega) (by omega) (h_m57.2 A.Y A.E A.r (by rw [dI_30.1]; exact w.2.2.1))) (by omega))) | (have u := dI_30; exact fun A T F oY oR h tb => bes_M2 (wm_A h oY oR (ty_284_18 g_m.1) (by omega) (te_x h oY (by omega)) tb g_m g_m25 h_m25.2) (te_x h oY (by omega)) (te_x h oY (by omega)) (by assumption) dI_30.1 (by omega) (dI_30.2.2 A T F (te_x h oY (by omega)) (te_x h oY (by omega)) (wm_A h oY oR (ty_284_18 g_m.1) (by omega) (te_x h oY (by omega)) tb g_m g_m25 h_m25.2))) | exact fun A T F oY oR h tb => bes_Mn h hR_21.1 hR_21.2⟩⟩
            · skip
              refine ⟨⟨by omega, by omega⟩, ?_⟩
              try have w2 : wr (43 + x2) = 43 + x2 := wr_id (by omega) (by omega)
              refine ⟨⟨by omega, by omega⟩, ?_⟩
              have t3 := ty_329 g_m_30.1 (Int.toNat x3_30)
              try have q4 : dvI (rd m_30 329 (Int.toNat x3_30)) 24 = (rd m_30 329 (Int.toNat x3_30)) / 24 := dv_eq (by omega) (by omega) (by omega) (by omega)
              have t5 := tr_323 g_m_30.1 (Int.toNat (wr (43 + x2)))
              refine CK.mono (my_266   g_m_30.1 (io_rg _ _ _) (rd_rg _ _ _) (MW_G p0 g_m_30) (by omega)) (by decide) ?_
              rintro m57 v57 r_v57 ⟨e_m57, h_m57⟩
              replace e_m57 := e_m57.symm
              subst e_m57
              refine ⟨fun hq => ?_, fun hq => ?_⟩
              · skip
                try have w6 : wr (x3_30 + 1) = x3_30 + 1 := wr_id (by omega) (by omega)
                intro z3_75 e_z3_75
                have r_z3_75 : rg z3_75 := by rw [e_z3_75]; exact wr_rg _
                exact ⟨⟨g_m_30, by exact ⟨by first | omega | (refine ⟨?_, ?_⟩ <;> omega) | trivial, by exact ⟨dI_30.1, by omega, fun A T F hc ho w => bn_s (dI_30.2.2 A T F hc ho w) (by omega) (or_0 (bq_l dI_30.1 w hc ho (by omega) (by omega) (h_m57.2 A.Y A.E A.r (by rw [dI_30.1]; exact w.2.2.1))) (by omega))⟩⟩⟩, by (try dsimp only); omega⟩
              · skip
                refine ⟨⟨by omega, by omega⟩, ?_⟩
                refine ⟨⟨by omega, by omega⟩, ?_⟩
                exact ⟨g_m_30, by exact ⟨by first | trivial | omega | (refine ⟨?_, ?_⟩ <;> omega), by first | (have u := h_m57; exact fun A T F oY oR h tb => bes_M (wm_A h oY oR (ty_284_18 g_m.1) (by omega) (te_x h oY (by omega)) tb g_m g_m25 h_m25.2) (te_x h oY (by omega)) (te_x h oY (by omega)) (by assumption) dI_30.1 (by omega) (by omega) (dI_30.2.2 A T F (te_x h oY (by omega)) (te_x h oY (by omega)) (wm_A h oY oR (ty_284_18 g_m.1) (by omega) (te_x h oY (by omega)) tb g_m g_m25 h_m25.2)) (fun hc ho w => or_1 (bq_l dI_30.1 w hc ho (by omega) (by omega) (h_m57.2 A.Y A.E A.r (by rw [dI_30.1]; exact w.2.2.1))) (by omega))) | (have u := dI_30; exact fun A T F oY oR h tb => bes_M2 (wm_A h oY oR (ty_284_18 g_m.1) (by omega) (te_x h oY (by omega)) tb g_m g_m25 h_m25.2) (te_x h oY (by omega)) (te_x h oY (by omega)) (by assumption) dI_30.1 (by omega) (dI_30.2.2 A T F (te_x h oY (by omega)) (te_x h oY (by omega)) (wm_A h oY oR (ty_284_18 g_m.1) (by omega) (te_x h oY (by omega)) tb g_m g_m25 h_m25.2))) | exact fun A T F oY oR h tb => bes_Mn h hR_21.1 hR_21.2⟩⟩
        · skip
          exact ⟨g_m, by exact ⟨rfl, by omega⟩⟩
  · intro m_21  hR_21
    obtain ⟨g_m_21, hR_21⟩ := hR_21
    exact ⟨g_m_21, by exact ⟨by first | trivial | omega | (refine ⟨?_, ?_⟩ <;> omega), by first | (have u := h_m57; exact fun A T F oY oR h tb => bes_M (wm_A h oY oR (ty_284_18 g_m.1) (by omega) (te_x h oY (by omega)) tb g_m g_m25 h_m25.2) (te_x h oY (by omega)) (te_x h oY (by omega)) (by assumption) dI_30.1 (by omega) (by omega) (dI_30.2.2 A T F (te_x h oY (by omega)) (te_x h oY (by omega)) (wm_A h oY oR (ty_284_18 g_m.1) (by omega) (te_x h oY (by omega)) tb g_m g_m25 h_m25.2)) (fun hc ho w => or_1 (bq_l dI_30.1 w hc ho (by omega) (by omega) (h_m57.2 A.Y A.E A.r (by rw [dI_30.1]; exact w.2.2.1))) (by omega))) | (have u := dI_30; exact fun A T F oY oR h tb => bes_M2 (wm_A h oY oR (ty_284_18 g_m.1) (by omega) (te_x h oY (by omega)) tb g_m g_m25 h_m25.2) (te_x h oY (by omega)) (te_x h oY (by omega)) (by assumption) dI_30.1 (by omega) (dI_30.2.2 A T F (te_x h oY (by omega)) (te_x h oY (by omega)) (wm_A h oY oR (ty_284_18 g_m.1) (by omega) (te_x h oY (by omega)) tb g_m g_m25 h_m25.2))) | exact fun A T F oY oR h tb => bes_Mn h hR_21.1 hR_21.2⟩⟩
