/-! A crate never stands on a flag that is shut -/
def zS (Y r : Ro) : Prop := ∀ c : Int, 0 ≤ c → c < Y 3 → ¬ anI (srI (Y 2) (fC r c)) 1 = 1
theorem zS_ti {Y r : Ro} {E : Lw} {c k : Int} (oY : okY Y) (o : okR Y r) (h : zS Y r) (hc : 0 ≤ c ∧ c < Y 3) (hk : 0 ≤ k ∧ k ≤ 3) (cn : canN Y r c k) : zS Y (tiN Y E r c k) := fun d d0 d1 => by
  have nb := (nx_b oY (o c hc.1 hc.2) hk).resolve_left cn.1
  have b := wh_b oY.1 oY.2.1
  have y3 := oY.2.2
  rw [fC_ti ⟨hc.1, by omega⟩ ⟨d0, by omega⟩ (by omega)]
  by_cases q : d = c
  · rw [if_pos q]; exact cn.2.1
  · rw [if_neg q]; exact h d d0 d1
def ozS (Y r : Ro) : Prop := oz Y r ∧ zS Y r
theorem ozS_ti {Y r : Ro} {E : Lw} {c k : Int} (oY : okY Y) (h : ozS Y r) (hc : 0 ≤ c ∧ c < Y 3) (hk : 0 ≤ k ∧ k ≤ 3) (cn : canN Y r c k) : ozS Y (tiN Y E r c k) := ⟨oz_ti oY h.1 hc hk cn, zS_ti oY h.1.1 h.2 hc hk cn⟩
theorem ozS_sl {Y r : Ro} {E : Lw} {S c k w : Int} (oY : okY Y) (h : ozS Y r) (hc : 0 ≤ c ∧ c < Y 3) (hk : 0 ≤ k ∧ k ≤ 3) (cn : canN Y r c k) : ozS Y (slN Y E S r c k w) := by
  unfold slN
  split
  · exact ozS_ti oY h hc hk cn
  · exact h
theorem ozS_pa {Y r : Ro} {E : Lw} {S c : Int} (oY : okY Y) (h : ozS Y r) (hc : 0 ≤ c ∧ c < Y 3) : ozS Y (paN Y E S r c) := by
  have l := lot_b (n := 4) (s := S) (w := whN r c) (by decide)
  have hk : 0 ≤ lotI 4 S (whN r c) ∧ lotI 4 S (whN r c) ≤ 3 := ⟨l.1, by omega⟩
  unfold paN
  generalize lotI 4 S (whN r c) = k at hk
  by_cases q : canB Y r c k = true
  · rw [if_pos q]
    have h2 := ozS_ti (E := E) oY h hc hk (canB_t.mp q)
    by_cases q2 : canB Y (tiN Y E r c k) c k = true
    · rw [if_pos q2]
      exact ozS_sl oY h2 hc hk (canB_t.mp q2)
    · rw [if_neg q2]
      exact h2
  · rw [if_neg q]
    exact h
theorem ozS_ps {Y r : Ro} {E : Lw} {S : Int} (oY : okY Y) (h : ozS Y r) : ∀ n : Nat, (n : Int) ≤ Y 3 → ozS Y (psN Y E S r n)
  | 0, _ => h
  | n + 1, hn => ozS_pa oY (ozS_ps oY h n (by omega)) ⟨by omega, by omega⟩
theorem ozS_u {Y r : Ro} {i : Nat} {v : Int} (oY : okY Y) (h : ozS Y r) (hi : 46 ≤ i) : ozS Y (ro_u r i v) := by
  have y3 := oY.2.2
  refine ⟨oz_u oY h.1 hi, fun c c0 c1 => ?_⟩
  rw [fC_ne (by omega)]
  exact h.2 c c0 c1
theorem ozS_go {Y r : Ro} {E : Lw} {S : Int} (oY : okY Y) (h : ozS Y r) : ∀ n : Nat, ozS Y (goN Y E S r n)
  | 0 => h
  | n + 1 => by
    have h2 := ozS_go (E := E) (S := S) oY h n
    show ozS Y (miN Y E S (goN Y E S r n))
    unfold miN
    exact ozS_u oY (ozS_ps oY h2 _ (by have := oY.2.2; omega)) (by decide)
theorem zS_pa {A : Ab} {x k : Int} (h : zS A.Y A.r) (hx : 0 ≤ x ∧ x < A.Y 0 * A.Y 1) (b : A.Y 0 * A.Y 1 ≤ 25) (y3 : 0 ≤ A.Y 3) : zS A.Y (ro_u A.r (Int.toNat x) k) := fun c c0 c1 => by
  rw [fC_ne (by omega)]
  exact h c c0 c1
/-- of all rows that are kept -/
def okX (A : Ab) : Prop := zS A.Y A.r ∧ (∀ q : Nat, q < A.n → zS A.Y (A.H q)) ∧ ∀ s : Nat, s < 3 → ¬ A.K s = 0 → zS A.Y (A.S s)
theorem okX_no {A : Ab} {r : Ro} (h : okX A) (n40 : A.n ≤ 40) (hr : zS A.Y r) : okX (noA A r) := by
  refine ⟨hr, fun q hq => ?_, h.2.2⟩
  have hq2 : q < noN A.n := hq
  show zS A.Y (noH A.n A.H A.r q)
  unfold noN at hq2
  unfold noH
  by_cases z : A.n = 40
  · rw [if_pos z] at hq2 ⊢
    by_cases y : q = 39
    · rw [if_pos y]; exact h.1
    · rw [if_neg y]; exact h.2.1 _ (by omega)
  · rw [if_neg z] at hq2 ⊢
    by_cases y : q = A.n
    · rw [if_pos y]; exact h.1
    · rw [if_neg y]; exact h.2.1 _ (by omega)
theorem okX_un {A : Ab} (h : okX A) (n0 : ¬ A.n = 0) : okX (unB A) := ⟨h.2.1 _ (by omega), fun q hq => h.2.1 q (by have hq2 : q < A.n - 1 := hq; omega), h.2.2⟩
theorem okX_ho {A : Ab} {s : Nat} (h : okX A) : okX (hoA A s) := by
  refine ⟨h.1, h.2.1, fun t ht z => ?_⟩
  have z2 : ¬ (if t = s then 1 else A.K t) = 0 := z
  show zS A.Y (if t = s then A.r else A.S t)
  by_cases q : t = s
  · rw [if_pos q]; exact h.1
  · rw [if_neg q] at z2 ⊢
    exact h.2.2 t ht z2
theorem okX_re {A : Ab} {s : Nat} (h : okX A) (hs : s < 3) (z : ¬ A.K s = 0) : okX (reA A s) := ⟨h.2.2 s hs z, fun q hq => absurd hq (Nat.not_lt_zero q), h.2.2⟩
theorem okX_bg {s : Ps} {E : Lw} (h : zS (bgY s) (bgR s)) : okX (bgA s E) := ⟨h, fun q hq => absurd hq (Nat.not_lt_zero q), fun t _ z => absurd rfl z⟩
theorem gb_shB {w : Int} {F G : Nat → Int} {j : Nat} (hj : j < 32) : ∀ n : Nat, (∀ k : Nat, k < n → 0 ≤ w * G k + F k ∧ w * G k + F k < 32) → (gb (shB w F G n) j = true ↔ ∃ k : Nat, k < n ∧ w * G k + F k = (j : Int))
  | 0, _ => by
    show gb 0 j = true ↔ _
    rw [gb_z j hj]
    exact ⟨fun h => absurd h (by decide), fun ⟨k, h, _⟩ => absurd h (Nat.not_lt_zero k)⟩
  | n + 1, h => by
    have ih := gb_shB (w := w) (F := F) (G := G) hj n (fun k hk => h k (by omega))
    have b := h n (by omega)
    have e := gb_sl (Int.toNat (w * G n + F n)) (by omega) j hj
    rw [Int.toNat_of_nonneg b.1] at e
    show gb (orI (shB w F G n) (slI 1 (w * G n + F n))) j = true ↔ _
    rw [gb_or, e, Bool.or_eq_true, ih, decide_eq_true_iff]
    constructor
    · rintro (⟨k, h1, h2⟩ | q)
      · exact ⟨k, by omega, h2⟩
      · exact ⟨n, by omega, by omega⟩
    · rintro ⟨k, h1, h2⟩
      by_cases q : k = n
      · subst q; exact Or.inr (by omega)
      · exact Or.inl ⟨k, by omega, h2⟩
theorem zS_bg {s : Ps} (nb : ¬ bydP s) (oY : okY (bgY s)) (sh : ∀ k : Nat, (k : Int) < s 0 8 → 0 ≤ s 1 k ∧ 0 ≤ s 2 k) (cr : ∀ c : Nat, (c : Int) < s 0 10 → 0 ≤ s 6 c ∧ 0 ≤ s 7 c) : zS (bgY s) (bgR s) := by
  have hw : 2 ≤ s 0 5 ∧ s 0 5 ≤ 5 := oY.1
  have hh : 2 ≤ s 0 6 ∧ s 0 6 ≤ 5 := oY.2.1
  have h3 : 0 ≤ s 0 10 ∧ s 0 10 ≤ 3 := oY.2.2
  have wb := wh_b hw hh
  intro c c0 c1
  have c2 : c < s 0 10 := c1
  have ec : fC (bgR s) c = s 0 5 * s 7 (Int.toNat c) + s 6 (Int.toNat c) := r0_f c0 (by omega) (by omega)
  have o := nb_c nb (c := Int.toNat c) (by omega)
  have n := cr (Int.toNat c) (by omega)
  have u := yd_ub (h := s 0 6) hw o.1 o.2
  have lo : 0 ≤ s 0 5 * s 7 (Int.toNat c) := Int.mul_nonneg (by omega) n.2
  have shb : ∀ k : Nat, k < Int.toNat (s 0 8) → s 1 k < s 0 5 ∧ s 2 k < s 0 6 := fun k hk => by
    have q : ¬ offP s (s 1 k) (s 2 k) := fun w => nb (Or.inl ⟨k, by omega, w⟩)
    unfold offP at q
    omega
  have e := bt_i (bgY s 2) (f := fC (bgR s) c) (by omega)
  rw [e, bgY_2]
  intro w
  have g : gb (shB (s 0 5) (s 1) (s 2) (Int.toNat (s 0 8))) (Int.toNat (fC (bgR s) c)) = true := by
    apply Decidable.byContradiction
    intro z
    rw [if_neg z] at w
    exact absurd w (by decide)
  obtain ⟨k, k1, k2⟩ := (gb_shB (by omega) _ (fun k hk => by
    have a := shb k hk
    have b := sh k (by omega)
    have v := yd_ub (h := s 0 6) hw a.1 a.2
    have l := Int.mul_nonneg (show 0 ≤ s 0 5 by omega) b.2
    omega)).mp g
  rw [Int.toNat_of_nonneg (by omega), ec] at k2
  have a := shb k k1
  have b := sh k (by omega)
  have p := yd_in hw ⟨b.1, a.1⟩ ⟨n.1, o.1⟩ k2
  exact nb (Or.inr (Or.inr ⟨Int.toNat c, by omega, Or.inr (Or.inl ⟨k, by omega, p⟩)⟩))
theorem zS_read {m : Mm} {s : Ps} {E : Lw} (p : pdM m s E) (T : Ty m) (nb : ¬ bydP s) (oY : okY (bgY s)) : zS (bgY s) (bgR s) := by
  obtain ⟨⟨-, h2, -, h4, -⟩, -⟩ := p
  refine zS_bg nb oY (fun k hk => ?_) (fun k hk => ?_)
  · have q := h2 k hk
    rw [← q.1, ← q.2]
    exact ⟨(ty_296 T _).1, (ty_297 T _).1⟩
  · have q := h4 k hk
    rw [← q.1, ← q.2]
    exact ⟨(ty_303 T _).1, (ty_304 T _).1⟩
/-! There and back -/
theorem nx_back {Y : Ro} (y : okY Y) {f k : Int} (hf : 0 ≤ f ∧ f < Y 0 * Y 1) (hk : 0 ≤ k ∧ k ≤ 3) (n : ¬ nxN Y f k = -1) : nxN Y (nxN Y f k) ((k + 2) % 4) = f := by
  obtain ⟨hw, hh, -⟩ := y
  have d := yd_div hw hh hf
  have e : ∀ g j : Int, nxN Y g j = if 0 ≤ tXI (Y 0) g j ∧ tXI (Y 0) g j ≤ Y 0 - 1 ∧ 0 ≤ tYI (Y 0) g j ∧ tYI (Y 0) g j ≤ Y 1 - 1 then Y 0 * tYI (Y 0) g j + tXI (Y 0) g j else -1 := fun _ _ => rfl
  have c : 0 ≤ tXI (Y 0) f k ∧ tXI (Y 0) f k ≤ Y 0 - 1 ∧ 0 ≤ tYI (Y 0) f k ∧ tYI (Y 0) f k ≤ Y 1 - 1 := by
    apply Decidable.byContradiction
    intro q
    exact n (by rw [e, if_neg q])
  have v : nxN Y f k = Y 0 * tYI (Y 0) f k + tXI (Y 0) f k := by rw [e, if_pos c]
  have g1 : nxN Y f k % Y 0 = tXI (Y 0) f k ∧ nxN Y f k / Y 0 = tYI (Y 0) f k := by
    rw [v]
    generalize tXI (Y 0) f k = a at c
    generalize tYI (Y 0) f k = b at c
    generalize Y 0 = w at *
    have h1 : w = 2 ∨ w = 3 ∨ w = 4 ∨ w = 5 := by omega
    rcases h1 with rfl | rfl | rfl | rfl <;> omega
  have h3 : k = 0 ∨ k = 1 ∨ k = 2 ∨ k = 3 := by omega
  have g2 : tXI (Y 0) (nxN Y f k) ((k + 2) % 4) = f % Y 0 := by
    unfold tXI
    rw [g1.1]
    unfold tXI
    rcases h3 with rfl | rfl | rfl | rfl
    · rw [show ((0 : Int) + 2) % 4 = 2 by decide, if_pos rfl, if_neg (by decide), if_pos rfl]; omega
    · rw [show ((1 : Int) + 2) % 4 = 3 by decide, if_neg (by decide), if_neg (by decide), if_neg (by decide), if_neg (by decide)]; omega
    · rw [show ((2 : Int) + 2) % 4 = 0 by decide, if_neg (by decide), if_pos rfl, if_pos rfl]; omega
    · rw [show ((3 : Int) + 2) % 4 = 1 by decide, if_neg (by decide), if_neg (by decide), if_neg (by decide), if_neg (by decide)]; omega
  have g3 : tYI (Y 0) (nxN Y f k) ((k + 2) % 4) = f / Y 0 := by
    unfold tYI
    rw [g1.2]
    unfold tYI
    rcases h3 with rfl | rfl | rfl | rfl
    · rw [show ((0 : Int) + 2) % 4 = 2 by decide, if_neg (by decide), if_neg (by decide), if_neg (by decide), if_neg (by decide)]; omega
    · rw [show ((1 : Int) + 2) % 4 = 3 by decide, if_pos rfl, if_neg (by decide), if_pos rfl]; omega
    · rw [show ((2 : Int) + 2) % 4 = 0 by decide, if_neg (by decide), if_neg (by decide), if_neg (by decide), if_neg (by decide)]; omega
    · rw [show ((3 : Int) + 2) % 4 = 1 by decide, if_neg (by decide), if_pos rfl, if_pos rfl]; omega
  rw [e (nxN Y f k) ((k + 2) % 4), g2, g3, if_pos ⟨d.1.1, by omega, d.2.1.1, by omega⟩]
  exact d.2.2
def tI (T : Nat → Int) : Prop := ∀ l k : Nat, l < 24 → k < 4 → T (Int.toNat (4 * T (4 * l + k) + ((k + 2) % 4 : Nat))) = (l : Int)
theorem mv_ne {Y r : Ro} {T : Nat → Int} {c s k : Int} (y : okY Y) (hT : ∀ j, j < 96 → 0 ≤ T j ∧ T j ≤ 23) (hs : 0 ≤ s ∧ s < 24 * (Y 0 * Y 1)) (hk : 0 ≤ k ∧ k ≤ 3) : ¬ mvN Y r T c s k = s := by
  intro w
  have b := fre_b (r := r) (c := c) y (f := s / 24) (k := k) ⟨by omega, by omega⟩ hk
  have nb := nx_b y (f := s / 24) (k := k) ⟨by omega, by omega⟩ hk
  have t := hT (Int.toNat (4 * (s % 24) + k)) (by omega)
  unfold mvN at w
  by_cases q : freN Y r c (s / 24) k = -1
  · rw [if_pos q] at w; omega
  · rw [if_neg q] at w
    have b2 := b.resolve_left q
    rcases nb with nb | nb
    · omega
    · have := nb.2
      omega
theorem mv_back {Y r : Ro} {T : Nat → Int} {c s k : Int} (y : okY Y) (hT : ∀ j, j < 96 → 0 ≤ T j ∧ T j ≤ 23) (ti : tI T) (ds : dsR Y r) (z : zS Y r) (hc : 0 ≤ c ∧ c < Y 3) (hs : 0 ≤ s ∧ s < 24 * (Y 0 * Y 1)) (hf : s / 24 = fC r c) (hk : 0 ≤ k ∧ k ≤ 3) (n : ¬ mvN Y r T c s k = -1) : mvN Y r T c (mvN Y r T c s k) ((k + 2) % 4) = s := by
  have b := fre_b (r := r) (c := c) y (f := s / 24) (k := k) ⟨by omega, by omega⟩ hk
  have t := hT (Int.toNat (4 * (s % 24) + k)) (by omega)
  have q : ¬ freN Y r c (s / 24) k = -1 := fun w => n (by unfold mvN; rw [if_pos w])
  have b2 := b.resolve_left q
  have e : mvN Y r T c s k = 24 * freN Y r c (s / 24) k + T (Int.toNat (4 * (s % 24) + k)) := by
    unfold mvN
    rw [if_neg q]
  have e1 : mvN Y r T c s k / 24 = freN Y r c (s / 24) k := by omega
  have e2 : mvN Y r T c s k % 24 = T (Int.toNat (4 * (s % 24) + k)) := by omega
  have nb : nxN Y (freN Y r c (s / 24) k) ((k + 2) % 4) = s / 24 := by
    rw [b2.1]
    exact nx_back y ⟨by omega, by omega⟩ hk (by rw [← b2.1]; exact q)
  have y3 := y.2.2
  have fr : freN Y r c (freN Y r c (s / 24) k) ((k + 2) % 4) = s / 24 := by
    have u : freN Y r c (freN Y r c (s / 24) k) ((k + 2) % 4) = if nxN Y (freN Y r c (s / 24) k) ((k + 2) % 4) = -1 ∨ anI (srI (Y 2) (nxN Y (freN Y r c (s / 24) k) ((k + 2) % 4))) 1 = 1 ∨ (¬ c = 0 ∧ 1 ≤ Y 3 ∧ r 43 = nxN Y (freN Y r c (s / 24) k) ((k + 2) % 4)) ∨ (¬ c = 1 ∧ 2 ≤ Y 3 ∧ r 44 = nxN Y (freN Y r c (s / 24) k) ((k + 2) % 4)) ∨ (¬ c = 2 ∧ 3 ≤ Y 3 ∧ r 45 = nxN Y (freN Y r c (s / 24) k) ((k + 2) % 4)) then -1 else nxN Y (freN Y r c (s / 24) k) ((k + 2) % 4) := rfl
    rw [u, nb, if_neg]
    rintro (w | w | ⟨w1, w2, w3⟩ | ⟨w1, w2, w3⟩ | ⟨w1, w2, w3⟩)
    · omega
    · rw [hf] at w; exact z c hc.1 hc.2 w
    · rw [hf] at w3; exact w1 (ds 0 c (by omega) (by omega) hc.1 hc.2 w3).symm
    · rw [hf] at w3; exact w1 (ds 1 c (by omega) (by omega) hc.1 hc.2 w3).symm
    · rw [hf] at w3; exact w1 (ds 2 c (by omega) (by omega) hc.1 hc.2 w3).symm
  have ti2 := ti (Int.toNat (s % 24)) (Int.toNat k) (by omega) (by omega)
  rw [show 4 * Int.toNat (s % 24) + Int.toNat k = Int.toNat (4 * (s % 24) + k) by omega, show (((Int.toNat k + 2) % 4 : Nat) : Int) = (k + 2) % 4 by omega] at ti2
  have g : mvN Y r T c (mvN Y r T c s k) ((k + 2) % 4) = if freN Y r c (mvN Y r T c s k / 24) ((k + 2) % 4) = -1 then -1 else 24 * freN Y r c (mvN Y r T c s k / 24) ((k + 2) % 4) + T (Int.toNat (4 * (mvN Y r T c s k % 24) + (k + 2) % 4)) := rfl
  rw [g, e1, e2, fr, ti2, if_neg (by omega)]
  omega
/-! but the start none by no tipping -/
def okO (W : Wk) : Prop := 1 ≤ W 0 0 ∧ ∀ i : Nat, 1 ≤ i → (i : Int) < W 0 0 → 1 ≤ W 2 (Int.toNat (W 1 i))
section OKO
variable {W : Wk} {s v N : Int} {mv : Int → Int → Int}
theorem vis_O (o : okWk N W) (k : okO W) (hv : 1 ≤ v) (n : W 2 (Int.toNat s) = -1) : okO (vis W s v) := by
  by_cases h : W 0 0 < 600
  · refine ⟨by rw [vis_0 h]; have := k.1; omega, fun i i1 hi => ?_⟩
    rw [vis_0 h] at hi
    by_cases q : (i : Int) < W 0 0
    · rw [vis_1 o.1.1 q, vis_2 h, if_neg]
      · exact k.2 i i1 q
      · intro w
        have z := o.2.2.2 i q
        rw [w, n] at z
        omega
    · rw [vis_n h (by omega), vis_2 h, if_pos rfl]; exact hv
  · have e : vis W s v = W := by unfold vis; rw [if_neg h]
    rw [e]; exact k
theorem vk_O {k : Int} (o : okWk N W) (kO : okO W) (h2 : 0 ≤ W 2 (Int.toNat s)) : okO (vk mv W s k) := by
  unfold vk
  split
  · exact kO
  · split
    · next q2 =>
      have b := o.2.2.1 (Int.toNat s)
      have n := o.1
      exact vis_O o kO (by rw [wr_id (by omega) (by omega)]; omega) q2
    · exact kO
theorem v4_O (c : cloN mv N) (o : okWk N W) (kO : okO W) (hs : 0 ≤ s ∧ s < N) (h2 : 0 ≤ W 2 (Int.toNat s)) : ∀ k : Nat, k ≤ 4 → okO (v4 mv W s k)
  | 0, _ => kO
  | k + 1, hk => vk_O (v4_ok c o hs h2 k (by omega)) (v4_O c o kO hs h2 k (by omega)) (by rw [v4_2 h2]; exact h2)
/-- where one tipping leads is come to -/
theorem v4_n (c : cloN mv N) (o : okWk N W) (hs : 0 ≤ s ∧ s < N) (h2 : 0 ≤ W 2 (Int.toNat s)) (room : W 0 0 + 4 ≤ 600) : ∀ k : Nat, k ≤ 4 → v4 mv W s k 0 0 ≤ W 0 0 + (k : Int) ∧ ∀ j : Nat, j < k → ¬ mv s (j : Int) = -1 → 0 ≤ v4 mv W s k 2 (Int.toNat (mv s (j : Int)))
  | 0, _ => ⟨by show W 0 0 ≤ W 0 0 + ((0 : Nat) : Int); omega, fun j hj => absurd hj (Nat.not_lt_zero j)⟩
  | k + 1, hk => by
    have ih := v4_n c o hs h2 room k (by omega)
    have o4 := v4_ok c o hs h2 k (by omega)
    have e4 := v4_2 (mv := mv) (s := s) h2 k
    have lt : v4 mv W s k 0 0 < 600 := by omega
    show vk mv (v4 mv W s k) s (k : Int) 0 0 ≤ W 0 0 + ((k + 1 : Nat) : Int) ∧ ∀ j : Nat, j < k + 1 → ¬ mv s (j : Int) = -1 → 0 ≤ vk mv (v4 mv W s k) s (k : Int) 2 (Int.toNat (mv s (j : Int)))
    refine ⟨?_, fun j hj n => ?_⟩
    · unfold vk
      split
      · omega
      · split
        · rw [vis_0 lt]; omega
        · omega
    · by_cases q : j = k
      · subst q
        unfold vk
        rw [if_neg n]
        by_cases w : v4 mv W s j 2 (Int.toNat (mv s (j : Int))) = -1
        · have b := o4.2.2.1 (Int.toNat s)
          rw [if_pos w, vis_2 lt, if_pos rfl, wr_id (by omega) (by omega)]
          omega
        · have b := o4.2.2.1 (Int.toNat (mv s (j : Int)))
          rw [if_neg w]; omega
      · have p := ih.2 j (by omega) n
        rw [vk_2 p]; exact p
end OKO
theorem vr_O {mv : Int → Int → Int} {N : Int} (c : cloN mv N) : ∀ (f i : Nat) (W : Wk), okWk N W → okO W → okO (vr mv f i W)
  | 0, _, _, _, k => k
  | f + 1, i, W, o, k => by
    show okO (if (i : Int) < W 0 0 then vr mv f (i + 1) (v4 mv W (W 1 i) 4) else W)
    by_cases h : (i : Int) < W 0 0
    · rw [if_pos h]
      have hs := o.2.1 i h
      have hd := o.2.2.2 i h
      exact vr_O c f (i + 1) _ (v4_ok c o hs hd 4 (Nat.le_refl _)) (v4_O c o k hs hd 4 (Nat.le_refl _))
    · rw [if_neg h]; exact k
theorem FIN_O {mv : Int → Int → Int} {N st : Int} (c : cloN mv N) (h : 0 ≤ st ∧ st < N) : okO (FIN mv st) := by
  have o := vis_ok (v := 0) (okW_0 N) h ⟨Int.le_refl _, Int.le_refl _⟩
  have l : w00 0 0 < 600 := by decide
  have e0 : vis w00 st 0 0 0 = 1 := vis_0 l
  refine vr_O c 600 0 _ o ⟨by rw [e0]; decide, fun i i1 hi => ?_⟩
  rw [e0] at hi
  omega
theorem FIN_n {mv : Int → Int → Int} {N st : Int} (c : cloN mv N) (h : 0 ≤ st ∧ st < N) {k : Int} (hk : 0 ≤ k ∧ k ≤ 3) (n : ¬ mv st k = -1) : 0 ≤ FIN mv st 2 (Int.toNat (mv st k)) ∧ FIN mv st 2 (Int.toNat (mv st k)) ≤ 1 := by
  have o := vis_ok (v := 0) (okW_0 N) h ⟨Int.le_refl _, Int.le_refl _⟩
  have l : w00 0 0 < 600 := by decide
  have e0 : vis w00 st 0 0 0 = 1 := vis_0 l
  have e1 : vis w00 st 0 1 0 = st := vis_n l rfl
  have e2 : vis w00 st 0 2 (Int.toNat st) = 0 := by rw [vis_2 l, if_pos rfl]
  have k0 : okV w00 := fun j hj => by
    have : (0 : Int) ≤ -1 := hj
    omega
  have m0 : okM w00 := fun a b _ hb => by
    have : (b : Int) < 0 := hb
    omega
  have b0 : okB w00 0 := fun b hb => by
    have : (b : Int) < 0 := hb
    omega
  have m := vis_M (s := st) (v := 0) (okW_0 N) m0 b0 rfl
  have kV := vis_V (s := st) (okW_0 N) k0 (Int.le_refl 0)
  have q := v4_n c o h (by rw [e2]; exact Int.le_refl 0) (by rw [e0]; decide) 4 (Nat.le_refl _)
  have M := v4_M (d := 0) c o kV m.1 (fun b hb => by have := m.2 b hb; omega) h ⟨e2, Int.le_refl 0⟩ 4 (Nat.le_refl _)
  have v := q.2 (Int.toNat k) (by omega) (by rw [Int.toNat_of_nonneg hk.1]; exact n)
  rw [Int.toNat_of_nonneg hk.1] at v
  obtain ⟨i, i1, i2⟩ := M.1 _ v
  have u := M.2.2 i i1
  rw [i2] at u
  have f : FIN mv st = vr mv 599 1 (v4 mv (vis w00 st 0) (vis w00 st 0 1 0) 4) := by
    show (if ((0 : Nat) : Int) < vis w00 st 0 0 0 then vr mv 599 (0 + 1) (v4 mv (vis w00 st 0) (vis w00 st 0 1 0) 4) else vis w00 st 0) = _
    rw [if_pos (by rw [e0]; decide)]
  rw [f, e1]
  have lp := v4_le (mv := mv) (W := vis w00 st 0) (s := st) 4
  have p := (vr_1 (mv := mv) 599 1 (v4 mv (vis w00 st 0) st 4) (by omega)).2.2 _ v
  rw [p]
  exact ⟨v, by omega⟩
theorem vrk {mv : Int → Int → Int} {N : Int} (c : cloN mv N) : ∀ (f i : Nat) (W : Wk), okWk N W → okWk N (vr mv f i W)
  | 0, _, _, o => o
  | f + 1, i, W, o => by
    show okWk N (if (i : Int) < W 0 0 then vr mv f (i + 1) (v4 mv W (W 1 i) 4) else W)
    by_cases h : (i : Int) < W 0 0
    · rw [if_pos h]
      exact vrk c f (i + 1) _ (v4_ok c o (o.2.1 i h) (o.2.2.2 i h) 4 (Nat.le_refl _))
    · rw [if_neg h]; exact o
theorem vr_ok {mv : Int → Int → Int} {N st : Int} (c : cloN mv N) (h : 0 ≤ st ∧ st < N) : okWk N (FIN mv st) := vrk c 600 0 _ (vis_ok (v := 0) (okW_0 N) h ⟨Int.le_refl _, Int.le_refl _⟩)
/-! round: as it lies now; turned -/
def baP (W : Wk) (mv : Int → Int → Int) (st v : Int) : Prop := (v = -2 ∧ ∀ (i : Nat) (k : Int), (i : Int) < W 0 0 → 0 ≤ k → k ≤ 3 → ¬ mv (W 1 i) k = st) ∨ ∃ (i : Nat) (k : Int), (i : Int) < W 0 0 ∧ (0 ≤ k ∧ k ≤ 3) ∧ mv (W 1 i) k = st ∧ v = W 2 (Int.toNat (W 1 i)) + 1 ∧ ∀ (j : Nat) (l : Int), (j : Int) < W 0 0 → 0 ≤ l → l ≤ 3 → mv (W 1 j) l = st → v ≤ W 2 (Int.toNat (W 1 j)) + 1
theorem ba_2 {A : Ab} {T : Nat → Int} {c v : Int} (oY : okY A.Y) (hT : ∀ j, j < 96 → 0 ≤ T j ∧ T j ≤ 23) (ti : tI T) (oR : okR A.Y A.r) (ds : dsR A.Y A.r) (z : zS A.Y A.r) (hc : 0 ≤ c ∧ c < A.Y 3) (W : Wk) (eW : W = FIN (mvN A.Y A.r T c) (24 * fC A.r c)) (h : baP W (mvN A.Y A.r T c) (24 * fC A.r c) v) : v = if W 0 0 ≤ 1 then -2 else 2 := by
  have own := oR c hc.1 hc.2
  have clo := mv_clo (r := A.r) (T := T) (c := c) oY hT
  have hs : 0 ≤ 24 * fC A.r c ∧ 24 * fC A.r c < 24 * (A.Y 0 * A.Y 1) := ⟨by omega, by omega⟩
  have f1 := FIN_1 (mv := mvN A.Y A.r T c) (st := 24 * fC A.r c)
  have fO := FIN_O clo hs
  have fV := (FIN_M clo hs).1
  rw [← eW] at f1 fO fV
  have own1 : ∀ i : Nat, (i : Int) < W 0 0 → i = 0 → W 1 i = 24 * fC A.r c := fun i _ e => by rw [e]; exact f1.1
  have ge2 : ∀ (i : Nat) (k : Int), (i : Int) < W 0 0 → 0 ≤ k → k ≤ 3 → mvN A.Y A.r T c (W 1 i) k = 24 * fC A.r c → 1 ≤ W 2 (Int.toNat (W 1 i)) := fun i k h1 k0 k1 e => by
    by_cases q : i = 0
    · rw [own1 i h1 q] at e
      exact absurd e (mv_ne oY hT hs ⟨k0, k1⟩)
    · exact fO.2 i (by omega) h1
  by_cases q : W 0 0 ≤ 1
  · rw [if_pos q]
    rcases h with ⟨h1, -⟩ | ⟨i, k, h1, h2, h3, -⟩
    · exact h1
    · rw [own1 i h1 (by omega)] at h3
      exact absurd h3 (mv_ne oY hT hs h2)
  · rw [if_neg q]
    -- some tipping leads on
    have some : ∃ k : Int, (0 ≤ k ∧ k ≤ 3) ∧ ¬ mvN A.Y A.r T c (24 * fC A.r c) k = -1 := by
      apply Classical.byContradiction
      intro no
      have no2 : ∀ k : Nat, k < 4 → mvN A.Y A.r T c (24 * fC A.r c) (k : Int) = -1 := fun k hk => by
        apply Classical.byContradiction
        intro w
        exact no ⟨(k : Int), by omega, w⟩
      have l : w00 0 0 < 600 := by decide
      have e0 : vis w00 (24 * fC A.r c) 0 0 0 = 1 := vis_0 l
      have e1 : vis w00 (24 * fC A.r c) 0 1 0 = 24 * fC A.r c := vis_n l rfl
      have s4 : ∀ k : Nat, k ≤ 4 → v4 (mvN A.Y A.r T c) (vis w00 (24 * fC A.r c) 0) (24 * fC A.r c) k = vis w00 (24 * fC A.r c) 0 := by
        intro k
        induction k with
        | zero => exact fun _ => rfl
        | succ k ih =>
          intro hk
          show vk (mvN A.Y A.r T c) (v4 (mvN A.Y A.r T c) (vis w00 (24 * fC A.r c) 0) (24 * fC A.r c) k) (24 * fC A.r c) (k : Int) = _
          rw [ih (by omega)]
          unfold vk
          rw [if_pos (no2 k (by omega))]
      have f : FIN (mvN A.Y A.r T c) (24 * fC A.r c) = vis w00 (24 * fC A.r c) 0 := by
        show (if ((0 : Nat) : Int) < vis w00 (24 * fC A.r c) 0 0 0 then vr (mvN A.Y A.r T c) 599 (0 + 1) (v4 (mvN A.Y A.r T c) (vis w00 (24 * fC A.r c) 0) (vis w00 (24 * fC A.r c) 0 1 0) 4) else vis w00 (24 * fC A.r c) 0) = _
        rw [if_pos (by rw [e0]; decide), e1, s4 4 (Nat.le_refl _)]
        show (if ((0 + 1 : Nat) : Int) < vis w00 (24 * fC A.r c) 0 0 0 then vr (mvN A.Y A.r T c) 598 (0 + 1 + 1) (v4 (mvN A.Y A.r T c) (vis w00 (24 * fC A.r c) 0) (vis w00 (24 * fC A.r c) 0 1 (0 + 1)) 4) else vis w00 (24 * fC A.r c) 0) = _
        rw [if_neg (by rw [e0]; decide)]
      rw [eW, f, e0] at q
      exact q (Int.le_refl 1)
    obtain ⟨k, hk, nk⟩ := some
    have fn := FIN_n clo hs hk nk
    have bk := mv_back oY hT ti ds z hc hs (by omega) hk nk
    rw [← eW] at fn
    have oW := (clo (24 * fC A.r c) k hs.1 hs.2 hk.1 hk.2).resolve_left nk
    obtain ⟨i, i1, i2⟩ := fV _ fn.1
    rcases h with ⟨-, h2⟩ | ⟨j, l, j1, j2, j3, j4, j5⟩
    · have e : W 1 i = mvN A.Y A.r T c (24 * fC A.r c) k := by
        have w := (vr_ok clo hs).2.1 i (by rw [← eW]; exact i1)
        rw [← eW] at w
        omega
      exact absurd (by rw [e]; exact bk) (h2 i ((k + 2) % 4) i1 (by omega) (by omega))
    · have e : W 1 i = mvN A.Y A.r T c (24 * fC A.r c) k := by
        have w := (vr_ok clo hs).2.1 i (by rw [← eW]; exact i1)
        rw [← eW] at w
        omega
      have a := j5 i ((k + 2) % 4) i1 (by omega) (by omega) (by rw [e]; exact bk)
      have g := ge2 j l j1 j2.1 j2.2 j3
      rw [i2] at a
      omega
