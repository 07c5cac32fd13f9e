/-! all that can be come to stands in the order -/
def viF (W : Wk) : Nat → Bool := fun s => decide (0 ≤ W 2 s)
/-- as many in the order as have a number -/
def okN (W : Wk) : Prop := W 0 0 = ((cnF (viF W) 600 : Nat) : Int)
section CLOSE
variable {W : Wk} {s v N : Int} {mv : Int → Int → Int}
theorem vis_N (hs : 0 ≤ s ∧ s < 600) (hv : 0 ≤ v) (n : W 2 (Int.toNat s) = -1) (o : okN W) (h : W 0 0 < 600) : okN (vis W s v) := by
  have e : viF (vis W s v) = bw (viF W) (Int.toNat s) true := funext fun i => by
    unfold viF
    rw [vis_2 h]
    by_cases q : i = Int.toNat s
    · rw [if_pos q, q, bw_e, decide_eq_true hv]
    · rw [if_neg q, bw_n q]
  unfold okN at o ⊢
  rw [vis_0 h, e, cnF_t (w := viF W) (s := Int.toNat s) (by unfold viF; rw [n]; rfl) 600 (by omega), o]
  omega
theorem vk_N {k : Int} (c : cloN mv N) (hN : N ≤ 600) (oW : okWk N W) (hs : 0 ≤ s ∧ s < N) (h2 : 0 ≤ W 2 (Int.toNat s)) (hk : 0 ≤ k ∧ k ≤ 3) (o : okN W) : okN (vk mv W s k) ∧ (mv s k = -1 ∨ 0 ≤ vk mv W s k 2 (Int.toNat (mv s k))) := by
  have w2 := oW.2.2.1 (Int.toNat s)
  have w0 := oW.1
  unfold vk
  by_cases q : mv s k = -1
  · rw [if_pos q]
    exact ⟨o, Or.inl q⟩
  · have cl := (c s k hs.1 hs.2 hk.1 hk.2).resolve_left q
    rw [if_neg q]
    by_cases p : W 2 (Int.toNat (mv s k)) = -1
    · rw [if_pos p]
      by_cases h : W 0 0 < 600
      · have w : wr (W 2 (Int.toNat s) + 1) = W 2 (Int.toNat s) + 1 := wr_id (by omega) (by omega)
        refine ⟨vis_N ⟨cl.1, by omega⟩ (by omega) p o h, Or.inr ?_⟩
        rw [vis_2 h, if_pos rfl]
        omega
      · -- all are there
        have a := cnF_le (viF W) 600
        have o2 : W 0 0 = ((cnF (viF W) 600 : Nat) : Int) := o
        have t := cnF_a (w := viF W) 600 (by omega) (Int.toNat (mv s k)) (by omega)
        unfold viF at t
        rw [p] at t
        exact absurd t (by decide)
    · rw [if_neg p]
      have w3 := oW.2.2.1 (Int.toNat (mv s k))
      exact ⟨o, Or.inr (by omega)⟩
theorem v4_N (c : cloN mv N) (hN : N ≤ 600) (oW : okWk N W) (hs : 0 ≤ s ∧ s < N) (h2 : 0 ≤ W 2 (Int.toNat s)) (o : okN W) : ∀ n : Nat, n ≤ 4 → okN (v4 mv W s n) ∧ ∀ k : Int, 0 ≤ k → k < (n : Int) → mv s k = -1 ∨ 0 ≤ v4 mv W s n 2 (Int.toNat (mv s k))
  | 0, _ => ⟨o, fun k k0 k1 => by omega⟩
  | n + 1, hn => by
    obtain ⟨i1, i2⟩ := v4_N c hN oW hs h2 o n (by omega)
    have ok := v4_ok c oW hs h2 n (by omega)
    have e2 : 0 ≤ v4 mv W s n 2 (Int.toNat s) := by
      rw [v4_2 h2 n]
      exact h2
    obtain ⟨k1, k2⟩ := vk_N (k := (n : Int)) c hN ok hs e2 ⟨by omega, by omega⟩ i1
    refine ⟨k1, fun k k0 kn => ?_⟩
    by_cases q : k = (n : Int)
    · rw [q]
      exact k2
    · rcases i2 k k0 (by omega) with a | a
      · exact Or.inl a
      · refine Or.inr ?_
        show 0 ≤ vk mv (v4 mv W s n) s (n : Int) 2 (Int.toNat (mv s k))
        rw [vk_2 a]
        exact a
/-- from those before i all is come to -/
def clW (mv : Int → Int → Int) (W : Wk) (i : Nat) : Prop := ∀ j : Nat, j < i → (j : Int) < W 0 0 → ∀ k : Int, 0 ≤ k → k ≤ 3 → mv (W 1 j) k = -1 ∨ 0 ≤ W 2 (Int.toNat (mv (W 1 j) k))
theorem vr_N (c : cloN mv N) (hN : N ≤ 600) : ∀ (f i : Nat) (W : Wk), i + f = 600 → okWk N W → okN W → clW mv W i → clW mv (vr mv f i W) 600
  | 0, i, W, e, oW, o, k => by
    rw [show i = 600 by omega] at k
    exact k
  | f + 1, i, W, e, oW, o, k => by
    show clW mv (if (i : Int) < W 0 0 then vr mv f (i + 1) (v4 mv W (W 1 i) 4) else W) 600
    by_cases q : (i : Int) < W 0 0
    · rw [if_pos q]
      have r := oW.2.1 i q
      have r2 := oW.2.2.2 i q
      have ok := v4_ok c oW r r2 4 (Nat.le_refl 4)
      have k4 := v4_N c hN oW r r2 o 4 (Nat.le_refl 4)
      refine vr_N c hN f (i + 1) _ (by omega) ok k4.1 (fun j hj hj2 k2 k0 k1 => ?_)
      have hj3 : (j : Int) < W 0 0 := by omega
      rw [v4_1 oW.1.1 hj3 4]
      by_cases z : j = i
      · subst z
        exact k4.2 k2 k0 (by omega)
      · rcases k j (by omega) hj3 k2 k0 k1 with a | a
        · exact Or.inl a
        · refine Or.inr ?_
          rw [v4_2 a 4]
          exact a
    · rw [if_neg q]
      exact fun j hj hj2 => k j (by omega) hj2
theorem FIN_C {st : Int} (c : cloN mv N) (hN : N ≤ 600) (hst : 0 ≤ st ∧ st < N) : clW mv (FIN mv st) 600 := by
  have o0 : okN w00 := by
    unfold okN
    have e : cnF (viF w00) 600 = cnF (fun _ => false) 600 := cnF_cg 600 (fun i _ => rfl)
    rw [e, cnF_0]
    rfl
  refine vr_N c hN 600 0 (vis w00 st 0) rfl (vis_ok (okW_0 N) hst ⟨Int.le_refl _, Int.le_refl _⟩) (vis_N ⟨hst.1, by omega⟩ (Int.le_refl 0) rfl o0 (by decide)) (fun j hj => by omega)
end CLOSE
/-! the model's costs -/
def wcP (m : Mm) (A : Ab) (T F : Nat → Int) (c : Int) : Prop := wmP m A T F c ∧ agL m (mvN A.Y A.r T c) (24 * (A.Y 0 * A.Y 1)) ∧ cloN (mvN A.Y A.r T c) (24 * (A.Y 0 * A.Y 1)) ∧ (∀ j : Nat, j < 96 → rd m 320 j = T j ∧ 0 ≤ T j ∧ T j ≤ 23) ∧ (0 ≤ rd m 284 18 ∧ rd m 284 18 ≤ 1)
theorem wc_A {m0 m m2 : Mm} {A : Ab} {T F : Nat → Int} {c : Int} (h : mA m A) (oY : okY A.Y) (oR : okR A.Y A.r) (l : 0 ≤ rd m 284 18 ∧ rd m 284 18 ≤ 1) (c2 : c ≤ 2) (hc : 0 ≤ c ∧ c < A.Y 3) (tb : tbR m 319 320 F T) (g : G m0 m) (g2 : G m0 m2) (p : ∃ ml, fsP m ml c ∧ f29 ml m2 ∧ wlF ml m2 c) : wcP m2 A T F c := by
  have w := wm_A h oY oR l c2 hc tb g g2 p
  obtain ⟨ml, p1, p2, p3⟩ := p
  obtain ⟨⟨yl, al⟩, ag, t9⟩ := fs_A h oY oR l p1 tb.2
  have clo := mv_clo (r := A.r) (T := T) (c := c) oY (fun j hj => by rw [← tb.2 j hj]; exact ty_320 g.1 j)
  obtain ⟨m1, cp, f5, -⟩ := p1
  have e20 : ∀ j, rd m2 320 j = rd m 320 j := fun j => (p2 320 j (by omega) (by omega)).trans ((f5 320 j (by decide)).trans (cp.2.2 320 j (by omega) (by omega)))
  refine ⟨w, fun s k s0 s1 k0 k1 => (p2 325 _ (by omega) (by omega)).trans (ag s k s0 s1 k0 k1), clo, fun j hj => ⟨(e20 j).trans (tb.2 j hj), by rw [← tb.2 j hj]; exact ty_320 g.1 j⟩, ?_⟩
  rw [p2 284 18 (by omega) (by omega), f5 284 18 (by decide), cp.2.2 284 18 (by decide) (by decide)]
  exact l
/-- what the costs' work leaves -/
def n33 (m m2 : Mm) : Prop := ∀ i j : Nat, ¬ (i = 317 ∨ i = 318 ∨ i = 330 ∨ i = 331 ∨ (i = 284 ∧ j = 51)) → rd m2 i j = rd m i j
theorem n33.sy {m m2 : Mm} (h : n33 m m2) : n33 m2 m := fun i j q => (h i j q).symm
theorem n33.tr {a b c : Mm} (h : n33 a b) (k : n33 b c) : n33 a c := fun i j q => (k i j q).trans (h i j q)
theorem wc_fr {m m2 : Mm} {A : Ab} {T F : Nat → Int} {c : Int} (h : wcP m A T F c) (f : n33 m m2) : wcP m2 A T F c := by
  obtain ⟨⟨w1, w2, w3, w4, w5, w6⟩, h2, h3, h4, h5⟩ := h
  have fr : ∀ i j : Nat, (plR i j ∨ i = 322 ∨ i = 324 ∨ i = 339 ∨ i = 340 ∨ (i = 284 ∧ j = 60)) → rd m2 i j = rd m i j := fun i j q => f i j (by unfold plR at q; omega)
  refine ⟨⟨w1, wkR_fr w2 (f 284 67 (by omega)) (fun j => f 329 j (by omega)) (fun j => f 326 j (by omega)), ⟨plM_fr w3.1 h5 (fun i j q => fr i j (Or.inl q)), fun j hj => (f 323 j (by omega)).trans (w3.2.1 j hj), w3.2.2⟩, mA_fr w4 h5 fr, fun j hj => (f 319 j (by omega)).trans (w5 j hj), w6⟩, fun s k s0 s1 k0 k1 => (f 325 _ (by omega)).trans (h2 s k s0 s1 k0 k1), h3, fun j hj => ⟨(f 320 j (by omega)).trans (h4 j hj).1, (h4 j hj).2⟩, ?_⟩
  rw [f 284 18 (by omega)]
  exact h5
abbrev hcA (A : Ab) (c : Int) : Prop := 0 ≤ c ∧ c < A.Y 3
/-- the costs that stand in the row: those of the order's places below x, and of x below y -/
def ctI (m : Mm) (c x y : Int) : Prop := ∀ A T F, wcP m A T F c → hcA A c → ∀ (i : Nat) (k : Int), (i : Int) < rd m 284 67 → 0 ≤ k → k ≤ 3 → ((i : Int) < x ∨ ((i : Int) = x ∧ k < y)) → ¬ mvN A.Y A.r T c (WA A T c 1 i) k = -1 → rd m 331 (Int.toNat (4 * WA A T c 1 i + k)) = cqN A T F c (WA A T c 1 i) k
/-- a look from a standing -/
theorem vf_f {m : Mm} {A : Ab} {T F : Nat → Int} {c s k : Int} (w : wcP m A T F c) (hc : hcA A c) (hs : 0 ≤ s ∧ s < 24 * (A.Y 0 * A.Y 1)) (hk : 0 ≤ k ∧ k ≤ 3) (nz : ¬ mvN A.Y A.r T c s k = -1) : ∀ i : Int, 0 ≤ i → i ≤ 8 → vfI m c (s / 24) (s % 24) k i = vaI A.Y A.r c (s / 24) k (mkN A.r F c (mvN A.Y A.r T c s k) 0) (mkN A.r F c (mvN A.Y A.r T c s k) 1) i := by
  obtain ⟨⟨-, -, ⟨⟨⟨p0, p1, p2, p3, p4⟩, L, T'⟩, S, oY, oR⟩, -, f9, fb⟩, -, -, t9, -⟩ := w
  have y3 := oY.2.2
  have wb := wh_b oY.1 oY.2.1
  have o : 0 ≤ s / 24 ∧ s / 24 < A.Y 0 * A.Y 1 := by omega
  have nb := nx_b oY o hk
  have hc0 : 0 ≤ c ∧ c < A.Y 3 := hc
  have tj := t9 (Int.toNat (4 * (s % 24) + k)) (by omega)
  have em : mvN A.Y A.r T c s k % 24 = T (Int.toNat (4 * (s % 24) + k)) := by
    unfold mvN at nz ⊢
    by_cases q : freN A.Y A.r c (s / 24) k = -1
    · rw [if_pos q] at nz
      exact absurd rfl nz
    · rw [if_neg q]
      omega
  have mk : ∀ t : Int, 0 ≤ t → t ≤ 5 → rd m 323 (Int.toNat (25 + 6 * c + rd m 319 (Int.toNat (6 * rd m 320 (Int.toNat (4 * (s % 24) + k)) + t)))) = mkN A.r F c (mvN A.Y A.r T c s k) t := fun t t0 t1 => by
    have b := fb (Int.toNat (T (Int.toNat (4 * (s % 24) + k)) * 6 + t)) (by omega)
    unfold mkN
    rw [em, tj.1, show Int.toNat (6 * T (Int.toNat (4 * (s % 24) + k)) + t) = Int.toNat (T (Int.toNat (4 * (s % 24) + k)) * 6 + t) by omega, f9 _ (by omega), S _ (by omega)]
    exact congrArg A.r (by omega)
  have k0 := mk 0 (by decide) (by decide)
  have k1 := mk 1 (by decide) (by decide)
  intro i h0 h8
  unfold vfI vaI
  rw [p0, p1, k0, k1, S (Int.toNat (46 + c)) (by omega), S 49 (by omega)]
  have e2 : (if 0 ≤ fbyI (A.Y 0) (A.Y 1) (s / 24) k then rd m 323 (Int.toNat (fbyI (A.Y 0) (A.Y 1) (s / 24) k)) else 0) = (if nxN A.Y (s / 24) k = -1 then 0 else A.r (Int.toNat (nxN A.Y (s / 24) k))) := by
    show (if 0 ≤ nxN A.Y (s / 24) k then rd m 323 (Int.toNat (nxN A.Y (s / 24) k)) else 0) = _
    rcases nb with q | q
    · rw [if_neg (by omega), if_pos q]
    · rw [if_pos (by omega), if_neg (by omega), S _ (by omega)]
  rw [e2]
theorem sV_1 {m m98 : Mm} (g : GX sV m m98) {j : Nat} : rd m98 331 j = rd m 331 j := g.2.1 331 j (sV_no (by omega) (by omega) (by omega))
section CT
variable {m20 m m98 m101 m2 : Mm} {c x y z v : Int}
theorem cst_i : ctI m c 0 0 := fun A T F w hc i k hi k0 k1 q => by omega
theorem cst_n (d : ctI m c x y) (hy : 4 ≤ y) (ez : z = x + 1) : ctI m c z 0 := fun A T F w hc i k hi k0 k1 q => d A T F w hc i k hi k0 k1 (by omega)
theorem cst_f (d : ctI m c x 0) (hx : rd m 284 67 ≤ x) : ctI m c (rd m 284 67) 0 := fun A T F w hc i k hi k0 k1 q => d A T F w hc i k hi k0 k1 (by omega)
theorem n33_0 {q : Nat} (d : n33 m20 m) (e : m2 = wt m 330 q v) : n33 m20 m2 := fun i j h => by
  rw [e, rd_wt, if_neg (fun w => h (Or.inr (Or.inr (Or.inl w.1))))]
  exact d i j h
theorem sV_n {i j : Nat} (g : GX sV m m98) (h : ¬ (i = 317 ∨ i = 318 ∨ i = 330 ∨ i = 331 ∨ (i = 284 ∧ j = 51))) : rd m98 i j = rd m i j := g.2.1 i j (sV_no (by omega) (by omega) (by omega))
theorem n33_w {q : Nat} (d : n33 m20 m) (g : GX sV m m98) (e : m101 = wt m98 331 q v) : n33 m20 m101 := fun i j h => by
  rw [e, rd_wt, if_neg (fun w => h (Or.inr (Or.inr (Or.inr (Or.inl w.1)))))]
  exact (sV_n g h).trans (d i j h)
theorem cst_w {q : Nat} (d : ctI m c (rd m 284 67) 0) (e : m2 = wt m 330 q v) : ctI m2 c (rd m2 284 67) 0 := by
  have f : n33 m m2 := n33_0 (fun _ _ _ => rfl) e
  have e67 : rd m2 284 67 = rd m 284 67 := f 284 67 (by omega)
  rw [e67]
  refine fun A T F w hc i k hi k0 k1 q n => ?_
  rw [e, rd_wt, if_neg (by omega)]
  exact d A T F (wc_fr w f.sy) hc i k (by rw [← e67]; exact hi) k0 k1 q n
theorem wc_s {A : Ab} {T F : Nat → Int} (w : wcP m A T F c) {i : Nat} (hi : (i : Int) < rd m 284 67) : rd m 329 i = WA A T c 1 i ∧ (0 ≤ WA A T c 1 i ∧ WA A T c 1 i < 24 * (A.Y 0 * A.Y 1)) ∧ 24 * (A.Y 0 * A.Y 1) ≤ 600 := by
  obtain ⟨⟨w1, w2, w3, -⟩, -⟩ := w
  have e := w2.1
  have b := wh_b w3.2.2.1.1 w3.2.2.1.2.1
  exact ⟨w2.2.1 i (by omega), w1.2.1 i (by omega), by omega⟩
theorem cst_0 {q : Nat} (d : ctI m c x y) (hx : 0 ≤ x ∧ 0 ≤ y ∧ y ≤ 3) (eq : q = Int.toNat (4 * rd m 329 (Int.toNat x) + y)) (n : rd m 325 q < 0) : ctI m c x (y + 1) := fun A T F w hc i k hi k0 k1 h nz => by
  by_cases p : (i : Int) = x ∧ k = y
  · exfalso
    obtain ⟨p1, p2⟩ := p
    have s := wc_s w hi
    have ag := w.2.1 (WA A T c 1 i) k s.2.1.1 s.2.1.2 k0 k1
    have cl := w.2.2.1 (WA A T c 1 i) k s.2.1.1 s.2.1.2 k0 k1
    rw [eq, show Int.toNat x = i by omega, s.1, ← p2, ag] at n
    omega
  · exact d A T F w hc i k hi k0 k1 (by omega) nz
theorem cst_1 {q : Nat} (d : ctI m c x y) (hx : 0 ≤ x ∧ 0 ≤ y ∧ y ≤ 3) (eq : q = Int.toNat (4 * rd m 329 (Int.toNat x) + y)) (_n : ¬ rd m 325 q < 0) (g : GX sV m m98) (p : (0 ≤ v ∧ v ≤ 99) ∧ ∀ E, LM m E → v = clI 99 (lval (vfI m c (dvI (rd m 329 (Int.toNat x)) 24) (rmI (rd m 329 (Int.toNat x)) 24) y) (E 2).1 (E 2).2)) (rv : rg v) (b : 0 ≤ rd m 329 (Int.toNat x) ∧ rd m 329 (Int.toNat x) ≤ 599) (e : m101 = wt m98 331 q v) : ctI m101 c x (y + 1) := by
  have f : n33 m m101 := n33_w (fun _ _ _ => rfl) g e
  have e67 : rd m101 284 67 = rd m 284 67 := f 284 67 (by omega)
  refine fun A T F w hc i k hi k0 k1 h nz => ?_
  have w0 := wc_fr w f.sy
  rw [e67] at hi
  have s := wc_s w0 hi
  rw [e, rd_wt]
  by_cases p0 : Int.toNat (4 * WA A T c 1 i + k) = q
  · -- the same standing and way
    have e1 : WA A T c 1 i = rd m 329 (Int.toNat x) ∧ k = y := by omega
    rw [if_pos ⟨rfl, p0⟩, wr_i rv]
    have ym := w0.1.2.2.1
    have L := ym.1.2.1
    rw [p.2 A.E L, dv_eq b.1 (by omega) (by omega) (by omega), rm_eq b.1 (by omega) (by omega) (by omega), ← e1.1, ← e1.2]
    have cl := (w0.2.2.1 (WA A T c 1 i) k s.2.1.1 s.2.1.2 k0 k1).resolve_left nz
    have W := (L 2 (by decide) (by decide)).1
    have g2 := lval_cg (vf_f w0 hc s.2.1 ⟨k0, k1⟩ nz) W.2 W.1
    unfold cqN
    rw [g2]
  · rw [if_neg (fun z => p0 z.2), sV_1 g]
    exact d A T F w0 hc i k hi k0 k1 (by
      by_cases z : (i : Int) = x ∧ k = y
      · exfalso
        apply p0
        rw [eq, z.2, show Int.toNat x = i by omega, s.1]
      · omega) nz
end CT
/-! least so far -/
abbrev dMw (m : Mm) (s : Int) : Int := rd m 330 (Int.toNat s)
def bfI (m : Mm) (c : Int) : Prop := ctI m c (rd m 284 67) 0 ∧ ∀ A T F, wcP m A T F c → hcA A c → (∀ s : Int, 0 ≤ s → s < 24 * (A.Y 0 * A.Y 1) → dMw m s = -1 ∨ (0 ≤ dMw m s ∧ 0 ≤ WA A T c 2 (Int.toNat s) ∧ wlkC (mvN A.Y A.r T c) (cqN A T F c) (24 * fC A.r c) s (dMw m s))) ∧ dMw m (24 * fC A.r c) = 0
/-- no less by the first x4 tippings -/
def rlP (m : Mm) (c x4 : Int) : Prop := ∀ A T F, wcP m A T F c → hcA A c → ∀ (i : Nat) (k : Int), (i : Int) < rd m 284 67 → 0 ≤ k → k ≤ 3 → 4 * (i : Int) + k < x4 → 0 ≤ dMw m (WA A T c 1 i) → ¬ mvN A.Y A.r T c (WA A T c 1 i) k = -1 → 0 ≤ dMw m (mvN A.Y A.r T c (WA A T c 1 i) k) ∧ dMw m (mvN A.Y A.r T c (WA A T c 1 i) k) ≤ dMw m (WA A T c 1 i) + cqN A T F c (WA A T c 1 i) k
theorem wc_o {m : Mm} {A : Ab} {T F : Nat → Int} {c : Int} (w : wcP m A T F c) (hc : hcA A c) : 0 ≤ fC A.r c ∧ fC A.r c < A.Y 0 * A.Y 1 := w.1.2.2.1.2.2.2 c hc.1 hc.2
theorem ty_600 {m : Mm} {A : Ab} {T F : Nat → Int} {c : Int} (w : wcP m A T F c) : rd m 284 67 ≤ 600 := by
  rw [w.1.2.1.1]
  exact w.1.1.1.2
section BF
variable {m20 m m147 m272 : Mm} {c p z v x1 x2 x4 x5 y4 : Int}
theorem bf_i (d : n33 m20 m ∧ ctI m c (rd m 284 67) 0) (h : ∀ j : Nat, j < 600 → rd m 330 j = -1) (e : m147 = wt m 330 (Int.toNat (rd m 329 0)) 0) : n33 m20 m147 ∧ bfI m147 c ∧ ((1 : Int) = 0 → rlP m147 c (4 * rd m147 284 67)) := by
  have f : n33 m m147 := n33_0 (fun _ _ _ => rfl) e
  refine ⟨n33_0 d.1 e, ⟨cst_w d.2 e, fun A T F w hc => ?_⟩, fun z => absurd z (by decide)⟩
  have w0 := wc_fr w f.sy
  have o := wc_o w hc
  have b := wh_b w.1.2.2.1.2.2.1.1 w.1.2.2.1.2.2.1.2.1
  have f1 := FIN_1 (mv := mvN A.Y A.r T c) (st := 24 * fC A.r c)
  have n1 : 0 < rd m 284 67 := by
    rw [w0.1.2.1.1]
    show 0 < WA A T c 0 0
    have q : 1 ≤ WA A T c 0 0 := f1.2.1
    omega
  have e9 : rd m 329 0 = 24 * fC A.r c := (wc_s w0 (i := 0) (by omega)).1.trans f1.1
  rw [e9] at e
  have D : ∀ s : Int, 0 ≤ s → s < 24 * (A.Y 0 * A.Y 1) → dMw m147 s = if s = 24 * fC A.r c then 0 else -1 := fun s s0 s1 => by
    show rd m147 330 (Int.toNat s) = _
    rw [e, rd_wt]
    by_cases q : s = 24 * fC A.r c
    · rw [if_pos ⟨rfl, by omega⟩, if_pos q]
      rfl
    · rw [if_neg (by omega), if_neg q]
      exact h _ (by omega)
  refine ⟨fun s s0 s1 => ?_, ?_⟩
  · rw [D s s0 s1]
    by_cases q : s = 24 * fC A.r c
    · rw [if_pos q, q]
      refine Or.inr ⟨Int.le_refl 0, ?_, wlkC_0⟩
      have q2 : WA A T c 2 (Int.toNat (24 * fC A.r c)) = 0 := f1.2.2
      omega
    · rw [if_neg q]
      exact Or.inl rfl
  · rw [D _ (by omega) (by omega), if_pos rfl]
theorem rl_0 : rlP m c 0 := fun A T F w hc i k hi k0 k1 l => by omega
theorem rl_f (d : rlP m c x4) (h : 4 * rd m 284 67 ≤ x4) : rlP m c (4 * rd m 284 67) := fun A T F w hc i k hi k0 k1 l => d A T F w hc i k hi k0 k1 (by omega)
/-- the pair of the number p -/
theorem pr_s {A : Ab} {T F : Nat → Int} (w : wcP m A T F c) {z5 : Int} (hp : 0 ≤ p ∧ p < 4 * rd m 284 67) (e5 : z5 = rd m 329 (Int.toNat (p / 4))) : z5 = WA A T c 1 (Int.toNat (p / 4)) ∧ (0 ≤ z5 ∧ z5 < 24 * (A.Y 0 * A.Y 1)) ∧ 24 * (A.Y 0 * A.Y 1) ≤ 600 := by
  have s := wc_s w (i := Int.toNat (p / 4)) (by omega)
  have e := e5.trans s.1
  refine ⟨e, ?_, s.2.2⟩
  rw [e]
  exact s.2.1
theorem rl_st (d : rlP m c p) (hp : 0 ≤ p ∧ p < 4 * rd m 284 67) (k : ∀ A T F, wcP m A T F c → hcA A c → 0 ≤ dMw m (WA A T c 1 (Int.toNat (p / 4))) → ¬ mvN A.Y A.r T c (WA A T c 1 (Int.toNat (p / 4))) (p % 4) = -1 → 0 ≤ dMw m (mvN A.Y A.r T c (WA A T c 1 (Int.toNat (p / 4))) (p % 4)) ∧ dMw m (mvN A.Y A.r T c (WA A T c 1 (Int.toNat (p / 4))) (p % 4)) ≤ dMw m (WA A T c 1 (Int.toNat (p / 4))) + cqN A T F c (WA A T c 1 (Int.toNat (p / 4))) (p % 4)) : rlP m c (p + 1) := fun A T F w hc i k2 hi k0 k1 l h nz => by
  by_cases q : 4 * (i : Int) + k2 = p
  · have ei : i = Int.toNat (p / 4) := by omega
    have ek : k2 = p % 4 := by omega
    rw [ei] at h
    rw [ei, ek] at nz ⊢
    exact k A T F w hc h nz
  · exact d A T F w hc i k2 hi k0 k1 (by omega) h nz
theorem rl_a {z5 z6 : Int} (d : rlP m c p) (hp : 0 ≤ p ∧ p < 4 * rd m 284 67) (e5 : z5 = rd m 329 (Int.toNat (p / 4))) (e6 : z6 = rd m 325 (Int.toNat (4 * z5 + p % 4))) (n : z6 < 0) : rlP m c (p + 1) := rl_st d hp (fun A T F w hc h nz => by
  have s := pr_s w hp e5
  have ag := w.2.1 z5 (p % 4) s.2.1.1 s.2.1.2 (by omega) (by omega)
  have cl := w.2.2.1 z5 (p % 4) s.2.1.1 s.2.1.2 (by omega) (by omega)
  rw [← s.1] at nz
  rw [← e6] at ag
  omega)
theorem rl_b {z5 : Int} (d : rlP m c p) (hp : 0 ≤ p ∧ p < 4 * rd m 284 67) (e5 : z5 = rd m 329 (Int.toNat (p / 4))) (n : ¬ 0 ≤ rd m 330 (Int.toNat z5)) : rlP m c (p + 1) := rl_st d hp (fun A T F w hc h nz => by
  have s := pr_s w hp e5
  rw [← s.1] at h
  exact absurd h n)
theorem rl_c {z5 z6 z7 : Int} {q : Nat} (b : bfI m c) (d : rlP m c p) (hp : 0 ≤ p ∧ p < 4 * rd m 284 67) (_hz : 0 ≤ z5 ∧ z5 ≤ 599) (e5 : z5 = rd m 329 (Int.toNat (p / 4))) (e6 : z6 = rd m 325 (Int.toNat (4 * z5 + p % 4))) (eq : q = Int.toNat (4 * z5 + p % 4)) (_n6 : ¬ z6 < 0) (e7 : z7 = rd m 330 (Int.toNat z5) + rd m 331 q) (n : 0 ≤ rd m 330 (Int.toNat z6) ∧ rd m 330 (Int.toNat z6) ≤ z7) : rlP m c (p + 1) := rl_st d hp (fun A T F w hc h nz => by
  have s := pr_s w hp e5
  have ag := w.2.1 z5 (p % 4) s.2.1.1 s.2.1.2 (by omega) (by omega)
  rw [← e6] at ag
  have ct := b.1 A T F w hc (Int.toNat (p / 4)) (p % 4) (by omega) (by omega) (by omega) (Or.inl (by omega)) nz
  rw [← s.1] at ct h nz ⊢
  rw [← ag]
  rw [eq, ct] at e7
  show 0 ≤ rd m 330 (Int.toNat z6) ∧ rd m 330 (Int.toNat z6) ≤ rd m 330 (Int.toNat z5) + cqN A T F c z5 (p % 4)
  omega)
theorem bf_w {z5 z6 z7 : Int} {q : Nat} (b : bfI m c) (hp : 0 ≤ p ∧ p < 4 * rd m 284 67) (_hz : 0 ≤ z5 ∧ z5 ≤ 599) (e5 : z5 = rd m 329 (Int.toNat (p / 4))) (e6 : z6 = rd m 325 (Int.toNat (4 * z5 + p % 4))) (eq : q = Int.toNat (4 * z5 + p % 4)) (n6 : 0 ≤ z6 ∧ z6 ≤ 599) (e7 : z7 = rd m 330 (Int.toNat z5) + rd m 331 q) (h5 : 0 ≤ rd m 330 (Int.toNat z5)) (lt : rd m 330 (Int.toNat z6) < 0 ∨ z7 < rd m 330 (Int.toNat z6)) (e7r : rg z7) (e : m272 = wt m 330 (Int.toNat z6) z7) : bfI m272 c := by
  have f : n33 m m272 := n33_0 (fun _ _ _ => rfl) e
  refine ⟨cst_w b.1 e, fun A T F w2 hc => ?_⟩
  have w := wc_fr w2 f.sy
  have s := pr_s w hp e5
  have ag := w.2.1 z5 (p % 4) s.2.1.1 s.2.1.2 (by omega) (by omega)
  have clo := w.2.2.1 z5 (p % 4) s.2.1.1 s.2.1.2 (by omega) (by omega)
  rw [← e6] at ag
  rw [← ag] at clo
  have nz : ¬ mvN A.Y A.r T c z5 (p % 4) = -1 := by omega
  have ct := b.1 A T F w hc (Int.toNat (p / 4)) (p % 4) (by omega) (by omega) (by omega) (Or.inl (by omega)) (by rw [← s.1]; exact nz)
  rw [← s.1] at ct
  rw [eq, ct] at e7
  have cb := (cq_B (A := A) (T := T) (F := F) (c := c)) z5 (p % 4)
  obtain ⟨b1, b2⟩ := b.2 A T F w hc
  have o := wc_o w hc
  have k5 := (b1 z5 s.2.1.1 s.2.1.2).resolve_left (fun y => by
    have y : rd m 330 (Int.toNat z5) = -1 := y
    omega)
  have st := wlkC_s k5.2.2 (k := p % 4) ⟨by omega, by omega⟩ nz
  rw [← ag] at st
  have fin := FIN_C (st := 24 * fC A.r c) w.2.2.1 s.2.2 ⟨by omega, by omega⟩ (Int.toNat (p / 4)) (by have := ty_600 w; omega) (by
    have e0 : rd m 284 67 = WA A T c 0 0 := w.1.2.1.1
    show ((Int.toNat (p / 4) : Nat) : Int) < WA A T c 0 0
    omega) (p % 4) (by omega) (by omega)
  have fin2 : mvN A.Y A.r T c (WA A T c 1 (Int.toNat (p / 4))) (p % 4) = -1 ∨ 0 ≤ WA A T c 2 (Int.toNat (mvN A.Y A.r T c (WA A T c 1 (Int.toNat (p / 4))) (p % 4))) := fin
  rw [← s.1, ← ag] at fin2
  have D : ∀ s : Int, 0 ≤ s → dMw m272 s = if s = z6 then z7 else dMw m s := fun s s0 => by
    show rd m272 330 (Int.toNat s) = _
    rw [e, rd_wt]
    by_cases y : s = z6
    · rw [if_pos ⟨rfl, by omega⟩, if_pos y, wr_i e7r]
    · rw [if_neg (by omega), if_neg y]
  refine ⟨fun s0 h0 h1 => ?_, ?_⟩
  · rw [D s0 h0]
    by_cases y : s0 = z6
    · rw [if_pos y, y]
      refine Or.inr ⟨by omega, fin2.resolve_left (by omega), ?_⟩
      rw [e7]
      exact st
    · rw [if_neg y]
      exact b1 s0 h0 h1
  · rw [D _ (by omega), if_neg]
    · exact b2
    · intro y
      have y2 : dMw m z6 = 0 := by
        rw [← y]
        exact b2
      have y3 : rd m 330 (Int.toNat z6) = 0 := y2
      omega
/-! the least on a flag -/
def miP (m : Mm) (x2 x4 x5 : Int) : Prop := (x4 = -2 ∧ ∀ s : Int, 24 * x2 ≤ s → s < x5 → dMw m s < 0) ∨ (0 ≤ x4 ∧ (∃ s : Int, (24 * x2 ≤ s ∧ s < x5) ∧ dMw m s = x4) ∧ ∀ s : Int, 24 * x2 ≤ s → s < x5 → 0 ≤ dMw m s → x4 ≤ dMw m s)
theorem mi_0 (h : x5 = 24 * x2) : miP m x2 (-2) x5 := Or.inl ⟨rfl, fun s h0 h1 => by omega⟩
theorem mi_s (d : miP m x2 x4 x5) (r : (rd m 330 (Int.toNat x5) < 0 ∧ y4 = x4) ∨ (0 ≤ rd m 330 (Int.toNat x5) ∧ (x4 < 0 ∨ ¬ x4 ≤ rd m 330 (Int.toNat x5)) ∧ y4 = rd m 330 (Int.toNat x5)) ∨ (0 ≤ rd m 330 (Int.toNat x5) ∧ ¬ (x4 < 0 ∨ ¬ x4 ≤ rd m 330 (Int.toNat x5)) ∧ y4 = x4)) (h : 24 * x2 ≤ x5) (ez : z = x5 + 1) : miP m x2 y4 z := by
  rcases r with ⟨r1, r2⟩ | ⟨r1, r2, r3⟩ | ⟨r1, r2, r3⟩
  · rcases d with ⟨d1, d2⟩ | ⟨d1, ⟨s, d2, d3⟩, d4⟩
    · refine Or.inl ⟨r2.trans d1, fun s h0 h1 => ?_⟩
      by_cases q : s = x5
      · rw [q]
        exact r1
      · exact d2 s h0 (by omega)
    · rw [r2]
      refine Or.inr ⟨d1, ⟨s, ⟨d2.1, by omega⟩, d3⟩, fun s h0 h1 h2 => ?_⟩
      by_cases q : s = x5
      · rw [q] at h2
        have h3 : 0 ≤ rd m 330 (Int.toNat x5) := h2
        omega
      · exact d4 s h0 (by omega) h2
  · rw [r3]
    refine Or.inr ⟨r1, ⟨x5, ⟨h, by omega⟩, rfl⟩, fun s h0 h1 h2 => ?_⟩
    by_cases q : s = x5
    · rw [q]
      exact Int.le_refl _
    · rcases d with ⟨d1, d2⟩ | ⟨d1, -, d4⟩
      · have := d2 s h0 (by omega)
        omega
      · have := d4 s h0 (by omega) h2
        omega
  · rcases d with ⟨d1, d2⟩ | ⟨d1, ⟨s, d2, d3⟩, d4⟩
    · omega
    · rw [r3]
      refine Or.inr ⟨d1, ⟨s, ⟨d2.1, by omega⟩, d3⟩, fun s h0 h1 h2 => ?_⟩
      by_cases q : s = x5
      · rw [q]
        show x4 ≤ rd m 330 (Int.toNat x5)
        omega
      · exact d4 s h0 (by omega) h2
theorem fl_M {A : Ab} (h : mA m A) (q : 0 ≤ x2 ∧ x2 < rd m 293 (Int.toNat (rd m 284 18)) * rd m 294 (Int.toNat (rd m 284 18))) : 0 ≤ x2 ∧ x2 < A.Y 0 * A.Y 1 := by
  rw [h.1.1.1, h.1.1.2.1] at q
  exact q
theorem che_M {A : Ab} {T F : Nat → Int} (w20 : wcP m20 A T F x1) (hc : 0 ≤ x1 ∧ x1 < A.Y 3) (hf : 0 ≤ x2 ∧ x2 < A.Y 0 * A.Y 1) (f : n33 m20 m) (b : bfI m x1) (r : rlP m x1 (4 * rd m 284 67)) (d : miP m x2 x4 x5) (h5 : x5 = 24 * x2 + 24) : cheA A T F x1 x2 x4 ∧ mA m A := by
  have w := wc_fr w20 f
  have o := wc_o w hc
  have wb := wh_b w.1.2.2.1.2.2.1.1 w.1.2.2.1.2.2.1.2.1
  obtain ⟨b1, b2⟩ := b.2 A T F w hc
  have q := r A T F w hc
  refine ⟨Or.inr ⟨⟨hc, hf⟩, ?_⟩, w.1.2.2.2.1⟩
  have V := (FIN_M (st := 24 * fC A.r x1) w.2.2.1 ⟨by omega, by omega⟩).1
  have le := bf_le (mv := mvN A.Y A.r T x1) (cs := cqN A T F x1) (D := dMw m) w.2.2.1 (st := 24 * fC A.r x1) ⟨by omega, by omega⟩ b2 (fun s k s0 s1 k0 k1 h nz => by
    have t := (b1 s s0 s1).resolve_left (fun y => by
      have y : dMw m s = -1 := y
      omega)
    obtain ⟨i, i1, i2⟩ := ord_V w.1.1 V ⟨s0, s1⟩ t.2.1
    have i3 : WA A T x1 1 i = s := i2
    have i4 : (i : Int) < WA A T x1 0 0 := i1
    have e0 : rd m 284 67 = WA A T x1 0 0 := w.1.2.1.1
    have z := q i k (by omega) k0 k1 (by omega) (by rw [i3]; exact h) (by rw [i3]; exact nz)
    rw [i3] at z
    exact z)
  rcases d with ⟨d1, d2⟩ | ⟨d1, ⟨s, d2, d3⟩, d4⟩
  · refine Or.inl ⟨d1, fun s c ⟨n, hn⟩ hs => ?_⟩
    have t := le n s c hn
    have := d2 s (by omega) (by omega)
    omega
  · refine Or.inr ⟨⟨s, ?_, by omega⟩, fun s2 c ⟨n, hn⟩ hs => ?_⟩
    · have t := (b1 s (by omega) (by omega)).resolve_left (fun y => by
        have y : dMw m s = -1 := y
        omega)
      rw [← d3]
      exact t.2.2
    · have t := le n s2 c hn
      have := d4 s2 (by omega) (by omega) t.2.1
      omega
theorem che_Mn {m16 : Mm} {A : Ab} {T F : Nat → Int} (h : mA m A) (e : m16 = m) (q : ¬ (0 ≤ x1 ∧ x1 < rd m 302 (Int.toNat (rd m 284 18))) ∨ ¬ (0 ≤ x2 ∧ x2 < rd m 293 (Int.toNat (rd m 284 18)) * rd m 294 (Int.toNat (rd m 284 18)))) : cheA A T F x1 x2 (-1) ∧ mA m16 A := by
  subst e
  rw [h.1.1.2.2.2.1, h.1.1.1, h.1.1.2.1] at q
  exact ⟨Or.inl ⟨by omega, rfl⟩, h⟩
end BF
-- TippedCratesModel.cheapest(II)I
set_option maxRecDepth 20000 in
theorem my_251 {m0 m : Mm} {x1 : Int} {x2 : Int}  (g_m : G m0 m) (r_x1 : rg x1) (r_x2 : rg x2) (p0 : MW m0) (p1 : lawsM m0) : CK 6 251 [.ref 284, iv x1, iv x2] m (fun m2 v => G m0 m2 ∧ ((True) ∧ (∀ A T F, okY A.Y → okR A.Y A.r → mA m A → tbR m 319 320 F T → cheA A T F x1 x2 v ∧ mA m2 A))) := by
  refine br_251 r_x1 r_x2 ?_
  unfold P_251
  refine CK.mono (ct_210   g_m.1 r_x1) (by decide) ?_
  rintro m2 v2 r_v2 ⟨e_m2, h_m2⟩
  replace e_m2 := e_m2.symm
  subst e_m2
  refine ⟨fun m_16 => G m0 m_16 ∧ (m_16 = m ∧ (¬ (0 ≤ x1 ∧ x1 < rd m 302 (Int.toNat (rd m 284 18))) ∨ ¬ (0 ≤ x2 ∧ x2 < rd m 293 (Int.toNat (rd m 284 18)) * rd m 294 (Int.toNat (rd m 284 18))))), ?_, ?_⟩
  · skip
    refine ⟨fun hq => ?_, fun hq => ?_⟩
    · skip
      exact ⟨g_m, by exact ⟨rfl, by omega⟩⟩
    · skip
      refine CK.mono (mz_209   g_m.1 r_x2 (MW_G p0 g_m)) (by decide) ?_
      rintro m10 v10 r_v10 ⟨e_m10, h_m10⟩
      replace e_m10 := e_m10.symm
      subst e_m10
      refine ⟨fun hq => ?_, fun hq => ?_⟩
      · skip
        refine CV.mono (my_249   g_m r_x1 p0 (by omega)) (by decide) ?_
        rintro m20 ⟨g_m20, h_m20⟩
        refine ⟨fun x3_25 m_25 => G m0 m_25 ∧ ((0 ≤ x3_25 ∧ x3_25 ≤ 600) ∧ (n33 m20 m_25 ∧ ctI m_25 x1 x3_25 0)), fun x3_25 m_25 => Int.toNat (600 - x3_25), ?_, ?_⟩
        · exact ⟨g_m20, by exact ⟨by first | omega | (refine ⟨?_, ?_⟩ <;> omega) | trivial, by exact ⟨fun _ _ _ => rfl, cst_i⟩⟩⟩
        · intro x3_25 m_25 r_x3_25 hI_25
          obtain ⟨g_m_25, hI_25⟩ := hI_25
          obtain ⟨hI_25, dI_25⟩ := hI_25
          have t1 := ty_284_67 g_m_25.1
          refine ⟨fun hq => ?_, fun hq => ?_⟩
          · skip
            refine ⟨fun x3_116 m_116 => G m0 m_116 ∧ (((0 ≤ x3_116 ∧ x3_116 ≤ 600) ∧ ∀ j : Nat, (j : Int) < x3_116 → rd m_116 330 j = -1) ∧ (n33 m20 m_116 ∧ ctI m_116 x1 (rd m_116 284 67) 0)), fun x3_116 m_116 => Int.toNat (600 - x3_116), ?_, ?_⟩
            · exact ⟨g_m_25, by exact ⟨by exact ⟨by omega, fun j hj => by omega⟩, by exact ⟨dI_25.1, cst_f dI_25.2 (by omega)⟩⟩⟩
            · intro x3_116 m_116 r_x3_116 hI_116
              obtain ⟨g_m_116, hI_116⟩ := hI_116
              obtain ⟨hI_116, dI_116⟩ := hI_116
              refine ⟨fun hq => ?_, fun hq => ?_⟩
              · skip
                have t2 := ty_329 g_m_116.1 0
                refine ⟨⟨by omega, by omega⟩, ?_⟩
                intro m147 e_m147
                have g_m147 : G m0 m147 := by rw [e_m147]; exact GX.wt g_m_116 (tw_330 g_m_116.1 (by first | assumption | omega)) (Eq.refl true)
                have c147 : chOk m147 := by rw [e_m147]; exact ch_one (by omega) (fun j hj => hI_116.2 j (by omega))
                refine ⟨fun x3_150 m_150 => G m0 m_150 ∧ (((x3_150 = 0 ∨ x3_150 = 1) ∧ chOk m_150) ∧ (n33 m20 m_150 ∧ bfI m_150 x1 ∧ (x3_150 = 0 → rlP m_150 x1 (4 * rd m_150 284 67)))), fun x3_150 m_150 => 2 * chPot m_150 + Int.toNat x3_150, ?_, ?_⟩
                · exact ⟨g_m147, by exact ⟨by exact ⟨by omega, c147⟩, by exact bf_i dI_116 (fun j hj => hI_116.2 j (by omega)) e_m147⟩⟩
                · intro x3_150 m_150 r_x3_150 hI_150
                  obtain ⟨g_m_150, hI_150⟩ := hI_150
                  obtain ⟨hI_150, dI_150⟩ := hI_150
                  refine ⟨fun hq => ?_, fun hq => ?_⟩
                  · skip
                    try have w3 : wr (24 * x2) = 24 * x2 := wr_id (by omega) (by omega)
                    intro z5_292 e_z5_292
                    have r_z5_292 : rg z5_292 := by rw [e_z5_292]; exact (wr_rg _)
                    refine ⟨fun x4_294 x5_294 => (24 * x2 ≤ x5_294 ∧ x5_294 ≤ 24 * x2 + 24) ∧ (miP m_150 x2 x4_294 x5_294), fun x4_294 x5_294 => Int.toNat (24 * x2 + 24 - x5_294), ?_, ?_⟩
                    · (exact ⟨by first | omega | (refine ⟨?_, ?_⟩ <;> omega) | trivial, by exact mi_0 (by omega)⟩)
                    · intro x4_294 x5_294 r_x4_294 r_x5_294 hI_294
                      obtain ⟨hI_294, dI_294⟩ := hI_294
                      try have w4 : wr ((wr (24 * x2)) + 24) = (wr (24 * x2)) + 24 := wr_id (by omega) (by omega)
                      refine ⟨fun hq => ?_, fun hq => ?_⟩
                      · skip
                        exact ⟨g_m_150, by exact ⟨by first | trivial | omega | (refine ⟨?_, ?_⟩ <;> omega), by first | (have u := dI_294; exact fun A T F oY oR h tb => che_M (wc_A h oY oR (ty_284_18 g_m.1) (by omega) (te_x h oY (by omega)) tb g_m g_m20 h_m20.2) (te_x h oY (by omega)) (fl_M h (by omega)) dI_150.1 dI_150.2.1 (dI_150.2.2 (by assumption)) dI_294 (by omega)) | exact fun A T F oY oR h tb => che_Mn h hR_16.1 hR_16.2⟩⟩
                      · skip
                        refine ⟨⟨by omega, by omega⟩, ?_⟩
                        refine ⟨fun y4_342 => (rd m_150 330 (Int.toNat x5_294) < 0 ∧ y4_342 = x4_294) ∨ (0 ≤ rd m_150 330 (Int.toNat x5_294) ∧ (x4_294 < 0 ∨ ¬ x4_294 ≤ rd m_150 330 (Int.toNat x5_294)) ∧ y4_342 = rd m_150 330 (Int.toNat x5_294)) ∨ (0 ≤ rd m_150 330 (Int.toNat x5_294) ∧ ¬ (x4_294 < 0 ∨ ¬ x4_294 ≤ rd m_150 330 (Int.toNat x5_294)) ∧ y4_342 = x4_294), ?_, ?_⟩
                        · skip
                          refine ⟨fun hq => ?_, fun hq => ?_⟩
                          · skip
                            (first | (have u := e_z4_340; exact Or.inr (Or.inl ⟨hR_333.1, hR_333.2, e_z4_340⟩)) | exact Or.inl ⟨by assumption, rfl⟩ | exact Or.inr (Or.inr ⟨by omega, by omega, rfl⟩))
                          · skip
                            refine ⟨(0 ≤ rd m_150 330 (Int.toNat x5_294)) ∧ (x4_294 < 0 ∨ ¬ x4_294 ≤ rd m_150 330 (Int.toNat x5_294)), ?_, ?_⟩
                            · skip
                              refine ⟨fun hq => ?_, fun hq => ?_⟩
                              · skip
                                (omega)
                              · skip
                                refine ⟨⟨by omega, by omega⟩, ?_⟩
                                refine ⟨fun hq => ?_, fun hq => ?_⟩
                                · skip
                                  (first | (have u := e_z4_340; exact Or.inr (Or.inl ⟨hR_333.1, hR_333.2, e_z4_340⟩)) | exact Or.inl ⟨by assumption, rfl⟩ | exact Or.inr (Or.inr ⟨by omega, by omega, rfl⟩))
                                · skip
                                  (omega)
                            · intro   hR_333
                              refine ⟨⟨by omega, by omega⟩, ?_⟩
                              intro z4_340 e_z4_340
                              have r_z4_340 : rg z4_340 := by rw [e_z4_340]; exact (rd_rg _ _ _)
                              (first | (have u := e_z4_340; exact Or.inr (Or.inl ⟨hR_333.1, hR_333.2, e_z4_340⟩)) | exact Or.inl ⟨by assumption, rfl⟩ | exact Or.inr (Or.inr ⟨by omega, by omega, rfl⟩))
                        · intro y4_342 r_y4_342 hR_342
                          try have w6 : wr (x5_294 + 1) = x5_294 + 1 := wr_id (by omega) (by omega)
                          intro z5_342 e_z5_342
                          have r_z5_342 : rg z5_342 := by rw [e_z5_342]; exact wr_rg _
                          exact ⟨by exact ⟨by first | omega | (refine ⟨?_, ?_⟩ <;> omega) | trivial, by exact mi_s dI_294 hR_342 (by omega) (by omega)⟩, by (try dsimp only); omega⟩
                  · skip
                    refine ⟨fun x3_159 x4_159 m_159 => G m0 m_159 ∧ (((0 ≤ x4_159 ∧ x4_159 ≤ 2400) ∧ ((x3_159 = 0 ∧ chPot m_159 = chPot m_150) ∨ (x3_159 = 1 ∧ chPot m_159 < chPot m_150)) ∧ chOk m_159) ∧ (n33 m20 m_159 ∧ bfI m_159 x1 ∧ (x3_159 = 0 → rlP m_159 x1 x4_159))), fun x3_159 x4_159 m_159 => Int.toNat (2400 - x4_159), ?_, ?_⟩
                    · exact ⟨g_m_150, by exact ⟨by exact ⟨by omega, by omega, hI_150.2⟩, by exact ⟨dI_150.1, dI_150.2.1, fun _ => rl_0⟩⟩⟩
                    · intro x3_159 x4_159 m_159 r_x3_159 r_x4_159 hI_159
                      obtain ⟨g_m_159, hI_159⟩ := hI_159
                      obtain ⟨hI_159, dI_159⟩ := hI_159
                      have t7 := ty_284_67 g_m_159.1
                      try have w8 : wr (4 * (rd m_159 284 67)) = 4 * (rd m_159 284 67) := wr_id (by omega) (by omega)
                      refine ⟨fun hq => ?_, fun hq => ?_⟩
                      · skip
                        exact ⟨⟨g_m_159, by exact ⟨by exact ⟨by omega, hI_159.2.2⟩, by exact ⟨dI_159.1, dI_159.2.1, fun z => rl_f (dI_159.2.2 z) (by omega)⟩⟩⟩, by (try dsimp only); omega⟩
                      · skip
                        try have q9 : dvI x4_159 4 = x4_159 / 4 := dv_eq (by omega) (by omega) (by omega) (by omega)
                        refine ⟨⟨by omega, by omega⟩, ?_⟩
                        have t10 := ty_329 g_m_159.1 (Int.toNat (dvI x4_159 4))
                        intro z5_179 e_z5_179
                        have r_z5_179 : rg z5_179 := by rw [e_z5_179]; exact (rd_rg _ _ _)
                        have cb5 := hI_159.2.2 (Int.toNat z5_179) (by omega)
                        have nb5 := chN_le m_159
                        try have w11 : wr (4 * z5_179) = 4 * z5_179 := wr_id (by omega) (by omega)
                        try have q12 : rmI x4_159 4 = x4_159 % 4 := rm_eq (by omega) (by omega) (by omega) (by omega)
                        try have w13 : wr ((wr (4 * z5_179)) + (rmI x4_159 4)) = (wr (4 * z5_179)) + (rmI x4_159 4) := wr_id (by omega) (by omega)
                        refine ⟨⟨by omega, by omega⟩, ?_⟩
                        have t14 := ty_325 g_m_159.1 (Int.toNat (wr ((wr (4 * z5_179)) + (rmI x4_159 4))))
                        intro z6_195 e_z6_195
                        have r_z6_195 : rg z6_195 := by rw [e_z6_195]; exact (rd_rg _ _ _)
                        refine ⟨fun y3_275 m_275 => G m0 m_275 ∧ ((((y3_275 = 0 ∧ chPot m_275 = chPot m_150) ∨ (y3_275 = 1 ∧ chPot m_275 < chPot m_150)) ∧ chOk m_275) ∧ (n33 m20 m_275 ∧ bfI m_275 x1 ∧ (y3_275 = 0 → rlP m_275 x1 (x4_159 + 1)))), ?_, ?_⟩
                        · skip
                          refine ⟨fun hq => ?_, fun hq => ?_⟩
                          · skip
                            exact ⟨g_m_159, by exact ⟨by first | exact hI_159.2 | exact ⟨by omega, cs.1⟩, by first | (have u := e_m272; exact ⟨n33_0 dI_159.1 e_m272, bf_w (p := x4_159) (q := Int.toNat (wr ((wr (4 * z5_179)) + (rmI x4_159 4)))) dI_159.2.1 (by omega) (by omega) (e_z5_179.trans (congrArg (rd m_159 329) (by omega))) (e_z6_195.trans (congrArg (rd m_159 325) (by omega))) (by omega) (by omega) (by omega) (by omega) hR_264 r_z7_237 e_m272, fun z => absurd z (by decide)⟩) | (have u := e_z7_237; exact ⟨dI_159.1, dI_159.2.1, fun z => rl_c (q := Int.toNat (wr ((wr (4 * z5_179)) + (rmI x4_159 4)))) dI_159.2.1 (dI_159.2.2 z) (by omega) (by omega) (e_z5_179.trans (congrArg (rd m_159 329) (by omega))) (e_z6_195.trans (congrArg (rd m_159 325) (by omega))) (by omega) (by omega) (by omega) (by omega)⟩) | exact ⟨dI_159.1, dI_159.2.1, fun z => rl_b (dI_159.2.2 z) (by omega) (e_z5_179.trans (congrArg (rd m_159 329) (by omega))) (by assumption)⟩ | exact ⟨dI_159.1, dI_159.2.1, fun z => rl_a (dI_159.2.2 z) (by omega) (e_z5_179.trans (congrArg (rd m_159 329) (by omega))) (e_z6_195.trans (congrArg (rd m_159 325) (by omega))) (by assumption)⟩⟩⟩
                          · skip
                            refine ⟨⟨by omega, by omega⟩, ?_⟩
                            refine ⟨fun hq => ?_, fun hq => ?_⟩
                            · skip
                              refine ⟨⟨by omega, by omega⟩, ?_⟩
                              refine ⟨⟨by omega, by omega⟩, ?_⟩
                              have t16 := ty_331 g_m_159.1 (Int.toNat (wr ((wr (4 * z5_179)) + (rmI x4_159 4))))
                              try have w17 : wr ((rd m_159 330 (Int.toNat z5_179)) + (rd m_159 331 (Int.toNat (wr ((wr (4 * z5_179)) + (rmI x4_159 4)))))) = (rd m_159 330 (Int.toNat z5_179)) + (rd m_159 331 (Int.toNat (wr ((wr (4 * z5_179)) + (rmI x4_159 4))))) := wr_id (by omega) (by omega)
                              intro z7_237 e_z7_237
                              have r_z7_237 : rg z7_237 := by rw [e_z7_237]; exact (wr_rg _)
                              refine ⟨⟨by omega, by omega⟩, ?_⟩
                              refine ⟨rd m_159 330 (Int.toNat z6_195) < 0 ∨ z7_237 < rd m_159 330 (Int.toNat z6_195), ?_, ?_⟩
                              · skip
                                refine ⟨fun hq => ?_, fun hq => ?_⟩
                                · skip
                                  (first | trivial | omega | (refine ⟨?_, ?_⟩ <;> omega))
                                · skip
                                  refine ⟨⟨by omega, by omega⟩, ?_⟩
                                  refine ⟨fun hq => ?_, fun hq => ?_⟩
                                  · skip
                                    (first | trivial | omega | (refine ⟨?_, ?_⟩ <;> omega))
                                  · skip
                                    exact ⟨g_m_159, by exact ⟨by first | exact hI_159.2 | exact ⟨by omega, cs.1⟩, by first | (have u := e_m272; exact ⟨n33_0 dI_159.1 e_m272, bf_w (p := x4_159) (q := Int.toNat (wr ((wr (4 * z5_179)) + (rmI x4_159 4)))) dI_159.2.1 (by omega) (by omega) (e_z5_179.trans (congrArg (rd m_159 329) (by omega))) (e_z6_195.trans (congrArg (rd m_159 325) (by omega))) (by omega) (by omega) (by omega) (by omega) hR_264 r_z7_237 e_m272, fun z => absurd z (by decide)⟩) | (have u := e_z7_237; exact ⟨dI_159.1, dI_159.2.1, fun z => rl_c (q := Int.toNat (wr ((wr (4 * z5_179)) + (rmI x4_159 4)))) dI_159.2.1 (dI_159.2.2 z) (by omega) (by omega) (e_z5_179.trans (congrArg (rd m_159 329) (by omega))) (e_z6_195.trans (congrArg (rd m_159 325) (by omega))) (by omega) (by omega) (by omega) (by omega)⟩) | exact ⟨dI_159.1, dI_159.2.1, fun z => rl_b (dI_159.2.2 z) (by omega) (e_z5_179.trans (congrArg (rd m_159 329) (by omega))) (by assumption)⟩ | exact ⟨dI_159.1, dI_159.2.1, fun z => rl_a (dI_159.2.2 z) (by omega) (e_z5_179.trans (congrArg (rd m_159 329) (by omega))) (e_z6_195.trans (congrArg (rd m_159 325) (by omega))) (by assumption)⟩⟩⟩
                              · intro   hR_264
                                refine ⟨⟨by omega, by omega⟩, ?_⟩
                                intro m272 e_m272
                                have g_m272 : G m0 m272 := by rw [e_m272]; exact GX.wt g_m_159 (tw_330 g_m_159.1 (by first | assumption | omega)) (Eq.refl true)
                                have cs := ch_set hI_159.2.2 (z := Int.toNat z6_195) (v := z7_237) (by omega) (by omega) (by omega) hR_264
                                rw [← e_m272] at cs
                                exact ⟨g_m272, by exact ⟨by first | exact hI_159.2 | exact ⟨by omega, cs.1⟩, by first | (have u := e_m272; exact ⟨n33_0 dI_159.1 e_m272, bf_w (p := x4_159) (q := Int.toNat (wr ((wr (4 * z5_179)) + (rmI x4_159 4)))) dI_159.2.1 (by omega) (by omega) (e_z5_179.trans (congrArg (rd m_159 329) (by omega))) (e_z6_195.trans (congrArg (rd m_159 325) (by omega))) (by omega) (by omega) (by omega) (by omega) hR_264 r_z7_237 e_m272, fun z => absurd z (by decide)⟩) | (have u := e_z7_237; exact ⟨dI_159.1, dI_159.2.1, fun z => rl_c (q := Int.toNat (wr ((wr (4 * z5_179)) + (rmI x4_159 4)))) dI_159.2.1 (dI_159.2.2 z) (by omega) (by omega) (e_z5_179.trans (congrArg (rd m_159 329) (by omega))) (e_z6_195.trans (congrArg (rd m_159 325) (by omega))) (by omega) (by omega) (by omega) (by omega)⟩) | exact ⟨dI_159.1, dI_159.2.1, fun z => rl_b (dI_159.2.2 z) (by omega) (e_z5_179.trans (congrArg (rd m_159 329) (by omega))) (by assumption)⟩ | exact ⟨dI_159.1, dI_159.2.1, fun z => rl_a (dI_159.2.2 z) (by omega) (e_z5_179.trans (congrArg (rd m_159 329) (by omega))) (e_z6_195.trans (congrArg (rd m_159 325) (by omega))) (by assumption)⟩⟩⟩
                            · skip
                              exact ⟨g_m_159, by exact ⟨by first | exact hI_159.2 | exact ⟨by omega, cs.1⟩, by first | (have u := e_m272; exact ⟨n33_0 dI_159.1 e_m272, bf_w (p := x4_159) (q := Int.toNat (wr ((wr (4 * z5_179)) + (rmI x4_159 4)))) dI_159.2.1 (by omega) (by omega) (e_z5_179.trans (congrArg (rd m_159 329) (by omega))) (e_z6_195.trans (congrArg (rd m_159 325) (by omega))) (by omega) (by omega) (by omega) (by omega) hR_264 r_z7_237 e_m272, fun z => absurd z (by decide)⟩) | (have u := e_z7_237; exact ⟨dI_159.1, dI_159.2.1, fun z => rl_c (q := Int.toNat (wr ((wr (4 * z5_179)) + (rmI x4_159 4)))) dI_159.2.1 (dI_159.2.2 z) (by omega) (by omega) (e_z5_179.trans (congrArg (rd m_159 329) (by omega))) (e_z6_195.trans (congrArg (rd m_159 325) (by omega))) (by omega) (by omega) (by omega) (by omega)⟩) | exact ⟨dI_159.1, dI_159.2.1, fun z => rl_b (dI_159.2.2 z) (by omega) (e_z5_179.trans (congrArg (rd m_159 329) (by omega))) (by assumption)⟩ | exact ⟨dI_159.1, dI_159.2.1, fun z => rl_a (dI_159.2.2 z) (by omega) (e_z5_179.trans (congrArg (rd m_159 329) (by omega))) (e_z6_195.trans (congrArg (rd m_159 325) (by omega))) (by assumption)⟩⟩⟩
                        · intro y3_275 m_275 r_y3_275 hR_275
                          obtain ⟨g_m_275, hR_275⟩ := hR_275
                          obtain ⟨hR_275, dR_275⟩ := hR_275
                          try have w19 : wr (x4_159 + 1) = x4_159 + 1 := wr_id (by omega) (by omega)
                          intro z4_275 e_z4_275
                          have r_z4_275 : rg z4_275 := by rw [e_z4_275]; exact wr_rg _
                          exact ⟨⟨g_m_275, by exact ⟨by exact ⟨by omega, hR_275⟩, by rw [show z4_275 = x4_159 + 1 by omega]; exact dR_275⟩⟩, by (try dsimp only); omega⟩
              · skip
                refine ⟨⟨by omega, by omega⟩, ?_⟩
                intro m129 e_m129
                have g_m129 : G m0 m129 := by rw [e_m129]; exact GX.wt g_m_116 (tw_330 g_m_116.1 (by first | assumption | omega)) (Eq.refl true)
                have f129 : ∀ j : Nat, (j : Int) < x3_116 + 1 → rd m129 330 j = -1 := fun j hj => by
                  rw [e_m129, rd_wt]
                  split
                  · rfl
                  · next q => exact hI_116.2 j (by omega)
                try have w20 : wr (x3_116 + 1) = x3_116 + 1 := wr_id (by omega) (by omega)
                intro z3_130 e_z3_130
                have r_z3_130 : rg z3_130 := by rw [e_z3_130]; exact wr_rg _
                exact ⟨⟨g_m129, by exact ⟨by exact ⟨by omega, fun j hj => f129 j (by omega)⟩, by exact ⟨n33_0 dI_116.1 e_m129, cst_w dI_116.2 e_m129⟩⟩⟩, by (try dsimp only); omega⟩
          · skip
            refine ⟨fun x4_36 m_36 => G m0 m_36 ∧ ((0 ≤ x4_36 ∧ x4_36 ≤ 4) ∧ (n33 m20 m_36 ∧ ctI m_36 x1 x3_25 x4_36)), fun x4_36 m_36 => Int.toNat (4 - x4_36), ?_, ?_⟩
            · exact ⟨g_m_25, by exact ⟨by first | omega | (refine ⟨?_, ?_⟩ <;> omega) | trivial, by exact dI_25⟩⟩
            · intro x4_36 m_36 r_x4_36 hI_36
              obtain ⟨g_m_36, hI_36⟩ := hI_36
              obtain ⟨hI_36, dI_36⟩ := hI_36
              refine ⟨fun hq => ?_, fun hq => ?_⟩
              · skip
                try have w21 : wr (x3_25 + 1) = x3_25 + 1 := wr_id (by omega) (by omega)
                intro z3_108 e_z3_108
                have r_z3_108 : rg z3_108 := by rw [e_z3_108]; exact wr_rg _
                exact ⟨⟨g_m_36, by exact ⟨by first | omega | (refine ⟨?_, ?_⟩ <;> omega) | trivial, by exact ⟨dI_36.1, cst_n dI_36.2 (by omega) (by omega)⟩⟩⟩, by (try dsimp only); omega⟩
              · skip
                refine ⟨⟨by omega, by omega⟩, ?_⟩
                have t22 := ty_329 g_m_36.1 (Int.toNat x3_25)
                try have w23 : wr (4 * (rd m_36 329 (Int.toNat x3_25))) = 4 * (rd m_36 329 (Int.toNat x3_25)) := wr_id (by omega) (by omega)
                try have w24 : wr ((wr (4 * (rd m_36 329 (Int.toNat x3_25)))) + x4_36) = (wr (4 * (rd m_36 329 (Int.toNat x3_25)))) + x4_36 := wr_id (by omega) (by omega)
                refine ⟨⟨by omega, by omega⟩, ?_⟩
                have t25 := ty_325 g_m_36.1 (Int.toNat (wr ((wr (4 * (rd m_36 329 (Int.toNat x3_25)))) + x4_36)))
                refine ⟨fun m_102 => G m0 m_102 ∧ (n33 m20 m_102 ∧ ctI m_102 x1 x3_25 (x4_36 + 1)), ?_, ?_⟩
                · skip
                  refine ⟨fun hq => ?_, fun hq => ?_⟩
                  · skip
                    exact ⟨g_m_36, by first | (have u := e_m101; exact ⟨n33_w dI_36.1 hx_m98 e_m101, cst_1 dI_36.2 (by omega) (by omega) (by assumption) hx_m98 h_m98 r_v98 (by omega) e_m101⟩) | exact ⟨dI_36.1, cst_0 (q := Int.toNat (wr ((wr (4 * (rd m_36 329 (Int.toNat x3_25)))) + x4_36))) dI_36.2 (by omega) (by omega) (by assumption)⟩⟩
                  · skip
                    refine ⟨⟨by omega, by omega⟩, ?_⟩
                    refine ⟨⟨by omega, by omega⟩, ?_⟩
                    refine ⟨⟨by omega, by omega⟩, ?_⟩
                    try have q26 : dvI (rd m_36 329 (Int.toNat x3_25)) 24 = (rd m_36 329 (Int.toNat x3_25)) / 24 := dv_eq (by omega) (by omega) (by omega) (by omega)
                    try have q27 : rmI (rd m_36 329 (Int.toNat x3_25)) 24 = (rd m_36 329 (Int.toNat x3_25)) % 24 := rm_eq (by omega) (by omega) (by omega) (by omega)
                    refine CK.mono (mz_228   g_m_36.1 r_x1 (io_rg _ _ _) (io_rg _ _ _) r_x4_36 (MW_G p0 g_m_36) (laws_G p1 g_m_36) (by omega) (by omega) (by omega) (by omega)) (by decide) ?_
                    rintro m98 v98 r_v98 ⟨hx_m98, h_m98⟩
                    have g_m98 : G m0 m98 := gx_in g_m_36 hx_m98 in_sV_scr
                    refine ⟨⟨by omega, by omega⟩, ?_⟩
                    intro m101 e_m101
                    have g_m101 : G m0 m101 := by rw [e_m101]; exact GX.wt g_m98 (tw_331 g_m98.1 ⟨by omega, by omega⟩) (Eq.refl true)
                    exact ⟨g_m101, by first | (have u := e_m101; exact ⟨n33_w dI_36.1 hx_m98 e_m101, cst_1 dI_36.2 (by omega) (by omega) (by assumption) hx_m98 h_m98 r_v98 (by omega) e_m101⟩) | exact ⟨dI_36.1, cst_0 (q := Int.toNat (wr ((wr (4 * (rd m_36 329 (Int.toNat x3_25)))) + x4_36))) dI_36.2 (by omega) (by omega) (by assumption)⟩⟩
                · intro m_102  hR_102
                  obtain ⟨g_m_102, hR_102⟩ := hR_102
                  try have w28 : wr (x4_36 + 1) = x4_36 + 1 := wr_id (by omega) (by omega)
                  intro z4_102 e_z4_102
                  have r_z4_102 : rg z4_102 := by rw [e_z4_102]; exact wr_rg _
                  exact ⟨⟨g_m_102, by exact ⟨by first | omega | (refine ⟨?_, ?_⟩ <;> omega) | trivial, by rw [show z4_102 = x4_36 + 1 by omega]; exact hR_102⟩⟩, by (try dsimp only); omega⟩
      · skip
        exact ⟨g_m, by exact ⟨rfl, by omega⟩⟩
  · intro m_16  hR_16
    obtain ⟨g_m_16, hR_16⟩ := hR_16
    exact ⟨g_m_16, by exact ⟨by first | trivial | omega | (refine ⟨?_, ?_⟩ <;> omega), by first | (have u := dI_294; exact fun A T F oY oR h tb => che_M (wc_A h oY oR (ty_284_18 g_m.1) (by omega) (te_x h oY (by omega)) tb g_m g_m20 h_m20.2) (te_x h oY (by omega)) (fl_M h (by omega)) dI_150.1 dI_150.2.1 (dI_150.2.2 (by assumption)) dI_294 (by omega)) | exact fun A T F oY oR h tb => che_Mn h hR_16.1 hR_16.2⟩⟩
