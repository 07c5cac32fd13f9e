theorem mirT_b {t : Nat} (h : t < 6) : mirT t ≤ 5 := by
  unfold mirT
  split
  · omega
  · split <;> omega
/-- the marks of crate c, lying as l -/
def lkM (m : Mm) (c l : Int) (t : Nat) : Int := rd m 323 (Int.toNat (25 + 6 * c + rd m 319 (Int.toNat (6 * l + (t : Int)))))
def n31 (m m2 : Mm) : Prop := ∀ i j : Nat, ¬ i = 321 → rd m2 i j = rd m i j
theorem n31_t {a b c : Mm} (h : n31 a b) (k : n31 b c) : n31 a c := fun i j q => (k i j q).trans (h i j q)
theorem lkM_fr {m m2 : Mm} {c l : Int} (h : n31 m m2) : lkM m2 c l = lkM m c l := funext fun t => by
  unfold lkM
  rw [h 319 _ (by decide), h 323 _ (by decide)]
theorem lk_w {m m1 : Mm} {c l s v : Int} {n : Nat} (d : n31 m m1) (e : s = (n : Int)) (ev : v = rd m1 323 (Int.toNat (25 + 6 * c + rd m1 319 (Int.toNat (6 * l + s))))) : v = lkM m c l n := by
  subst e
  rw [← lkM_fr d]
  exact ev
/-- it looks as row 321 tells -/
def asM (m : Mm) (c l : Int) : Prop := ∀ t : Nat, t < 6 → lkM m c l t = rd m 321 t
def anyM (m : Mm) (c v : Int) : Prop := (v = 1 ∧ ∃ l : Nat, l < 24 ∧ asM m c (l : Int)) ∨ (v = 0 ∧ ∀ l : Nat, l < 24 → ¬ asM m c (l : Int))
theorem as_k {m : Mm} {c l x z v : Int} (d : ∀ t : Nat, (t : Int) < x → lkM m c l t = rd m 321 t) (h : 0 ≤ x ∧ z = x + 1) (ev : v = rd m 323 (Int.toNat (25 + 6 * c + rd m 319 (Int.toNat (6 * l + x))))) (e : v = rd m 321 (Int.toNat x)) : ∀ t : Nat, (t : Int) < z → lkM m c l t = rd m 321 t := fun t ht => by
  by_cases q : (t : Int) < x
  · exact d t q
  · have et : t = Int.toNat x := by omega
    subst et
    unfold lkM
    rw [Int.toNat_of_nonneg h.1, ← ev]
    exact e
theorem as_n {m : Mm} {c l x v : Int} (h : 0 ≤ x ∧ x < 6) (ev : v = rd m 323 (Int.toNat (25 + 6 * c + rd m 319 (Int.toNat (6 * l + x))))) (n : ¬ v = rd m 321 (Int.toNat x)) : ¬ asM m c l := fun w => by
  have k := w (Int.toNat x) (by omega)
  unfold lkM at k
  rw [Int.toNat_of_nonneg h.1, ← ev] at k
  exact n k
theorem an_k {m : Mm} {c x z : Int} (d : ∀ l : Nat, (l : Int) < x → ¬ asM m c (l : Int)) (h : 0 ≤ x ∧ z = x + 1) (n : ¬ asM m c x) : ∀ l : Nat, (l : Int) < z → ¬ asM m c (l : Int) := fun l hl w => by
  by_cases q : (l : Int) < x
  · exact d l q w
  · rw [show (l : Int) = x by omega] at w
    exact n w
/-- row 321 is f, up to x -/
def tpL (m m2 : Mm) (f : Nat → Int) (x : Int) : Prop := n31 m m2 ∧ ∀ t : Nat, (t : Int) < x → rd m2 321 t = f t
theorem tl_s {m m1 m2 : Mm} {f : Nat → Int} {x z v : Int} (d : tpL m m1 f x) (h : 0 ≤ x ∧ z = x + 1) (ev : v = f (Int.toNat x)) (rv : rg v) (e : m2 = wt m1 321 (Int.toNat x) v) : tpL m m2 f z := by
  refine ⟨fun i j q => by rw [e, rd_wt, if_neg (fun w => q w.1)]; exact d.1 i j q, fun t ht => ?_⟩
  rw [e, rd_wt]
  by_cases q : t = Int.toNat x
  · rw [if_pos ⟨rfl, q⟩, wr_i rv, q]; exact ev
  · rw [if_neg (fun w => q w.2)]; exact d.2 t (by omega)
/-- none yet, up to x, looks so: y = 1 -/
def nwI (m : Mm) (c y x : Int) : Prop := (y = 1 ∧ ∀ l : Nat, (l : Int) < x → ¬ asM m c (l : Int)) ∨ (y = 0 ∧ ∃ l : Nat, (l : Int) < x ∧ asM m c (l : Int))
theorem nw_s {m : Mm} {c y x z v u : Int} (d : nwI m c y x) (h : 0 ≤ x ∧ z = x + 1) (w : (v = 1 ∧ asM m c x) ∨ (v = 0 ∧ ¬ asM m c x)) (r : (v = 0 ∧ u = y) ∨ (¬ v = 0 ∧ u = 0)) : nwI m c u z := by
  rcases r with ⟨a, b⟩ | ⟨a, b⟩
  · rcases d with ⟨d1, d2⟩ | ⟨d1, l, d2, d3⟩
    · exact Or.inl ⟨b.trans d1, an_k d2 h (or_0 w a)⟩
    · exact Or.inr ⟨b.trans d1, l, by omega, d3⟩
  · refine Or.inr ⟨b, Int.toNat x, by omega, ?_⟩
    rw [Int.toNat_of_nonneg h.1]
    exact or_1 w a
/-! .. of the state -/
def lkP (m : Mm) (A : Ab) (F : Nat → Int) : Prop := (stM m A.r ∧ mA m A ∧ A.Y 3 ≤ 3 ∧ 0 ≤ rd m 284 18 ∧ rd m 284 18 ≤ 1) ∧ (∀ j : Nat, j < 144 → rd m 319 j = F j) ∧ (∀ j : Nat, 0 ≤ rd m 319 j ∧ rd m 319 j ≤ 5) ∧ ∀ j : Nat, 25 ≤ j → j ≤ 42 → 0 ≤ rd m 323 j ∧ rd m 323 j ≤ 9
section LKM
variable {m m1 m2 : Mm} {A : Ab} {T F : Nat → Int} {x1 x2 v s x : Int}
theorem lkp_M (h : mA m A) (oY : okY A.Y) (oR : okR A.Y A.r) (l : 0 ≤ rd m 284 18 ∧ rd m 284 18 ≤ 1) (p : cpR m m1) (t1 : Ty m1) (tb : tbR m 319 320 F T) : lkP m1 A F := by
  have y1 := mA_cp h oY oR l p
  refine ⟨⟨y1.1.2.1, y1.2, oY.2.2.2, ty_284_18 t1⟩, fun j hj => (p.2.2 319 j (by omega) (by omega)).trans (tb.1 j hj), fun j => ty_319 t1 j, fun j j0 j1 => ?_⟩
  have b := ty_323 t1 j
  have e : ty51 j = (0, 9) := by
    unfold ty51
    rw [Nat.mod_eq_of_lt (by omega), if_pos (by omega)]
  rw [e] at b
  exact b
theorem lk_M (w : lkP m A F) (hc : 0 ≤ x1 ∧ x1 < A.Y 3) {l t : Nat} (hl : l < 24) (ht : t < 6) : lkM m x1 (l : Int) t = lkN A.r F x1 l t := by
  obtain ⟨⟨w1, -, w2, -⟩, w3, w4, -⟩ := w
  have b := w4 (Int.toNat (6 * (l : Int) + (t : Int)))
  have e := w3 (Int.toNat (6 * (l : Int) + (t : Int))) (by omega)
  unfold lkM lkN
  rw [w1 _ (by omega), show Int.toNat ((l : Int) * 6 + (t : Int)) = Int.toNat (6 * (l : Int) + (t : Int)) by omega, ← e, show Int.toNat (25 + 6 * x1 + rd m 319 (Int.toNat (6 * (l : Int) + (t : Int)))) = Int.toNat (25 + (x1 * 6 + rd m 319 (Int.toNat (6 * (l : Int) + (t : Int))))) by omega]
theorem lk_6 (w : lkP m A F) (hc : 0 ≤ x1 ∧ x1 < A.Y 3) {l : Nat} (hl : l < 24) : sixD (lkN A.r F x1 l) := fun t ht => by
  rw [← lk_M w hc hl ht]
  obtain ⟨⟨-, -, w2, -⟩, -, w4, w5⟩ := w
  have b := w4 (Int.toNat (6 * (l : Int) + (t : Int)))
  unfold lkM
  exact w5 _ (by omega) (by omega)
/-- it looks as f tells if the numbers are alike -/
theorem as_e (w : lkP m A F) (hc : 0 ≤ x1 ∧ x1 < A.Y 3) {f : Nat → Int} (hf : sixD f) (d : n31 m m1 ∧ ∀ t : Nat, t < 6 → rd m1 321 t = f t) {l : Nat} (hl : l < 24) : asM m1 x1 (l : Int) ↔ dgW (lkN A.r F x1 l) 6 = dgW f 6 := by
  rw [dg_inj (lk_6 w hc hl) hf]
  have k := lkM_fr (c := x1) (l := (l : Int)) d.1
  constructor
  · intro h t ht
    have e := h t ht
    rw [k, lk_M w hc hl ht, d.2 t ht] at e
    exact e
  · intro h t ht
    rw [k, lk_M w hc hl ht, d.2 t ht]
    exact h t ht
theorem an_e (w : lkP m A F) (hc : 0 ≤ x1 ∧ x1 < A.Y 3) {f : Nat → Int} (hf : sixD f) (d : n31 m m1 ∧ ∀ t : Nat, t < 6 → rd m1 321 t = f t) (q : anyM m1 x1 v) : v = sbF (fun l => dgW (lkN A.r F x1 l) 6) (dgW f 6) 24 := by
  rcases q with ⟨a, l, b, c⟩ | ⟨a, b⟩
  · rw [a]
    exact (sb_1 24 ⟨l, b, (as_e w hc hf d b).mp c⟩).symm
  · rw [a]
    exact (sb_0 24 (fun l hl e => b l hl ((as_e w hc hf d hl).mpr e))).symm
theorem lw_mA (w : lkP m A F) (d : n31 m m1) : mA m1 A := mA_fr w.1.2.1 w.1.2.2.2 (fun i j q => d i j (by unfold plR at q; omega))
theorem al_M (w : lkP m1 A F) (hc : 0 ≤ x1 ∧ x1 < A.Y 3) (hd : 0 ≤ x2 ∧ x2 < A.Y 3) (d : tpL m1 m2 (lkM m1 x2 0) x) (hx : 6 ≤ x) (q : anyM m2 x1 v) (e : (v = 0 ∧ s = 0) ∨ (¬ v = 0 ∧ s = 1)) : s = alA A F x1 x2 ∧ mA m2 A := by
  have k := an_e w hc (lk_6 w hd (l := 0) (by decide)) ⟨d.1, fun t ht => (d.2 t (by omega)).trans (lk_M w hd (l := 0) (by decide) ht)⟩ q
  refine ⟨?_, lw_mA w d.1⟩
  unfold alA
  rw [if_pos ⟨hc, hd⟩, ← k]
  rcases q with ⟨a, -⟩ | ⟨a, -⟩ <;> omega
theorem al_Mn (h : mA m A) (e : m2 = m) (hc : ¬ (0 ≤ x1 ∧ x1 < rd m 302 (Int.toNat (rd m 284 18))) ∨ ¬ (0 ≤ x2 ∧ x2 < rd m 302 (Int.toNat (rd m 284 18)))) : (-1 : Int) = alA A F x1 x2 ∧ mA m2 A := by
  subst e
  rw [h.1.1.2.2.2.1] at hc
  refine ⟨?_, h⟩
  unfold alA
  rw [if_neg (by omega)]
theorem lo_M (w : lkP m1 A F) (hc : 0 ≤ x1 ∧ x1 < A.Y 3) (d : n31 m1 m2 ∧ ∀ A F, lkP m1 A F → (0 ≤ x1 ∧ x1 < A.Y 3) → v = cntF (fun l => dgW (lkN A.r F x1 l) 6) (Int.toNat x)) (hx : x = 24) : v = looA A F x1 ∧ mA m2 A := by
  refine ⟨?_, lw_mA w d.1⟩
  have e := d.2 A F w hc
  rw [hx] at e
  unfold looA
  rw [if_pos hc]
  exact e
theorem lw_fr (w : lkP m A F) (d : n31 m m1) : lkP m1 A F := ⟨⟨fun j hj => (d 323 j (by decide)).trans (w.1.1 j hj), lw_mA w d, w.1.2.2.1, by rw [d 284 18 (by decide)]; exact w.1.2.2.2⟩, fun j hj => (d 319 j (by decide)).trans (w.2.1 j hj), fun j => by rw [d 319 j (by decide)]; exact w.2.2.1 j, fun j j0 j1 => by rw [d 323 j (by decide)]; exact w.2.2.2 j j0 j1⟩
theorem cn_M {x2 x3 x4 y z : Int} (e : x2 = cntF (fun l => dgW (lkN A.r F x1 l) 6) (Int.toNat x3)) (h : (0 ≤ x3 ∧ x3 < 24) ∧ z = x3 + 1) (w : lkP m A F) (hc : 0 ≤ x1 ∧ x1 < A.Y 3) (f : n31 m m1) (d : tpL m1 m2 (lkM m1 x1 x3) 6) (n : nwI m2 x1 x4 x) (hx : x = x3) (r : (x4 = 0 ∧ y = x2) ∨ (¬ x4 = 0 ∧ y = wr (x2 + 1))) : y = cntF (fun l => dgW (lkN A.r F x1 l) 6) (Int.toNat z) := by
  subst hx
  have w1 := lw_fr w f
  have hl : Int.toNat x < 24 := by omega
  have d2 : n31 m1 m2 ∧ ∀ t : Nat, t < 6 → rd m2 321 t = lkN A.r F x1 (Int.toNat x) t := ⟨d.1, fun t ht => by
    have k := lk_M w1 hc hl ht
    rw [Int.toNat_of_nonneg h.1.1] at k
    exact (d.2 t (by omega)).trans k⟩
  have b := cnt_b (g := fun l => dgW (lkN A.r F x1 l) 6) (Int.toNat x)
  have s6 := lk_6 w1 hc hl
  rw [← e] at b
  rw [show Int.toNat z = Int.toNat x + 1 by omega]
  show y = if sbF (fun l => dgW (lkN A.r F x1 l) 6) (dgW (lkN A.r F x1 (Int.toNat x)) 6) (Int.toNat x) = 1 then cntF (fun l => dgW (lkN A.r F x1 l) 6) (Int.toNat x) else cntF (fun l => dgW (lkN A.r F x1 l) 6) (Int.toNat x) + 1
  rw [← e]
  rcases n with ⟨n1, n2⟩ | ⟨n1, l, n2, n3⟩
  · rw [sb_0 _ (fun l hl2 q => n2 l (by omega) ((as_e w1 hc s6 d2 (by omega)).mpr q)), if_neg (by decide)]
    rcases r with ⟨r1, r2⟩ | ⟨r1, r2⟩
    · omega
    · rw [r2]; exact wr_id (by omega) (by omega)
  · rw [sb_1 _ ⟨l, by omega, (as_e w1 hc s6 d2 (by omega)).mp n3⟩, if_pos rfl]
    rcases r with ⟨r1, r2⟩ | ⟨r1, r2⟩
    · exact r2
    · omega
theorem mi_M (w : lkP m1 A F) (hc : 0 ≤ x1 ∧ x1 < A.Y 3) (ff : F 0 = 0 ∧ F 1 = 1 ∧ F 2 = 2 ∧ F 3 = 3 ∧ F 4 = 4 ∧ F 5 = 5) (d : tpL m1 m2 (fun t => lkM m1 x1 0 (mirT t)) x) (hx : 6 ≤ x) (q : anyM m2 x1 v) (e : (v = 0 ∧ s = 0) ∨ (¬ v = 0 ∧ s = 1)) : s = mirA A F x1 ∧ mA m2 A := by
  have fm : ∀ t : Nat, t < 6 → F t = (t : Int) := fun t ht => by
    have h6 : t = 0 ∨ t = 1 ∨ t = 2 ∨ t = 3 ∨ t = 4 ∨ t = 5 := by omega
    obtain ⟨f0, f1, f2, f3, f4, f5⟩ := ff
    rcases h6 with rfl | rfl | rfl | rfl | rfl | rfl
    · exact f0
    · exact f1
    · exact f2
    · exact f3
    · exact f4
    · exact f5
  have em : ∀ t : Nat, t < 6 → lkN A.r F x1 0 (mirT t) = mrN A.r x1 t := fun t ht => by
    have b := mirT_b ht
    unfold lkN mrN
    rw [show Int.toNat (((0 : Nat) : Int) * 6 + (mirT t : Int)) = mirT t by omega, fm _ (by omega)]
  have s6 : sixD (mrN A.r x1) := fun t ht => by
    have b := mirT_b ht
    rw [← em t ht]
    exact lk_6 w hc (l := 0) (by decide) (mirT t) (by omega)
  have k := an_e w hc s6 ⟨d.1, fun t ht => (d.2 t (by omega)).trans ((lk_M w hc (l := 0) (by decide) (by have := mirT_b ht; omega)).trans (em t ht))⟩ q
  refine ⟨?_, lw_mA w d.1⟩
  unfold mirA
  rw [if_pos hc, ← k]
  rcases q with ⟨a, -⟩ | ⟨a, -⟩ <;> omega
end LKM
-- TippedCratesModel.isAs(II)Z
set_option maxRecDepth 20000 in
theorem my_268 {m : Mm} {x1 : Int} {x2 : Int}  (T_m : Ty m) (r_x1 : rg x1) (r_x2 : rg x2) (p0 : 0 ≤ x1 ∧ x1 ≤ 2) (p1 : 0 ≤ x2 ∧ x2 ≤ 23) : CK 2 268 [.ref 284, iv x1, iv x2] m (fun m2 v => m2 = m ∧ ((v = 0 ∨ v = 1) ∧ ((v = 1 ∧ asM m x1 x2) ∨ (v = 0 ∧ ¬ asM m x1 x2)))) := by
  refine br_268 r_x1 r_x2 ?_
  unfold P_268
  refine ⟨fun x3_2 m_2 => m_2 = m ∧ ((0 ≤ x3_2 ∧ x3_2 ≤ 6) ∧ (∀ t : Nat, (t : Int) < x3_2 → lkM m x1 x2 t = rd m 321 t)), fun x3_2 m_2 => Int.toNat (6 - x3_2), ?_, ?_⟩
  · exact ⟨rfl, by exact ⟨by first | omega | (refine ⟨?_, ?_⟩ <;> omega) | trivial, by exact fun t ht => by omega⟩⟩
  · intro x3_2 m_2 r_x3_2 hI_2
    obtain ⟨e_m_2, hI_2⟩ := hI_2
    replace e_m_2 := e_m_2.symm
    subst e_m_2
    obtain ⟨hI_2, dI_2⟩ := hI_2
    refine ⟨fun hq => ?_, fun hq => ?_⟩
    · skip
      exact ⟨rfl, by exact ⟨by first | trivial | omega | (refine ⟨?_, ?_⟩ <;> omega), by first | (have u := h_m12; exact Or.inr ⟨rfl, as_n (by omega) h_m12.2 (by assumption)⟩) | exact Or.inl ⟨rfl, fun t ht => dI_2 t (by omega)⟩⟩⟩
    · skip
      refine CK.mono (mz_227   T_m r_x1 r_x2 r_x3_2 (by omega) (by omega) (by omega)) (by decide) ?_
      rintro m12 v12 r_v12 ⟨e_m12, h_m12⟩
      replace e_m12 := e_m12.symm
      subst e_m12
      refine ⟨⟨by omega, by omega⟩, ?_⟩
      have t1 := ty_321 T_m (Int.toNat x3_2)
      refine ⟨fun hq => ?_, fun hq => ?_⟩
      · skip
        try have w2 : wr (x3_2 + 1) = x3_2 + 1 := wr_id (by omega) (by omega)
        intro z3_26 e_z3_26
        have r_z3_26 : rg z3_26 := by rw [e_z3_26]; exact wr_rg _
        exact ⟨⟨rfl, by exact ⟨by first | omega | (refine ⟨?_, ?_⟩ <;> omega) | trivial, by exact as_k dI_2 (by omega) h_m12.2 (by assumption)⟩⟩, by (try dsimp only); omega⟩
      · skip
        exact ⟨rfl, by exact ⟨by first | trivial | omega | (refine ⟨?_, ?_⟩ <;> omega), by first | (have u := h_m12; exact Or.inr ⟨rfl, as_n (by omega) h_m12.2 (by assumption)⟩) | exact Or.inl ⟨rfl, fun t ht => dI_2 t (by omega)⟩⟩⟩
-- TippedCratesModel.isAny(I)Z
set_option maxRecDepth 20000 in
theorem my_269 {m : Mm} {x1 : Int}  (T_m : Ty m) (r_x1 : rg x1) (p0 : 0 ≤ x1 ∧ x1 ≤ 2) : CK 3 269 [.ref 284, iv x1] m (fun m2 v => m2 = m ∧ ((v = 0 ∨ v = 1) ∧ (anyM m x1 v))) := by
  refine br_269 r_x1 ?_
  unfold P_269
  refine ⟨fun x2_2 m_2 => m_2 = m ∧ ((0 ≤ x2_2 ∧ x2_2 ≤ 24) ∧ (∀ l : Nat, (l : Int) < x2_2 → ¬ asM m x1 (l : Int))), fun x2_2 m_2 => Int.toNat (24 - x2_2), ?_, ?_⟩
  · exact ⟨rfl, by exact ⟨by first | omega | (refine ⟨?_, ?_⟩ <;> omega) | trivial, by exact fun l hl => by omega⟩⟩
  · intro x2_2 m_2 r_x2_2 hI_2
    obtain ⟨e_m_2, hI_2⟩ := hI_2
    replace e_m_2 := e_m_2.symm
    subst e_m_2
    obtain ⟨hI_2, dI_2⟩ := hI_2
    refine ⟨fun hq => ?_, fun hq => ?_⟩
    · skip
      exact ⟨rfl, by exact ⟨by first | trivial | omega | (refine ⟨?_, ?_⟩ <;> omega), by first | (have u := h_m11; exact Or.inl ⟨rfl, Int.toNat x2_2, by omega, by rw [Int.toNat_of_nonneg (by omega)]; exact or_1 h_m11.2 (by assumption)⟩) | exact Or.inr ⟨rfl, fun l hl => dI_2 l (by omega)⟩⟩⟩
    · skip
      refine CK.mono (my_268   T_m r_x1 r_x2_2 (by omega) (by omega)) (by decide) ?_
      rintro m11 v11 r_v11 ⟨e_m11, h_m11⟩
      replace e_m11 := e_m11.symm
      subst e_m11
      refine ⟨fun hq => ?_, fun hq => ?_⟩
      · skip
        try have w1 : wr (x2_2 + 1) = x2_2 + 1 := wr_id (by omega) (by omega)
        intro z2_19 e_z2_19
        have r_z2_19 : rg z2_19 := by rw [e_z2_19]; exact wr_rg _
        exact ⟨⟨rfl, by exact ⟨by first | omega | (refine ⟨?_, ?_⟩ <;> omega) | trivial, by exact an_k dI_2 (by omega) (or_0 h_m11.2 (by assumption))⟩⟩, by (try dsimp only); omega⟩
      · skip
        exact ⟨rfl, by exact ⟨by first | trivial | omega | (refine ⟨?_, ?_⟩ <;> omega), by first | (have u := h_m11; exact Or.inl ⟨rfl, Int.toNat x2_2, by omega, by rw [Int.toNat_of_nonneg (by omega)]; exact or_1 h_m11.2 (by assumption)⟩) | exact Or.inr ⟨rfl, fun l hl => dI_2 l (by omega)⟩⟩⟩
-- TippedCratesModel.alike(II)I
set_option maxRecDepth 20000 in
theorem my_270 {m0 m : Mm} {x1 : Int} {x2 : Int}  (g_m : G m0 m) (r_x1 : rg x1) (r_x2 : rg x2)  : CK 4 270 [.ref 284, iv x1, iv x2] m (fun m2 v => G m0 m2 ∧ ((True) ∧ (∀ A T F, okY A.Y → okR A.Y A.r → mA m A → tbR m 319 320 F T → v = alA A F x1 x2 ∧ mA m2 A))) := by
  refine br_270 r_x1 r_x2 ?_
  unfold P_270
  refine CK.mono (ct_210   g_m.1 r_x1) (by decide) ?_
  rintro m2 v2 r_v2 ⟨e_m2, h_m2⟩
  replace e_m2 := e_m2.symm
  subst e_m2
  refine ⟨fun m_16 => G m0 m_16 ∧ (m_16 = m ∧ (¬ (0 ≤ x1 ∧ x1 < rd m 302 (Int.toNat (rd m 284 18))) ∨ ¬ (0 ≤ x2 ∧ x2 < rd m 302 (Int.toNat (rd m 284 18))))), ?_, ?_⟩
  · skip
    refine ⟨fun hq => ?_, fun hq => ?_⟩
    · skip
      exact ⟨g_m, by exact ⟨rfl, by omega⟩⟩
    · skip
      refine CK.mono (ct_210   g_m.1 r_x2) (by decide) ?_
      rintro m10 v10 r_v10 ⟨e_m10, h_m10⟩
      replace e_m10 := e_m10.symm
      subst e_m10
      refine ⟨fun hq => ?_, fun hq => ?_⟩
      · skip
        refine CV.mono (mz_216   g_m.1) (by decide) ?_
        rintro m19 ⟨hx_m19, h_m19⟩
        have g_m19 : G m0 m19 := gx_in g_m hx_m19 in_sC_scr
        refine ⟨fun x3_24 m_24 => G m0 m_24 ∧ ((0 ≤ x3_24 ∧ x3_24 ≤ 6) ∧ (tpL m19 m_24 (lkM m19 x2 0) x3_24)), fun x3_24 m_24 => Int.toNat (6 - x3_24), ?_, ?_⟩
        · exact ⟨g_m19, by exact ⟨by first | omega | (refine ⟨?_, ?_⟩ <;> omega) | trivial, by exact ⟨fun _ _ _ => rfl, fun t ht => by omega⟩⟩⟩
        · intro x3_24 m_24 r_x3_24 hI_24
          obtain ⟨g_m_24, hI_24⟩ := hI_24
          obtain ⟨hI_24, dI_24⟩ := hI_24
          refine ⟨fun hq => ?_, fun hq => ?_⟩
          · skip
            refine CK.mono (my_269   g_m_24.1 r_x1 (by omega)) (by decide) ?_
            rintro m51 v51 r_v51 ⟨e_m51, h_m51⟩
            replace e_m51 := e_m51.symm
            subst e_m51
            refine ⟨fun s0_62 => (v51 = 0 ∧ s0_62 = 0) ∨ (¬ v51 = 0 ∧ s0_62 = 1), ?_, ?_⟩
            · skip
              refine ⟨fun hq => ?_, fun hq => ?_⟩
              · skip
                (first | exact Or.inl ⟨by assumption, rfl⟩ | exact Or.inr ⟨by assumption, rfl⟩)
              · skip
                (first | exact Or.inl ⟨by assumption, rfl⟩ | exact Or.inr ⟨by assumption, rfl⟩)
            · intro s0_62 r_s0_62 hR_62
              exact ⟨g_m_24, by exact ⟨by first | trivial | omega | (refine ⟨?_, ?_⟩ <;> omega), by first | (have u := h_m51; exact fun A T F oY oR h tb => al_M (lkp_M h oY oR (ty_284_18 g_m.1) h_m19.2 g_m19.1 tb) (te_x h oY (by omega)) (te_x h oY (by omega)) dI_24 (by omega) h_m51.2 hR_62) | exact fun A T F oY oR h tb => al_Mn h hR_16.1 hR_16.2⟩⟩
          · skip
            refine CK.mono (mz_227   g_m_24.1 r_x2 (by unfold rg; decide) r_x3_24 (by omega) (by omega) (by omega)) (by decide) ?_
            rintro m39 v39 r_v39 ⟨e_m39, h_m39⟩
            replace e_m39 := e_m39.symm
            subst e_m39
            refine ⟨⟨by omega, by omega⟩, ?_⟩
            intro m42 e_m42
            have g_m42 : G m0 m42 := by rw [e_m42]; exact GX.wt g_m_24 (tw_321 g_m_24.1 ⟨by omega, by omega⟩) (Eq.refl true)
            try have w1 : wr (x3_24 + 1) = x3_24 + 1 := wr_id (by omega) (by omega)
            intro z3_43 e_z3_43
            have r_z3_43 : rg z3_43 := by rw [e_z3_43]; exact wr_rg _
            exact ⟨⟨g_m42, by exact ⟨by first | omega | (refine ⟨?_, ?_⟩ <;> omega) | trivial, by exact tl_s dI_24 (by omega) (lk_w dI_24.1 (n := Int.toNat x3_24) (by omega) h_m39.2) r_v39 e_m42⟩⟩, by (try dsimp only); omega⟩
      · skip
        exact ⟨g_m, by exact ⟨rfl, by omega⟩⟩
  · intro m_16  hR_16
    obtain ⟨g_m_16, hR_16⟩ := hR_16
    exact ⟨g_m_16, by exact ⟨by first | trivial | omega | (refine ⟨?_, ?_⟩ <;> omega), by first | (have u := h_m51; exact fun A T F oY oR h tb => al_M (lkp_M h oY oR (ty_284_18 g_m.1) h_m19.2 g_m19.1 tb) (te_x h oY (by omega)) (te_x h oY (by omega)) dI_24 (by omega) h_m51.2 hR_62) | exact fun A T F oY oR h tb => al_Mn h hR_16.1 hR_16.2⟩⟩
-- TippedCratesModel.looks(I)I
set_option maxRecDepth 20000 in
theorem my_271 {m0 m : Mm} {x1 : Int}  (g_m : G m0 m) (r_x1 : rg x1)  : CK 3 271 [.ref 284, iv x1] m (fun m2 v => G m0 m2 ∧ ((True) ∧ (∀ A T F, okY A.Y → okR A.Y A.r → mA m A → tbR m 319 320 F T → v = looA A F x1 ∧ mA m2 A))) := by
  refine br_271 r_x1 ?_
  unfold P_271
  refine CK.mono (ct_210   g_m.1 r_x1) (by decide) ?_
  rintro m2 v2 r_v2 ⟨e_m2, h_m2⟩
  replace e_m2 := e_m2.symm
  subst e_m2
  refine ⟨fun hq => ?_, fun hq => ?_⟩
  · skip
    refine CV.mono (mz_216   g_m.1) (by decide) ?_
    rintro m11 ⟨hx_m11, h_m11⟩
    have g_m11 : G m0 m11 := gx_in g_m hx_m11 in_sC_scr
    refine ⟨fun x2_18 x3_18 m_18 => G m0 m_18 ∧ ((0 ≤ x3_18 ∧ x3_18 ≤ 24) ∧ (n31 m11 m_18 ∧ ∀ A F, lkP m11 A F → (0 ≤ x1 ∧ x1 < A.Y 3) → x2_18 = cntF (fun l => dgW (lkN A.r F x1 l) 6) (Int.toNat x3_18))), fun x2_18 x3_18 m_18 => Int.toNat (24 - x3_18), ?_, ?_⟩
    · exact ⟨g_m11, by exact ⟨by first | omega | (refine ⟨?_, ?_⟩ <;> omega) | trivial, by exact ⟨fun _ _ _ => rfl, fun _ _ _ _ => rfl⟩⟩⟩
    · intro x2_18 x3_18 m_18 r_x2_18 r_x3_18 hI_18
      obtain ⟨g_m_18, hI_18⟩ := hI_18
      obtain ⟨hI_18, dI_18⟩ := hI_18
      refine ⟨fun hq => ?_, fun hq => ?_⟩
      · skip
        exact ⟨g_m_18, by exact ⟨by first | trivial | omega | (refine ⟨?_, ?_⟩ <;> omega), by first | (have u := dI_18; exact fun A T F oY oR h tb => lo_M (lkp_M h oY oR (ty_284_18 g_m.1) h_m11.2 g_m11.1 tb) (te_x h oY (by omega)) dI_18 (by omega)) | exact fun A T F oY oR h tb => ⟨lo_n (fun w => by have := h.1.1.2.2.2.1; omega), h⟩⟩⟩
      · skip
        refine ⟨fun x4_27 m_27 => G m0 m_27 ∧ ((0 ≤ x4_27 ∧ x4_27 ≤ 6) ∧ (n31 m11 m_18 ∧ tpL m_18 m_27 (lkM m_18 x1 x3_18) x4_27)), fun x4_27 m_27 => Int.toNat (6 - x4_27), ?_, ?_⟩
        · exact ⟨g_m_18, by exact ⟨by first | omega | (refine ⟨?_, ?_⟩ <;> omega) | trivial, by exact ⟨dI_18.1, fun _ _ _ => rfl, fun t ht => by omega⟩⟩⟩
        · intro x4_27 m_27 r_x4_27 hI_27
          obtain ⟨g_m_27, hI_27⟩ := hI_27
          obtain ⟨hI_27, dI_27⟩ := hI_27
          refine ⟨fun hq => ?_, fun hq => ?_⟩
          · skip
            refine ⟨fun x4_61 x5_61 m_61 => G m0 m_61 ∧ ((0 ≤ x5_61 ∧ x5_61 ≤ 24) ∧ (x5_61 ≤ x3_18 ∧ n31 m11 m_18 ∧ tpL m_18 m_61 (lkM m_18 x1 x3_18) 6 ∧ nwI m_61 x1 x4_61 x5_61)), fun x4_61 x5_61 m_61 => Int.toNat (24 - x5_61), ?_, ?_⟩
            · exact ⟨g_m_27, by exact ⟨by first | omega | (refine ⟨?_, ?_⟩ <;> omega) | trivial, by exact ⟨by omega, dI_27.1, ⟨dI_27.2.1, fun t ht => dI_27.2.2 t (by omega)⟩, Or.inl ⟨rfl, fun l hl => by omega⟩⟩⟩⟩
            · intro x4_61 x5_61 m_61 r_x4_61 r_x5_61 hI_61
              obtain ⟨g_m_61, hI_61⟩ := hI_61
              obtain ⟨hI_61, dI_61⟩ := hI_61
              refine ⟨fun hq => ?_, fun hq => ?_⟩
              · skip
                refine ⟨fun y2_94 => (x4_61 = 0 ∧ y2_94 = x2_18) ∨ (¬ x4_61 = 0 ∧ y2_94 = wr (x2_18 + 1)), ?_, ?_⟩
                · skip
                  refine ⟨fun hq => ?_, fun hq => ?_⟩
                  · skip
                    (first | exact Or.inr ⟨by assumption, e_z2_91⟩ | exact Or.inl ⟨by assumption, rfl⟩)
                  · skip
                    try have w1 : wr (x2_18 + 1) = x2_18 + 1 := wr_id (by omega) (by omega)
                    intro z2_91 e_z2_91
                    have r_z2_91 : rg z2_91 := by rw [e_z2_91]; exact wr_rg _
                    (first | exact Or.inr ⟨by assumption, e_z2_91⟩ | exact Or.inl ⟨by assumption, rfl⟩)
                · intro y2_94 r_y2_94 hR_94
                  try have w2 : wr (x3_18 + 1) = x3_18 + 1 := wr_id (by omega) (by omega)
                  intro z3_94 e_z3_94
                  have r_z3_94 : rg z3_94 := by rw [e_z3_94]; exact wr_rg _
                  exact ⟨⟨g_m_61, by exact ⟨by first | omega | (refine ⟨?_, ?_⟩ <;> omega) | trivial, by exact ⟨n31_t dI_61.2.1 dI_61.2.2.1.1, fun A F w hc => cn_M (dI_18.2 A F w hc) (by omega) w hc dI_61.2.1 dI_61.2.2.1 dI_61.2.2.2 (by omega) hR_94⟩⟩⟩, by (try dsimp only); omega⟩
              · skip
                refine CK.mono (my_268   g_m_61.1 r_x1 r_x5_61 (by omega) (by omega)) (by decide) ?_
                rintro m71 v71 r_v71 ⟨e_m71, h_m71⟩
                replace e_m71 := e_m71.symm
                subst e_m71
                refine ⟨fun y4_80 => (v71 = 0 ∧ y4_80 = x4_61) ∨ (¬ v71 = 0 ∧ y4_80 = 0), ?_, ?_⟩
                · skip
                  refine ⟨fun hq => ?_, fun hq => ?_⟩
                  · skip
                    (first | exact Or.inl ⟨by assumption, rfl⟩ | exact Or.inr ⟨by assumption, rfl⟩)
                  · skip
                    (first | exact Or.inl ⟨by assumption, rfl⟩ | exact Or.inr ⟨by assumption, rfl⟩)
                · intro y4_80 r_y4_80 hR_80
                  try have w3 : wr (x5_61 + 1) = x5_61 + 1 := wr_id (by omega) (by omega)
                  intro z5_80 e_z5_80
                  have r_z5_80 : rg z5_80 := by rw [e_z5_80]; exact wr_rg _
                  exact ⟨⟨g_m_61, by exact ⟨by first | omega | (refine ⟨?_, ?_⟩ <;> omega) | trivial, by exact ⟨by omega, dI_61.2.1, dI_61.2.2.1, nw_s dI_61.2.2.2 (by omega) h_m71.2 hR_80⟩⟩⟩, by (try dsimp only); omega⟩
          · skip
            refine CK.mono (mz_227   g_m_27.1 r_x1 r_x3_18 r_x4_27 (by omega) (by omega) (by omega)) (by decide) ?_
            rintro m45 v45 r_v45 ⟨e_m45, h_m45⟩
            replace e_m45 := e_m45.symm
            subst e_m45
            refine ⟨⟨by omega, by omega⟩, ?_⟩
            intro m48 e_m48
            have g_m48 : G m0 m48 := by rw [e_m48]; exact GX.wt g_m_27 (tw_321 g_m_27.1 ⟨by omega, by omega⟩) (Eq.refl true)
            try have w4 : wr (x4_27 + 1) = x4_27 + 1 := wr_id (by omega) (by omega)
            intro z4_49 e_z4_49
            have r_z4_49 : rg z4_49 := by rw [e_z4_49]; exact wr_rg _
            exact ⟨⟨g_m48, by exact ⟨by first | omega | (refine ⟨?_, ?_⟩ <;> omega) | trivial, by exact ⟨dI_27.1, tl_s dI_27.2 (by omega) (lk_w dI_27.2.1 (n := Int.toNat x4_27) (by omega) h_m45.2) r_v45 e_m48⟩⟩⟩, by (try dsimp only); omega⟩
  · skip
    exact ⟨g_m, by exact ⟨by first | trivial | omega | (refine ⟨?_, ?_⟩ <;> omega), by first | (have u := dI_18; exact fun A T F oY oR h tb => lo_M (lkp_M h oY oR (ty_284_18 g_m.1) h_m11.2 g_m11.1 tb) (te_x h oY (by omega)) dI_18 (by omega)) | exact fun A T F oY oR h tb => ⟨lo_n (fun w => by have := h.1.1.2.2.2.1; omega), h⟩⟩⟩
-- TippedCratesModel.mirror(I)I
set_option maxRecDepth 20000 in
theorem my_272 {m0 m : Mm} {x1 : Int}  (g_m : G m0 m) (r_x1 : rg x1)  : CK 4 272 [.ref 284, iv x1] m (fun m2 v => G m0 m2 ∧ ((True) ∧ (∀ A T F, okY A.Y → okR A.Y A.r → mA m A → tbR m 319 320 F T → F 0 = 0 ∧ F 1 = 1 ∧ F 2 = 2 ∧ F 3 = 3 ∧ F 4 = 4 ∧ F 5 = 5 → v = mirA A F x1 ∧ mA m2 A))) := by
  refine br_272 r_x1 ?_
  unfold P_272
  refine CK.mono (ct_210   g_m.1 r_x1) (by decide) ?_
  rintro m2 v2 r_v2 ⟨e_m2, h_m2⟩
  replace e_m2 := e_m2.symm
  subst e_m2
  refine ⟨fun hq => ?_, fun hq => ?_⟩
  · skip
    refine CV.mono (mz_216   g_m.1) (by decide) ?_
    rintro m11 ⟨hx_m11, h_m11⟩
    have g_m11 : G m0 m11 := gx_in g_m hx_m11 in_sC_scr
    refine ⟨fun x2_16 m_16 => G m0 m_16 ∧ ((0 ≤ x2_16 ∧ x2_16 ≤ 6) ∧ (tpL m11 m_16 (fun t => lkM m11 x1 0 (mirT t)) x2_16)), fun x2_16 m_16 => Int.toNat (6 - x2_16), ?_, ?_⟩
    · exact ⟨g_m11, by exact ⟨by first | omega | (refine ⟨?_, ?_⟩ <;> omega) | trivial, by exact ⟨fun _ _ _ => rfl, fun t ht => by omega⟩⟩⟩
    · intro x2_16 m_16 r_x2_16 hI_16
      obtain ⟨g_m_16, hI_16⟩ := hI_16
      obtain ⟨hI_16, dI_16⟩ := hI_16
      refine ⟨fun hq => ?_, fun hq => ?_⟩
      · skip
        refine CK.mono (my_269   g_m_16.1 r_x1 (by omega)) (by decide) ?_
        rintro m61 v61 r_v61 ⟨e_m61, h_m61⟩
        replace e_m61 := e_m61.symm
        subst e_m61
        refine ⟨fun s0_72 => (v61 = 0 ∧ s0_72 = 0) ∨ (¬ v61 = 0 ∧ s0_72 = 1), ?_, ?_⟩
        · skip
          refine ⟨fun hq => ?_, fun hq => ?_⟩
          · skip
            (first | exact Or.inl ⟨by assumption, rfl⟩ | exact Or.inr ⟨by assumption, rfl⟩)
          · skip
            (first | exact Or.inl ⟨by assumption, rfl⟩ | exact Or.inr ⟨by assumption, rfl⟩)
        · intro s0_72 r_s0_72 hR_72
          exact ⟨g_m_16, by exact ⟨by first | trivial | omega | (refine ⟨?_, ?_⟩ <;> omega), by first | (have u := h_m61; exact fun A T F oY oR h tb ff => mi_M (lkp_M h oY oR (ty_284_18 g_m.1) h_m11.2 g_m11.1 tb) (te_x h oY (by omega)) ff dI_16 (by omega) h_m61.2 hR_72) | exact fun A T F oY oR h tb ff => ⟨mi_n (fun w => by have := h.1.1.2.2.2.1; omega), h⟩⟩⟩
      · skip
        refine ⟨fun s5_49 => s5_49 = (mirT (Int.toNat x2_16) : Int), ?_, ?_⟩
        · skip
          refine ⟨fun hq => ?_, fun hq => ?_⟩
          · skip
            refine ⟨fun hq => ?_, fun hq => ?_⟩
            · skip
              (unfold mirT; split <;> first | omega | (split <;> omega))
            · skip
              (unfold mirT; split <;> first | omega | (split <;> omega))
          · skip
            (unfold mirT; split <;> first | omega | (split <;> omega))
        · intro s5_49 r_s5_49 hR_49
          have mb49 := mirT_b (t := Int.toNat x2_16) (by omega)
          refine CK.mono (mz_227   g_m_16.1 r_x1 (by unfold rg; decide) r_s5_49 (by omega) (by omega) (by omega)) (by decide) ?_
          rintro m49 v49 r_v49 ⟨e_m49, h_m49⟩
          replace e_m49 := e_m49.symm
          subst e_m49
          refine ⟨⟨by omega, by omega⟩, ?_⟩
          intro m52 e_m52
          have g_m52 : G m0 m52 := by rw [e_m52]; exact GX.wt g_m_16 (tw_321 g_m_16.1 ⟨by omega, by omega⟩) (Eq.refl true)
          try have w1 : wr (x2_16 + 1) = x2_16 + 1 := wr_id (by omega) (by omega)
          intro z2_53 e_z2_53
          have r_z2_53 : rg z2_53 := by rw [e_z2_53]; exact wr_rg _
          exact ⟨⟨g_m52, by exact ⟨by first | omega | (refine ⟨?_, ?_⟩ <;> omega) | trivial, by exact tl_s dI_16 (by omega) (lk_w dI_16.1 hR_49 h_m49.2) r_v49 e_m52⟩⟩, by (try dsimp only); omega⟩
  · skip
    exact ⟨g_m, by exact ⟨by first | trivial | omega | (refine ⟨?_, ?_⟩ <;> omega), by first | (have u := h_m61; exact fun A T F oY oR h tb ff => mi_M (lkp_M h oY oR (ty_284_18 g_m.1) h_m11.2 g_m11.1 tb) (te_x h oY (by omega)) ff dI_16 (by omega) h_m61.2 hR_72) | exact fun A T F oY oR h tb ff => ⟨mi_n (fun w => by have := h.1.1.2.2.2.1; omega), h⟩⟩⟩
