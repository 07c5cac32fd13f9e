/-- the yard of the class, its laws; a State of the class -/
def planL (m : Mm) (Y : Ro) : Prop := ∀ f : Int, 0 ≤ f → f < Y 0 * Y 1 → rd m 16 (Int.toNat f) = f % Y 0 ∧ rd m 17 (Int.toNat f) = f / Y 0 ∧ ∀ k : Int, 0 ≤ k → k ≤ 3 → rd m 18 (Int.toNat (f * 4 + k)) = nxN Y f k
def plC (m : Mm) (Y : Ro) (E : Lw) : Prop := (rd m 7 0 = Y 0 ∧ rd m 7 1 = Y 1 ∧ rd m 7 4 = Y 2 ∧ rd m 7 3 = Y 3 ∧ rd m 7 2 = Y 4) ∧ planL m Y ∧ LSd m 11 E
def stC (m : Mm) (a : Nat) (Y r : Ro) : Prop := rd m a 4 = Y 3 ∧ (∀ j : Nat, j < 25 → rd m (a + 1) j = r j) ∧ (∀ c : Int, 0 ≤ c → c < Y 3 → rd m (a + 2) (Int.toNat c) = fC r c) ∧ (∀ k : Int, 0 ≤ k → k < 6 * Y 3 → rd m (a + 3) (Int.toNat k) = r (Int.toNat (25 + k))) ∧ (∀ c : Int, 0 ≤ c → c ≤ 2 → rd m (a + 4) (Int.toNat c) = r (Int.toNat (46 + c))) ∧ rd m a 5 = r 49 ∧ rd m a 6 = r 50
theorem plC_fr {m m2 : Mm} {Y : Ro} {E : Lw} (h : plC m Y E) (f : ∀ i j : Nat, (i = 7 ∨ i = 11 ∨ i = 13 ∨ i = 14 ∨ (16 ≤ i ∧ i ≤ 18)) → rd m2 i j = rd m i j) : plC m2 Y E := by
  obtain ⟨⟨a, b, c, d, e⟩, p, l⟩ := h
  refine ⟨⟨(f 7 0 (by omega)).trans a, (f 7 1 (by omega)).trans b, (f 7 4 (by omega)).trans c, (f 7 3 (by omega)).trans d, (f 7 2 (by omega)).trans e⟩, fun g g0 g1 => ?_, ls_fr l (f 11 4 (by omega)) (fun j => f 13 j (by omega)) (fun j => f 14 j (by omega))⟩
  obtain ⟨q1, q2, q3⟩ := p g g0 g1
  exact ⟨(f 16 _ (by omega)).trans q1, (f 17 _ (by omega)).trans q2, fun k k0 k1 => (f 18 _ (by omega)).trans (q3 k k0 k1)⟩
theorem stC_fr {m m2 : Mm} {a : Nat} {Y r : Ro} (h : stC m a Y r) (f : ∀ i j : Nat, a ≤ i → i ≤ a + 4 → rd m2 i j = rd m i j) : stC m2 a Y r := by
  obtain ⟨h1, h2, h3, h4, h5, h6, h7⟩ := h
  exact ⟨(f a 4 (by omega) (by omega)).trans h1, fun j q => (f _ j (by omega) (by omega)).trans (h2 j q), fun c q1 q2 => (f _ _ (by omega) (by omega)).trans (h3 c q1 q2), fun k q1 q2 => (f _ _ (by omega) (by omega)).trans (h4 k q1 q2), fun c q1 q2 => (f _ _ (by omega) (by omega)).trans (h5 c q1 q2), (f a 5 (by omega) (by omega)).trans h6, (f a 6 (by omega) (by omega)).trans h7⟩
/-- a look: what the variables are, in the class's rows -/
def lfI (m : Mm) (a : Nat) (x2 x3 x4 x5 x6 i : Int) : Int := if i = 0 then wr (rd m 16 (Int.toNat x3) + sx 2 x4) else if i = 1 then wr (rd m 17 (Int.toNat x3) + sx 3 x4) else if i = 2 then (if rd m 18 (Int.toNat (x3 * 4 + x4)) = -1 then 0 else rd m (a + 1) (Int.toNat (rd m 18 (Int.toNat (x3 * 4 + x4))))) else if i = 3 then x5 else if i = 4 then x6 else if i = 5 then rd m (a + 4) (Int.toNat x2) else if i = 6 then rd m a 5 else if i = 7 then x2 else x4
def lfX (m m2 : Mm) (a : Nat) (x2 x3 x4 x5 x6 : Int) : Prop := ∀ i : Int, 0 ≤ i → i ≤ 8 → vaC m2 i = lfI m a x2 x3 x4 x5 x6 i
theorem lf_of {m m43 m63 m84 m90 m96 m106 m115 m121 m128 : Mm} {a : Nat} {x2 x3 x4 x5 x6 s : Int} (ha : isSt a) (rs : rg s) (r5 : rg x5) (r6 : rg x6) (r2 : rg x2) (r4 : rg x4) (e43 : m43 = wt m 12 0 (wr ((rd m 16 (Int.toNat x3)) + (sx 2 x4)))) (e63 : m63 = wt m43 12 1 (wr ((rd m43 17 (Int.toNat x3)) + (sx 3 x4)))) (hs : s = (if rd m 18 (Int.toNat (x3 * 4 + x4)) = -1 then 0 else rd m (a + 1) (Int.toNat (rd m 18 (Int.toNat (x3 * 4 + x4)))))) (e84 : m84 = wt m63 12 2 s) (e90 : m90 = wt m84 12 3 x5) (e96 : m96 = wt m90 12 4 x6) (e106 : m106 = wt m96 12 5 (rd m96 (a + 4) (Int.toNat x2))) (e115 : m115 = wt m106 12 6 (rd m106 a 5)) (e121 : m121 = wt m115 12 7 x2) (e128 : m128 = wt m121 12 8 x4) : lfX m m128 a x2 x3 x4 x5 x6 := by
  have a0 := ha.1
  have f96 : ∀ i j : Nat, ¬ i = 12 → rd m96 i j = rd m i j := fun i j q => by rw [e96, rd_wt, if_neg (by omega), e90, rd_wt, if_neg (by omega), e84, rd_wt, if_neg (by omega), e63, rd_wt, if_neg (by omega), e43, rd_wt, if_neg (by omega)]
  have f106 : ∀ i j : Nat, ¬ i = 12 → rd m106 i j = rd m i j := fun i j q => by rw [e106, rd_wt, if_neg (by omega)]; exact f96 i j q
  have f43 : ∀ i j : Nat, ¬ i = 12 → rd m43 i j = rd m i j := fun i j q => by rw [e43, rd_wt, if_neg (by omega)]
  intro i h0 h8
  have hi : i = 0 ∨ i = 1 ∨ i = 2 ∨ i = 3 ∨ i = 4 ∨ i = 5 ∨ i = 6 ∨ i = 7 ∨ i = 8 := by omega
  unfold vaC lfI
  rcases hi with rfl | rfl | rfl | rfl | rfl | rfl | rfl | rfl | rfl
  · rw [if_pos rfl, e128, rd_wt, if_neg (by omega), e121, rd_wt, if_neg (by omega), e115, rd_wt, if_neg (by omega), e106, rd_wt, if_neg (by omega), e96, rd_wt, if_neg (by omega), e90, rd_wt, if_neg (by omega), e84, rd_wt, if_neg (by omega), e63, rd_wt, if_neg (by omega), e43, rd_wt, if_pos ⟨rfl, rfl⟩, wr_i (wr_rg _)]
  · rw [if_neg (by decide), if_pos rfl, e128, rd_wt, if_neg (by omega), e121, rd_wt, if_neg (by omega), e115, rd_wt, if_neg (by omega), e106, rd_wt, if_neg (by omega), e96, rd_wt, if_neg (by omega), e90, rd_wt, if_neg (by omega), e84, rd_wt, if_neg (by omega), e63, rd_wt, if_pos ⟨rfl, rfl⟩, wr_i (wr_rg _), f43 17 _ (by decide)]
  · rw [if_neg (by decide), if_neg (by decide), if_pos rfl, e128, rd_wt, if_neg (by omega), e121, rd_wt, if_neg (by omega), e115, rd_wt, if_neg (by omega), e106, rd_wt, if_neg (by omega), e96, rd_wt, if_neg (by omega), e90, rd_wt, if_neg (by omega), e84, rd_wt, if_pos ⟨rfl, rfl⟩, wr_i rs, hs]
  · rw [if_neg (by decide), if_neg (by decide), if_neg (by decide), if_pos rfl, e128, rd_wt, if_neg (by omega), e121, rd_wt, if_neg (by omega), e115, rd_wt, if_neg (by omega), e106, rd_wt, if_neg (by omega), e96, rd_wt, if_neg (by omega), e90, rd_wt, if_pos ⟨rfl, rfl⟩, wr_i r5]
  · rw [if_neg (by decide), if_neg (by decide), if_neg (by decide), if_neg (by decide), if_pos rfl, e128, rd_wt, if_neg (by omega), e121, rd_wt, if_neg (by omega), e115, rd_wt, if_neg (by omega), e106, rd_wt, if_neg (by omega), e96, rd_wt, if_pos ⟨rfl, rfl⟩, wr_i r6]
  · rw [if_neg (by decide), if_neg (by decide), if_neg (by decide), if_neg (by decide), if_neg (by decide), if_pos rfl, e128, rd_wt, if_neg (by omega), e121, rd_wt, if_neg (by omega), e115, rd_wt, if_neg (by omega), e106, rd_wt, if_pos ⟨rfl, rfl⟩, wr_i (rd_rg _ _ _), f96 _ _ (by omega)]
  · rw [if_neg (by decide), if_neg (by decide), if_neg (by decide), if_neg (by decide), if_neg (by decide), if_neg (by decide), if_pos rfl, e128, rd_wt, if_neg (by omega), e121, rd_wt, if_neg (by omega), e115, rd_wt, if_pos ⟨rfl, rfl⟩, wr_i (rd_rg _ _ _), f106 _ _ (by omega)]
  · rw [if_neg (by decide), if_neg (by decide), if_neg (by decide), if_neg (by decide), if_neg (by decide), if_neg (by decide), if_neg (by decide), if_pos rfl, e128, rd_wt, if_neg (by omega), e121, rd_wt, if_pos ⟨rfl, rfl⟩, wr_i r2]
  · rw [if_neg (by decide), if_neg (by decide), if_neg (by decide), if_neg (by decide), if_neg (by decide), if_neg (by decide), if_neg (by decide), if_neg (by decide), e128, rd_wt, if_pos ⟨rfl, rfl⟩, wr_i r4]
theorem la_of {m m2 : Mm} {a : Nat} {x2 f x3 z4 z5 : Int} (h : lfX m m2 a x2 f x3 z4 z5) (e4 : z4 = rd m (a + 3) (Int.toNat (wr ((wr (x2 * 6)) + (sx 1 x3))))) (e5 : z5 = rd m (a + 3) (Int.toNat (wr ((wr (x2 * 6)) + (sx 0 x3))))) (p0 : 0 ≤ x2 ∧ x2 ≤ 2) (p1 : 0 ≤ x3 ∧ x3 ≤ 3) : lfX m m2 a x2 f x3 (rd m (a + 3) (Int.toNat (6 * x2 + ct x3))) (rd m (a + 3) (Int.toNat (6 * x2 + cb x3))) := by
  have s := sx_cb p1
  have b := ct_b p1
  have w : wr (x2 * 6) = x2 * 6 := wr_id (by omega) (by omega)
  rw [s.2, w, wr_id (by omega) (by omega), Int.mul_comm] at e4
  rw [s.1, w, wr_id (by omega) (by omega), Int.mul_comm] at e5
  rw [← e4, ← e5]
  exact h
/-- the rows of variables and of the pile alone have changed since a look -/
def frV (m m27 m2 : Mm) : Prop := (∀ i j : Nat, ¬ i = 12 → ¬ i = 15 → rd m2 i j = rd m i j) ∧ ∀ j : Nat, rd m2 12 j = rd m27 12 j
theorem frV_0 {m m27 : Mm} (g : GX s12 m m27) : frV m m27 m27 := ⟨fun i j h _ => g.2.1 i j (nb_ne h), fun _ => rfl⟩
theorem frV_15 {m m27 m1 m2 : Mm} (h : frV m m27 m1) (g : GX s15 m1 m2) : frV m m27 m2 := ⟨fun i j h1 h2 => (g.2.1 i j (nb_ne h2)).trans (h.1 i j h1 h2), fun j => (g.2.1 12 j rfl).trans (h.2 j)⟩
theorem ls_V {m m27 m2 : Mm} {E : Lw} (h : LSd m 11 E) (f : frV m m27 m2) : LSd m2 11 E := ls_fr h (f.1 11 4 (by decide) (by decide)) (fun j => f.1 13 j (by decide) (by decide)) (fun j => f.1 14 j (by decide) (by decide))
theorem lsE_V {m m27 m2 : Mm} (h : ∃ E, LSd m 11 E) (f : frV m m27 m2) : ∃ E, LSd m2 11 E := by
  obtain ⟨E, h⟩ := h
  exact ⟨E, ls_V h f⟩
theorem va_V {m m27 m2 : Mm} (f : frV m m27 m2) : vaC m2 = vaC m27 := funext fun w => f.2 _
theorem lsE_q {m m27 m2 : Mm} {E : Lw} {v q : Int} (h : LSd m 11 E) (f : frV m m27 m2) (k : ∀ E, LSd m2 11 E → (v = 1 ∧ 0 < lval (vaC m2) (E q).1 (E q).2) ∨ (v = 0 ∧ ¬ 0 < lval (vaC m2) (E q).1 (E q).2)) : (v = 1 ∧ 0 < lval (vaC m27) (E q).1 (E q).2) ∨ (v = 0 ∧ ¬ 0 < lval (vaC m27) (E q).1 (E q).2) := by
  have := k E (ls_V h f)
  rw [va_V f] at this
  exact this
theorem lsE_q2 {m m27 m2 : Mm} {E : Lw} {v hi q : Int} (h : LSd m 11 E) (f : frV m m27 m2) (k : ∀ E, LSd m2 11 E → v = clI hi (lval (vaC m2) (E q).1 (E q).2)) : v = clI hi (lval (vaC m27) (E q).1 (E q).2) := by
  have := k E (ls_V h f)
  rw [va_V f] at this
  exact this
theorem ho_0 {v x : Int} (h : (v = 1 ∧ 0 < x) ∨ (v = 0 ∧ ¬ 0 < x)) (z : v = 0) : ¬ 0 < x := by omega
theorem ho_1 {v x : Int} (h : (v = 1 ∧ 0 < x) ∨ (v = 0 ∧ ¬ 0 < x)) (z : ¬ v = 0) : 0 < x := by omega
/-- the next flag, as the class keeps it -/
theorem nx_C {m : Mm} {a : Nat} {Y r : Ro} {E : Lw} {x2 x3 v : Int} (P : plC m Y E) (S : stC m a Y r) (_oY : okY Y) (oR : okR Y r) (hx : 0 ≤ x2 ∧ x2 < rd m a 4) (hk : 0 ≤ x3 ∧ x3 ≤ 3) (hv : v = rd m 18 (Int.toNat (rd m (a + 2) (Int.toNat x2) * 4 + x3))) : v = nxN Y (fC r x2) x3 := by
  have n := S.1
  have o := oR x2 hx.1 (by omega)
  rw [hv, S.2.2.1 x2 hx.1 (by omega)]
  exact (P.2.1 _ o.1 o.2).2.2 x3 hk.1 hk.2
theorem va_C {m m27 : Mm} {a : Nat} {Y r : Ro} {E : Lw} {x2 x3 : Int} (P : plC m Y E) (S : stC m a Y r) (oY : okY Y) (oR : okR Y r) (hx : 0 ≤ x2 ∧ x2 < rd m a 4) (hk : 0 ≤ x3 ∧ x3 ≤ 3) (lf : lfX m m27 a x2 (rd m (a + 2) (Int.toNat x2)) x3 (rd m (a + 3) (Int.toNat (6 * x2 + ct x3))) (rd m (a + 3) (Int.toNat (6 * x2 + cb x3)))) : ∀ i : Int, 0 ≤ i → i ≤ 8 → vaC m27 i = vaN Y r x2 x3 i := by
  intro i h0 h8
  have n := S.1
  have y3 := oY.2.2
  have o := oR x2 hx.1 (by omega)
  have cb_ := ct_b hk
  have eF := S.2.2.1 x2 hx.1 (by omega)
  have pl := P.2.1 (fC r x2) o.1 o.2
  have e18 := pl.2.2 x3 hk.1 hk.2
  have hw := oY.1
  have hh := oY.2.1
  have sxy := sx_xy (f := fC r x2) (w := Y 0) hk
  have d := yd_div oY.1 oY.2.1 o
  have nb := nx_b oY o hk
  have wb := wh_b oY.1 oY.2.1
  have cov := S.2.2.2.1 (6 * x2 + ct x3) (by omega) (by omega)
  have cun := S.2.2.2.1 (6 * x2 + cb x3) (by omega) (by omega)
  rw [lf i h0 h8]
  unfold lfI vaN vaI
  rw [eF, cov, cun, e18, pl.1, pl.2.1, sxy.1, sxy.2, show 25 + (6 * x2 + ct x3) = 25 + 6 * x2 + ct x3 by omega, show 25 + (6 * x2 + cb x3) = 25 + 6 * x2 + cb x3 by omega]
  have tx : -1 ≤ tXI (Y 0) (fC r x2) x3 ∧ tXI (Y 0) (fC r x2) x3 ≤ 6 := by
    unfold tXI
    split
    · omega
    · split <;> omega
  have ty : -1 ≤ tYI (Y 0) (fC r x2) x3 ∧ tYI (Y 0) (fC r x2) x3 ≤ 6 := by
    unfold tYI
    split
    · omega
    · split <;> omega
  rw [wr_id (x := tXI (Y 0) (fC r x2) x3) (by omega) (by omega), wr_id (x := tYI (Y 0) (fC r x2) x3) (by omega) (by omega)]
  have e2 : (if nxN Y (fC r x2) x3 = -1 then (0 : Int) else rd m (a + 1) (Int.toNat (nxN Y (fC r x2) x3))) = (if nxN Y (fC r x2) x3 = -1 then 0 else r (Int.toNat (nxN Y (fC r x2) x3))) := by
    rcases nb with q | q
    · rw [if_pos q, if_pos q]
    · rw [if_neg (by omega), if_neg (by omega), S.2.1 _ (by omega)]
  rw [e2, S.2.2.2.2.1 x2 hx.1 (by omega), S.2.2.2.2.2.1]
theorem lw_C {m27 : Mm} {Y r : Ro} {E : Lw} {x2 x3 q : Int} (W : ∀ k : Int, 0 ≤ k → k < 4 → wfE (E k)) (h : ∀ i : Int, 0 ≤ i → i ≤ 8 → vaC m27 i = vaN Y r x2 x3 i) (hq : 0 ≤ q ∧ q < 4) : lval (vaC m27) (E q).1 (E q).2 = lwN Y E q r x2 x3 := lval_cg h (W q hq.1 hq.2).2 (W q hq.1 hq.2).1
theorem ls_W {m : Mm} {b : Nat} {E : Lw} (h : LSd m b E) : ∀ k : Int, 0 ≤ k → k < 4 → wfE (E k) := fun k h1 h2 => (h k h1 h2).1
theorem ti_C {m m27 m55 m63 m67 m77 m87 m97 m149 : Mm} {a : Nat} {Y r : Ro} {E : Lw} {x2 x3 v11 v32 s v63 z7 : Int} (P : plC m Y E) (S : stC m a Y r) (oY : okY Y) (oR : okR Y r) (nz_ : ¬ nxN Y (fC r x2) x3 = -1) (hx : 0 ≤ x2 ∧ x2 < rd m a 4) (hk : 0 ≤ x3 ∧ x3 ≤ 3) (hv : v11 = rd m 18 (Int.toNat (rd m (a + 2) (Int.toNat x2) * 4 + x3))) (lf : lfX m m27 a x2 (rd m (a + 2) (Int.toNat x2)) x3 (rd m (a + 3) (Int.toNat (6 * x2 + ct x3))) (rd m (a + 3) (Int.toNat (6 * x2 + cb x3))))
    (h32 : (v32 = 1 ∧ 0 < lval (vaC m27) (E 0).1 (E 0).2) ∨ (v32 = 0 ∧ ¬ 0 < lval (vaC m27) (E 0).1 (E 0).2)) (h55 : (v32 = 0 → (s = 1 ∧ 0 < lval (vaC m27) (E 1).1 (E 1).2) ∨ (s = 0 ∧ ¬ 0 < lval (vaC m27) (E 1).1 (E 1).2)) ∧ (¬ v32 = 0 → s = 0)) (f63 : ∀ i j : Nat, ¬ i = 12 → ¬ i = 15 → rd m63 i j = rd m i j) (p55 : rd m55 a 6 = rd m a 6) (h63 : v63 = clI 99 (lval (vaC m27) (E 2).1 (E 2).2))
    (e67 : m67 = wt m63 a 6 (wr ((rd m55 a 6) + v63))) (e77 : m77 = wt m67 (a + 2) (Int.toNat x2) v11) (e87 : m87 = wt m77 (a + 4) (Int.toNat x2) (wr ((rd m77 (a + 4) (Int.toNat x2)) + 1))) (e97 : m97 = tfM m87 (a + 3) (Int.toNat (x2 * 6)) (Int.toNat (x2 * 6 + sx 0 x3)) (Int.toNat (x2 * 6 + sx 1 x3))) (ez : z7 = x2 * 6 + 1)
    (h149 : (v32 = 0 ∧ s = 0 ∧ m149 = m97) ∨ (v32 = 0 ∧ ¬ s = 0 ∧ m149 = wt m97 (a + 3) (Int.toNat z7) (rd m97 (a + 1) (Int.toNat v11))) ∨ (¬ v32 = 0 ∧ m149 = wt m97 (a + 1) (Int.toNat v11) (rd m97 (a + 3) (Int.toNat z7)))) (ha : isSt a) (r11 : rg v11) : stC m149 a Y (tiN Y E r x2 x3) := by
  have a0 := ha.1
  have n := S.1
  have y3 := oY.2.2
  have va := va_C P S oY oR hx hk lf
  have W := ls_W P.2.2
  rw [lw_C W va (by decide)] at h32
  rw [lw_C W va (by decide)] at h55 h63
  have en := nx_C P S oY oR hx hk hv
  have o := oR x2 hx.1 (by omega)
  have wb := wh_b oY.1 oY.2.1
  have nb := nx_b oY o hk
  have cbb := ct_b hk
  have scb := sx_cb hk
  rw [scb.1, scb.2] at e97
  -- the tipping without what is printed or taken up
  have f87 : ∀ i j : Nat, ¬ i = 12 → ¬ i = 15 → ¬ (i = a ∧ j = 6) → ¬ (i = a + 2 ∧ j = Int.toNat x2) → ¬ (i = a + 4 ∧ j = Int.toNat x2) → rd m87 i j = rd m i j := fun i j p1 p2 p3 p4 p5 => by
    rw [e87, rd_wt, if_neg (by omega), e77, rd_wt, if_neg (by omega), e67, rd_wt, if_neg (by omega)]; exact f63 i j p1 p2
  have f97 : ∀ i j : Nat, ¬ i = a + 3 → rd m97 i j = rd m87 i j := fun i j q => by rw [e97]; exact tf_o (by omega)
  have x6 : Int.toNat (x2 * 6 + cb x3) = Int.toNat (x2 * 6) + Int.toNat (cb x3) := by omega
  have x7 : Int.toNat (x2 * 6 + ct x3) = Int.toNat (x2 * 6) + Int.toNat (ct x3) := by omega
  rw [x6, x7] at e97
  have B : stC m97 a Y (tiB Y E r x2 x3) := by
    obtain ⟨S1, S2, S3, S4, S5, S6, S7⟩ := S
    refine ⟨?_, fun j hj => ?_, fun c c0 c1 => ?_, fun k k0 k1 => ?_, fun c c0 c1 => ?_, ?_, ?_⟩
    · rw [f97 a 4 (by omega), f87 a 4 (by omega) (by omega) (by omega) (by omega) (by omega)]; exact S1
    · rw [f97 _ j (by omega), f87 _ j (by omega) (by omega) (by omega) (by omega) (by omega), S2 j hj]
      unfold tiB
      rw [ro_ne (by omega), ro_ne (by omega), ro_ne (by omega)]
      unfold trn
      rw [if_neg (by omega)]
    · rw [f97 _ _ (by omega)]
      unfold tiB fC
      rw [ro_ne (by omega), ro_ne (by omega)]
      by_cases q : c = x2
      · subst q
        rw [ro_eq, e87, rd_wt, if_neg (by omega), e77, rd_wt, if_pos ⟨rfl, rfl⟩, wr_i r11, en]
        rfl
      · rw [ro_ne (by omega), f87 _ _ (by omega) (by omega) (by omega) (by omega) (by omega), S3 c c0 c1]
        unfold trn fC
        rw [if_neg (by omega)]
    · unfold tiB
      rw [ro_ne (by omega), ro_ne (by omega), ro_ne (by omega)]
      unfold trn
      by_cases q : 6 * x2 ≤ k ∧ k < 6 * x2 + 6
      · rw [if_pos (by omega), e97]
        have fb := frm_b hk (p := k - 6 * x2) (by omega)
        have t := tf_p (m := m87) (b := a + 3) (x := Int.toNat (x2 * 6)) hk (p := k - 6 * x2) (by omega)
        rw [show Int.toNat (x2 * 6) + Int.toNat (k - 6 * x2) = Int.toNat k by omega] at t
        rw [t, f87 _ _ (by omega) (by omega) (by omega) (by omega) (by omega), show Int.toNat (x2 * 6) + Int.toNat (frm x3 (k - 6 * x2)) = Int.toNat (6 * x2 + frm x3 (k - 6 * x2)) by omega, S4 _ (by omega) (by omega)]
        congr 1
        have ek : ((Int.toNat (25 + k) : Nat) : Int) - 25 - 6 * x2 = k - 6 * x2 := by omega
        rw [ek]
        omega
      · rw [if_neg (by omega), e97, tf_o (by omega), f87 _ _ (by omega) (by omega) (by omega) (by omega) (by omega)]
        exact S4 k k0 k1
    · rw [f97 _ _ (by omega)]
      unfold tiB
      rw [ro_ne (by omega)]
      by_cases q : c = x2
      · subst q
        rw [ro_eq, e87, rd_wt, if_pos ⟨rfl, rfl⟩, wr_i (wr_rg _), e77, rd_wt, if_neg (by omega), e67, rd_wt, if_neg (by omega), f63 _ _ (by omega) (by omega), S5 c c0 c1]
      · rw [ro_ne (by omega), ro_ne (by omega), f87 _ _ (by omega) (by omega) (by omega) (by omega) (by omega), S5 c c0 c1]
        unfold trn
        rw [if_neg (by omega)]
    · rw [f97 a 5 (by omega), f87 a 5 (by omega) (by omega) (by omega) (by omega) (by omega), S6]
      unfold tiB
      rw [ro_ne (by omega), ro_ne (by omega), ro_ne (by omega)]
      unfold trn
      rw [if_neg (by omega)]
    · rw [f97 a 6 (by omega), e87, rd_wt, if_neg (by omega), e77, rd_wt, if_neg (by omega), e67, rd_wt, if_pos ⟨rfl, rfl⟩, wr_i (wr_rg _), p55, S7, h63]
      unfold tiB
      rw [ro_eq]
  have e26 : Int.toNat z7 = Int.toNat (6 * x2 + 1) := by omega
  have b26 := B.2.2.2.1 (6 * x2 + 1) (by omega) (by omega)
  have b11 := B.2.1 (Int.toNat v11) (by omega)
  unfold tiN
  rcases h149 with ⟨c1, c2, c3⟩ | ⟨c1, c2, c3⟩ | ⟨c1, c3⟩
  · rw [if_neg (by omega), if_neg (by have := h55.1 c1; omega), c3]; exact B
  · rw [if_neg (by omega), if_pos (by have := h55.1 c1; omega), c3, e26]
    obtain ⟨B1, B2, B3, B4, B5, B6, B7⟩ := B
    refine ⟨by rw [rd_wt, if_neg (by omega)]; exact B1, fun j hj => ?_, fun c c0 c1 => ?_, fun k k0 k1 => ?_, fun c c0 c1 => ?_, ?_, ?_⟩
    · rw [rd_wt, if_neg (by omega), ro_ne (by omega)]; exact B2 j hj
    · rw [rd_wt, if_neg (by omega)]
      rw [fC_ne (by omega)]; exact B3 c c0 c1
    · by_cases q : k = 6 * x2 + 1
      · subst q
        rw [rd_wt, if_pos ⟨rfl, rfl⟩, wr_i (rd_rg _ _ _), b11, show Int.toNat (25 + (6 * x2 + 1)) = Int.toNat (26 + 6 * x2) by omega, ro_eq, en]
      · rw [rd_wt, if_neg (by omega), ro_ne (by omega)]; exact B4 k k0 k1
    · rw [rd_wt, if_neg (by omega), ro_ne (by omega)]; exact B5 c c0 c1
    · rw [rd_wt, if_neg (by omega), ro_ne (by omega)]; exact B6
    · rw [rd_wt, if_neg (by omega), ro_ne (by omega)]; exact B7
  · rw [if_pos (by omega), c3, e26]
    obtain ⟨B1, B2, B3, B4, B5, B6, B7⟩ := B
    refine ⟨by rw [rd_wt, if_neg (by omega)]; exact B1, fun j hj => ?_, fun c c0 c1 => ?_, fun k k0 k1 => ?_, fun c c0 c1 => ?_, ?_, ?_⟩
    · by_cases q : j = Int.toNat v11
      · subst q
        rw [rd_wt, if_pos ⟨rfl, rfl⟩, wr_i (rd_rg _ _ _), b26, show Int.toNat (25 + (6 * x2 + 1)) = Int.toNat (26 + 6 * x2) by omega, ← en, ro_eq]
      · rw [rd_wt, if_neg (by omega), ro_ne (by rw [← en]; exact q)]; exact B2 j hj
    · rw [rd_wt, if_neg (by omega)]
      rw [fC_ne (by omega)]; exact B3 c c0 c1
    · rw [rd_wt, if_neg (by omega), ro_ne (by omega)]; exact B4 k k0 k1
    · rw [rd_wt, if_neg (by omega), ro_ne (by omega)]; exact B5 c c0 c1
    · rw [rd_wt, if_neg (by omega), ro_ne (by omega)]; exact B6
    · rw [rd_wt, if_neg (by omega), ro_ne (by omega)]; exact B7
-- TippedCrates$Drays.lookFrom(LTippedCrates$State;IIIII)V
set_option maxRecDepth 20000 in
theorem ey_3 {m : Mm} {a : Nat} {x2 : Int} {x3 : Int} {x4 : Int} {x5 : Int} {x6 : Int}  (T_m : Ty m) (h_a : isSt a) (r_x2 : rg x2) (r_x3 : rg x3) (r_x4 : rg x4) (r_x5 : rg x5) (r_x6 : rg x6) (p0 : 0 ≤ x2 ∧ x2 ≤ 2) (p1 : 0 ≤ x3 ∧ x3 ≤ 24) (p2 : 0 ≤ x4 ∧ x4 ≤ 3) : CV 2 3 [.ref 30, .ref a, iv x2, iv x3, iv x4, iv x5, iv x6] m (fun m2 => GX s12 m m2 ∧ ((True) ∧ (lfX m m2 a x2 x3 x4 x5 x6))) := by
  refine br_3 h_a r_x2 r_x3 r_x4 r_x5 r_x6 ?_
  unfold P_3
  have g_m : GX s12 m m := ⟨T_m, fun _ _ _ => rfl, fun _ _ => rfl⟩
  refine CK.mono (ct_30   T_m r_x3 r_x4 (by omega) (by omega)) (by decide) ?_
  rintro m7 v7 r_v7 ⟨e_m7, h_m7⟩
  replace e_m7 := e_m7.symm
  subst e_m7
  refine ⟨⟨by omega, by omega⟩, ?_⟩
  refine ⟨⟨by omega, by omega⟩, ?_⟩
  have sxf2 := sx_2 (j := x4) ⟨by omega, by omega⟩
  try have w3 : wr ((rd m 16 (Int.toNat x3)) + (sx 2 x4)) = (rd m 16 (Int.toNat x3)) + (sx 2 x4) := wr_id (by omega) (by omega)
  intro m43 e_m43
  have g_m43 : GX s12 m m43 := by rw [e_m43]; exact GX.wt g_m (tw_12 T_m (wr_rg _)) (Eq.refl true)
  refine ⟨⟨by omega, by omega⟩, ?_⟩
  refine ⟨⟨by omega, by omega⟩, ?_⟩
  have sxf5 := sx_3 (j := x4) ⟨by omega, by omega⟩
  try have w6 : wr ((rd m43 17 (Int.toNat x3)) + (sx 3 x4)) = (rd m43 17 (Int.toNat x3)) + (sx 3 x4) := wr_id (by omega) (by omega)
  intro m63 e_m63
  have g_m63 : GX s12 m m63 := by rw [e_m63]; exact GX.wt g_m43 (tw_12 g_m43.1 (wr_rg _)) (Eq.refl true)
  refine ⟨fun s2_84 => (True) ∧ (s2_84 = (if rd m 18 (Int.toNat (x3 * 4 + x4)) = -1 then 0 else rd m (a + 1) (Int.toNat (rd m 18 (Int.toNat (x3 * 4 + x4)))))), ?_, ?_⟩
  · skip
    refine ⟨fun hq => ?_, fun hq => ?_⟩
    · skip
      refine ⟨⟨by omega, by omega⟩, ?_⟩
      have t7 := ty_sM g_m63.1 h_a (Int.toNat v7)
      (exact ⟨by first | trivial | omega | (refine ⟨?_, ?_⟩ <;> omega), by first | (rw [if_neg (by rw [← h_m7.1]; omega), ← h_m7.1, e_m63, rd_wt, if_neg (by have := h_a.1; omega), e_m43, rd_wt, if_neg (by have := h_a.1; omega)]) | rw [if_pos (by rw [← h_m7.1]; omega)]⟩)
    · skip
      (exact ⟨by first | trivial | omega | (refine ⟨?_, ?_⟩ <;> omega), by first | (rw [if_neg (by rw [← h_m7.1]; omega), ← h_m7.1, e_m63, rd_wt, if_neg (by have := h_a.1; omega), e_m43, rd_wt, if_neg (by have := h_a.1; omega)]) | rw [if_pos (by rw [← h_m7.1]; omega)]⟩)
  · intro s2_84 r_s2_84 hR_84
    obtain ⟨hR_84, dR_84⟩ := hR_84
    intro m84 e_m84
    have g_m84 : GX s12 m m84 := by rw [e_m84]; exact GX.wt g_m63 (tw_12 g_m63.1 (by first | assumption | omega)) (Eq.refl true)
    intro m90 e_m90
    have g_m90 : GX s12 m m90 := by rw [e_m90]; exact GX.wt g_m84 (tw_12 g_m84.1 (by first | assumption | omega)) (Eq.refl true)
    intro m96 e_m96
    have g_m96 : GX s12 m m96 := by rw [e_m96]; exact GX.wt g_m90 (tw_12 g_m90.1 (by first | assumption | omega)) (Eq.refl true)
    refine ⟨⟨by omega, by omega⟩, ?_⟩
    intro m106 e_m106
    have g_m106 : GX s12 m m106 := by rw [e_m106]; exact GX.wt g_m96 (tw_12 g_m96.1 (rd_rg _ _ _)) (Eq.refl true)
    intro m115 e_m115
    have g_m115 : GX s12 m m115 := by rw [e_m115]; exact GX.wt g_m106 (tw_12 g_m106.1 (rd_rg _ _ _)) (Eq.refl true)
    intro m121 e_m121
    have g_m121 : GX s12 m m121 := by rw [e_m121]; exact GX.wt g_m115 (tw_12 g_m115.1 (by first | assumption | omega)) (Eq.refl true)
    intro m128 e_m128
    have g_m128 : GX s12 m m128 := by rw [e_m128]; exact GX.wt g_m121 (tw_12 g_m121.1 (by first | assumption | omega)) (Eq.refl true)
    exact ⟨g_m128, by exact ⟨by first | trivial | omega | (refine ⟨?_, ?_⟩ <;> omega), by exact lf_of h_a r_s2_84 r_x5 r_x6 r_x2 r_x4 e_m43 e_m63 dR_84 e_m84 e_m90 e_m96 e_m106 e_m115 e_m121 e_m128⟩⟩
-- TippedCrates$Drays.lookAt(LTippedCrates$State;II)V
set_option maxRecDepth 20000 in
theorem ey_2 {m : Mm} {a : Nat} {x2 : Int} {x3 : Int}  (T_m : Ty m) (h_a : isSt a) (r_x2 : rg x2) (r_x3 : rg x3) (p0 : 0 ≤ x2 ∧ x2 ≤ 2) (p1 : 0 ≤ x3 ∧ x3 ≤ 3) (p2 : 0 ≤ rd m (a + 2) (Int.toNat x2)) : CV 3 2 [.ref 30, .ref a, iv x2, iv x3] m (fun m2 => GX s12 m m2 ∧ ((True) ∧ (lfX m m2 a x2 (rd m (a + 2) (Int.toNat x2)) x3 (rd m (a + 3) (Int.toNat (6 * x2 + ct x3))) (rd m (a + 3) (Int.toNat (6 * x2 + cb x3)))))) := by
  refine br_2 h_a r_x2 r_x3 ?_
  unfold P_2
  have g_m : GX s12 m m := ⟨T_m, fun _ _ _ => rfl, fun _ _ => rfl⟩
  refine ⟨⟨by omega, by omega⟩, ?_⟩
  try have w1 : wr (x2 * 6) = x2 * 6 := wr_id (by omega) (by omega)
  have sxf2 := sx_1 (j := x3) ⟨by omega, by omega⟩
  try have w3 : wr ((wr (x2 * 6)) + (sx 1 x3)) = (wr (x2 * 6)) + (sx 1 x3) := wr_id (by omega) (by omega)
  refine ⟨⟨by omega, by omega⟩, ?_⟩
  have t4 := ty_sC T_m h_a (Int.toNat (wr ((wr (x2 * 6)) + (sx 1 x3))))
  intro z4_15 e_z4_15
  have r_z4_15 : rg z4_15 := by rw [e_z4_15]; exact (rd_rg _ _ _)
  refine ⟨⟨by omega, by omega⟩, ?_⟩
  have sxf5 := sx_0 (j := x3) ⟨by omega, by omega⟩
  try have w6 : wr ((wr (x2 * 6)) + (sx 0 x3)) = (wr (x2 * 6)) + (sx 0 x3) := wr_id (by omega) (by omega)
  refine ⟨⟨by omega, by omega⟩, ?_⟩
  have t7 := ty_sC T_m h_a (Int.toNat (wr ((wr (x2 * 6)) + (sx 0 x3))))
  intro z5_32 e_z5_32
  have r_z5_32 : rg z5_32 := by rw [e_z5_32]; exact (rd_rg _ _ _)
  refine ⟨⟨by omega, by omega⟩, ?_⟩
  have t8 := ty_sF T_m h_a (Int.toNat x2)
  refine CV.mono (ey_3   T_m h_a r_x2 (rd_rg _ _ _) r_x3 r_z4_15 r_z5_32 (by omega) (by omega) (by omega)) (by decide) ?_
  rintro m48 ⟨hx_m48, h_m48⟩
  have g_m48 : GX s12 m m48 := gx_in g_m hx_m48 in_s12_s12
  exact ⟨g_m48, by exact ⟨by first | trivial | omega | (refine ⟨?_, ?_⟩ <;> omega), by exact la_of h_m48.2 e_z4_15 e_z5_32 p0 p1⟩⟩
-- TippedCrates$Drays.costNow()I
set_option maxRecDepth 20000 in
theorem ey_4 {m : Mm}   (T_m : Ty m)  (p0 : lwOk m 11) (p1 : ∃ E, LSd m 11 E) : CK 2 4 [.ref 30] m (fun m2 v => GX s15 m m2 ∧ ((0 ≤ v ∧ v ≤ 99) ∧ (∀ E, LSd m 11 E → v = clI 99 (lval (vaC m) (E 2).1 (E 2).2)))) := by
  refine br_4  ?_
  unfold P_4
  have g_m : GX s15 m m := ⟨T_m, fun _ _ _ => rfl, fun _ _ => rfl⟩
  refine CK.mono (ey_18   T_m lw_11 (by unfold rg; decide) rfl (by omega) p0 p1) (by decide) ?_
  rintro m11 v11 r_v11 ⟨hx_m11, h_m11⟩
  have g_m11 : GX s15 m m11 := gx_in g_m hx_m11 in_s15_s15
  exact ⟨g_m11, by exact ⟨by first | trivial | omega | (refine ⟨?_, ?_⟩ <;> omega), by exact fun E h => by rw [h_m11.2 E h]; rfl⟩⟩
-- TippedCrates$Drays.slipNow()I
set_option maxRecDepth 20000 in
theorem ey_5 {m : Mm}   (T_m : Ty m)  (p0 : lwOk m 11) (p1 : ∃ E, LSd m 11 E) : CK 2 5 [.ref 30] m (fun m2 v => GX s15 m m2 ∧ ((0 ≤ v ∧ v ≤ 100) ∧ (∀ E, LSd m 11 E → v = clI 100 (lval (vaC m) (E 3).1 (E 3).2)))) := by
  refine br_5  ?_
  unfold P_5
  have g_m : GX s15 m m := ⟨T_m, fun _ _ _ => rfl, fun _ _ => rfl⟩
  refine CK.mono (ey_18   T_m lw_11 (by unfold rg; decide) rfl (by omega) p0 p1) (by decide) ?_
  rintro m11 v11 r_v11 ⟨hx_m11, h_m11⟩
  have g_m11 : GX s15 m m11 := gx_in g_m hx_m11 in_s15_s15
  exact ⟨g_m11, by exact ⟨by first | trivial | omega | (refine ⟨?_, ?_⟩ <;> omega), by exact fun E h => by rw [h_m11.2 E h]; rfl⟩⟩
-- TippedCrates$Drays.holdsNow(I)Z
set_option maxRecDepth 20000 in
theorem ey_6 {m : Mm} {x1 : Int}  (T_m : Ty m) (r_x1 : rg x1) (p0 : lwOk m 11) (p1 : 0 ≤ x1 ∧ x1 ≤ 3) (p2 : ∃ E, LSd m 11 E) : CK 2 6 [.ref 30, iv x1] m (fun m2 v => GX s15 m m2 ∧ ((v = 0 ∨ v = 1) ∧ (∀ E, LSd m 11 E → (v = 1 ∧ 0 < lval (vaC m) (E x1).1 (E x1).2) ∨ (v = 0 ∧ ¬ 0 < lval (vaC m) (E x1).1 (E x1).2)))) := by
  refine br_6 r_x1 ?_
  unfold P_6
  have g_m : GX s15 m m := ⟨T_m, fun _ _ _ => rfl, fun _ _ => rfl⟩
  refine CK.mono (ey_18   T_m lw_11 r_x1 rfl (by omega) p0 p2) (by decide) ?_
  rintro m8 v8 r_v8 ⟨hx_m8, h_m8⟩
  have g_m8 : GX s15 m m8 := gx_in g_m hx_m8 in_s15_s15
  refine ⟨fun s0_19 => (s0_19 = 0 ∧ v8 ≤ 0) ∨ (s0_19 = 1 ∧ ¬ v8 ≤ 0), ?_, ?_⟩
  · skip
    refine ⟨fun hq => ?_, fun hq => ?_⟩
    · skip
      (first | trivial | omega | (refine ⟨?_, ?_⟩ <;> omega))
    · skip
      (first | trivial | omega | (refine ⟨?_, ?_⟩ <;> omega))
  · intro s0_19 r_s0_19 hR_19
    exact ⟨by omega, ⟨g_m8, by exact ⟨by first | trivial | omega | (refine ⟨?_, ?_⟩ <;> omega), by exact fun E h => by rw [← h_m8.2 E h]; omega⟩⟩⟩
-- TippedCrates$Drays.tipOver(LTippedCrates$State;II)V
set_option maxRecDepth 20000 in
theorem ey_7 {m : Mm} {a : Nat} {x2 : Int} {x3 : Int}  (T_m : Ty m) (h_a : isSt a) (r_x2 : rg x2) (r_x3 : rg x3) (p0 : okC m a) (p1 : 0 ≤ x2 ∧ x2 < rd m a 4) (p2 : 0 ≤ x3 ∧ x3 ≤ 3) (p3 : lwOk m 11) (p4 : ∃ E, LSd m 11 E) : CV 4 7 [.ref 30, .ref a, iv x2, iv x3] m (fun m2 => GX (sT a) m m2 ∧ ((okC m2 a) ∧ (∀ Y E r, plC m Y E → stC m a Y r → okY Y → okR Y r → ¬ nxN Y (fC r x2) x3 = -1 → stC m2 a Y (tiN Y E r x2 x3)))) := by
  refine br_7 h_a r_x2 r_x3 ?_
  unfold P_7
  have g_m : GX (sT a) m m := ⟨T_m, fun _ _ _ => rfl, fun _ _ => rfl⟩
  have t4 := ty_s4 T_m h_a
  have hfl := p0.1 (Int.toNat x2) (by omega)
  refine ⟨⟨by omega, by omega⟩, ?_⟩
  have t1 := ty_sF T_m h_a (Int.toNat x2)
  refine CK.mono (ct_30   T_m (rd_rg _ _ _) r_x3 (by omega) (by omega)) (by decide) ?_
  rintro m11 v11 r_v11 ⟨e_m11, h_m11⟩
  replace e_m11 := e_m11.symm
  subst e_m11
  refine ⟨fun hq => ?_, fun hq => ?_⟩
  · skip
    refine CV.mono (ey_2   T_m h_a r_x2 r_x3 (by omega) (by omega) (by omega)) (by decide) ?_
    rintro m27 ⟨hx_m27, h_m27⟩
    have g_m27 : GX (sT a) m m27 := gx_in g_m hx_m27 in_s12_sT
    obtain ⟨h_m27, q_m27⟩ := h_m27
    have fv27 : frV m m27 m27 := frV_0 hx_m27
    have f27 : ∀ i c, a < i → rd m27 i c = rd m i c := fun i c hi => hx_m27.2.1 i c (nb_ne (by have := h_a.1; omega))
    have l27 := lwOk_12 p3 hx_m27
    have fv27x := fv27
    refine CK.mono (ey_6   g_m27.1 (by unfold rg; decide) l27 (by omega) (lsE_V p4 fv27x)) (by decide) ?_
    rintro m32 v32 r_v32 ⟨hx_m32, h_m32⟩
    have g_m32 : GX (sT a) m m32 := gx_in g_m27 hx_m32 in_s15_sT
    obtain ⟨h_m32, q_m32⟩ := h_m32
    have fv32 : frV m m27 m32 := frV_15 fv27 hx_m32
    have f32 : ∀ i c, a < i → rd m32 i c = rd m i c := fun i c hi => (hx_m32.2.1 i c (nb_ne (by have := h_a.1; omega))).trans (f27 i c hi)
    have l32 := lwOk_15 l27 hx_m32
    refine ⟨fun s0_55 m_55 => GX (sT a) m m_55 ∧ (((s0_55 = 0 ∨ s0_55 = 1) ∧ lwOk m_55 11 ∧ ∀ i c, a < i → rd m_55 i c = rd m i c) ∧ (frV m m27 m_55 ∧ ∀ E, LSd m 11 E → (v32 = 0 → (s0_55 = 1 ∧ 0 < lval (vaC m27) (E 1).1 (E 1).2) ∨ (s0_55 = 0 ∧ ¬ 0 < lval (vaC m27) (E 1).1 (E 1).2)) ∧ (¬ v32 = 0 → s0_55 = 0))), ?_, ?_⟩
    · skip
      refine ⟨fun m_54 => GX (sT a) m m_54 ∧ ((lwOk m_54 11 ∧ ∀ i c, a < i → rd m_54 i c = rd m i c) ∧ (frV m m27 m_54 ∧ ∀ E, LSd m 11 E → v32 = 0 → ¬ 0 < lval (vaC m27) (E 1).1 (E 1).2)), ?_, ?_⟩
      · skip
        refine ⟨fun hq => ?_, fun hq => ?_⟩
        · skip
          exact ⟨g_m32, by exact ⟨by first | exact ⟨l44, f44⟩ | exact ⟨l32, f32⟩, by first | exact ⟨fv44, fun E h _ => ho_0 (lsE_q h fv32 (q_m44)) (by omega)⟩ | exact ⟨fv32, fun E h z => absurd z (by omega)⟩⟩⟩
        · skip
          refine CK.mono (ey_6   g_m32.1 (by unfold rg; decide) l32 (by omega) (lsE_V p4 fv32)) (by decide) ?_
          rintro m44 v44 r_v44 ⟨hx_m44, h_m44⟩
          have g_m44 : GX (sT a) m m44 := gx_in g_m32 hx_m44 in_s15_sT
          obtain ⟨h_m44, q_m44⟩ := h_m44
          have fv44 : frV m m27 m44 := frV_15 fv32 hx_m44
          have f44 : ∀ i c, a < i → rd m44 i c = rd m i c := fun i c hi => (hx_m44.2.1 i c (nb_ne (by have := h_a.1; omega))).trans (f32 i c hi)
          have l44 := lwOk_15 l32 hx_m44
          refine ⟨fun hq => ?_, fun hq => ?_⟩
          · skip
            exact ⟨g_m44, by exact ⟨by first | exact ⟨l44, f44⟩ | exact ⟨l32, f32⟩, by first | exact ⟨fv44, fun E h _ => ho_0 (lsE_q h fv32 (q_m44)) (by omega)⟩ | exact ⟨fv32, fun E h z => absurd z (by omega)⟩⟩⟩
          · skip
            exact ⟨g_m44, by exact ⟨by first | exact ⟨Or.inr rfl, l44, f44⟩ | exact ⟨Or.inl rfl, hR_54.1, hR_54.2⟩, by first | exact ⟨fv44, fun E h => ⟨fun _ => Or.inl ⟨rfl, ho_1 (lsE_q h fv32 (q_m44)) (by omega)⟩, fun z => absurd (by omega) z⟩⟩ | exact ⟨dR_54.1, fun E h => ⟨fun z => Or.inr ⟨rfl, dR_54.2 E h z⟩, fun _ => rfl⟩⟩⟩⟩
      · intro m_54  hR_54
        obtain ⟨g_m_54, hR_54⟩ := hR_54
        obtain ⟨hR_54, dR_54⟩ := hR_54
        exact ⟨g_m_54, by exact ⟨by first | exact ⟨Or.inr rfl, l44, f44⟩ | exact ⟨Or.inl rfl, hR_54.1, hR_54.2⟩, by first | exact ⟨fv44, fun E h => ⟨fun _ => Or.inl ⟨rfl, ho_1 (lsE_q h fv32 (q_m44)) (by omega)⟩, fun z => absurd (by omega) z⟩⟩ | exact ⟨dR_54.1, fun E h => ⟨fun z => Or.inr ⟨rfl, dR_54.2 E h z⟩, fun _ => rfl⟩⟩⟩⟩
    · intro s0_55 m_55 r_s0_55 hR_55
      obtain ⟨g_m_55, hR_55⟩ := hR_55
      obtain ⟨hR_55, dR_55⟩ := hR_55
      refine CK.mono (ey_4   g_m_55.1 hR_55.2.1 (lsE_V p4 dR_55.1)) (by decide) ?_
      rintro m63 v63 r_v63 ⟨hx_m63, h_m63⟩
      have g_m63 : GX (sT a) m m63 := gx_in g_m_55 hx_m63 in_s15_sT
      obtain ⟨h_m63, q_m63⟩ := h_m63
      have f63 : ∀ i c, a < i → rd m63 i c = rd m i c := fun i c hi => (hx_m63.2.1 i c (nb_ne (by have := h_a.1; omega))).trans (hR_55.2.2 i c hi)
      have z63 : rd m63 a 4 = rd m a 4 := g_m63.2.1 a 4 (sT_4 h_a)
      have cz63 := fun E h => lsE_q2 (E := E) h dR_55.1 q_m63
      try have w3 : wr ((rd m_55 a 6) + v63) = (rd m_55 a 6) + v63 := wr_id (by omega) (by omega)
      intro m67 e_m67
      have g_m67 : GX (sT a) m m67 := by rw [e_m67]; exact GX.wt g_m63 (tw_s6 g_m63.1 h_a (wr_rg _)) sT_6
      refine ⟨⟨by omega, by omega⟩, ?_⟩
      intro m77 e_m77
      have g_m77 : GX (sT a) m m77 := by rw [e_m77]; exact GX.wt g_m67 (tw_sF g_m67.1 h_a ⟨by omega, by omega⟩) (sT_w (by omega))
      refine ⟨⟨by omega, by omega⟩, ?_⟩
      refine ⟨⟨by omega, by omega⟩, ?_⟩
      try have w5 : wr ((rd m77 (a + 4) (Int.toNat x2)) + 1) = (rd m77 (a + 4) (Int.toNat x2)) + 1 := wr_id (by omega) (by omega)
      intro m87 e_m87
      have g_m87 : GX (sT a) m m87 := by rw [e_m87]; exact GX.wt g_m77 (tw_sT g_m77.1 h_a (wr_rg _)) (sT_w (by omega))
      have c87 : rd m87 a 4 = rd m a 4 := g_m87.2.1 a 4 (sT_4 h_a)
      have f87 : ∀ c, rd m87 (a + 3) c = rd m (a + 3) c := fun c => by
        rw [e_m87, rd_wt, if_neg (by omega), e_m77, rd_wt, if_neg (by omega), e_m67, rd_wt, if_neg (by omega)]; exact f63 _ c (by omega)
      have h87 : ∀ c : Nat, 0 ≤ rd m (a + 2) c → 0 ≤ rd m87 (a + 2) c := fun c hc => by
        rw [e_m87, rd_wt, if_neg (by omega), e_m77, rd_wt]
        split
        · rw [wr_id (by omega) (by omega)]; omega
        · rw [e_m67, rd_wt, if_neg (by omega), f63 _ c (by omega)]; exact hc
      have o87 : okC m87 a := ⟨fun c hc => h87 c (p0.1 c (by omega)), fun k hk => by rw [f87]; exact p0.2 k (by omega)⟩
      try have w6 : wr (x2 * 6) = x2 * 6 := wr_id (by omega) (by omega)
      refine CV.mono (ct_167   (st_3 h_a) (wr_rg _) r_x3 (by omega) (by omega)) (by decide) ?_
      rintro m97 ⟨hx_m97, h_m97⟩
      have g_m97 : GX (sT a) m m97 := by rw [hx_m97]; exact g_tf g_m87 h_a (fun _ => sT_w (by omega))
      have sxa := sx_0 (j := x3) ⟨by omega, by omega⟩
      have sxb := sx_1 (j := x3) ⟨by omega, by omega⟩
      have o97 : okC m97 a := by rw [hx_m97]; exact okC_tf o87 (by omega) (by omega) (by omega)
      have c97 : rd m97 a 4 = rd m a 4 := g_m97.2.1 a 4 (sT_4 h_a)
      try have w7 : wr ((wr (x2 * 6)) + 1) = (wr (x2 * 6)) + 1 := wr_id (by omega) (by omega)
      intro z7_106 e_z7_106
      have r_z7_106 : rg z7_106 := by rw [e_z7_106]; exact (wr_rg _)
      have i97 := o97.2 (Int.toNat z7_106) (by omega)
      refine ⟨fun m_149 => GX (sT a) m m_149 ∧ ((okC m_149 a) ∧ ((v32 = 0 ∧ s0_55 = 0 ∧ m_149 = m97) ∨ (v32 = 0 ∧ ¬ s0_55 = 0 ∧ m_149 = wt m97 (a + 3) (Int.toNat z7_106) (rd m97 (a + 1) (Int.toNat v11))) ∨ (¬ v32 = 0 ∧ m_149 = wt m97 (a + 1) (Int.toNat v11) (rd m97 (a + 3) (Int.toNat z7_106))))), ?_, ?_⟩
      · skip
        refine ⟨fun hq => ?_, fun hq => ?_⟩
        · skip
          refine ⟨fun hq => ?_, fun hq => ?_⟩
          · skip
            exact ⟨g_m97, by exact ⟨by first | exact o97 | (rw [e_m148]; exact okC_w3 o97 ⟨by omega, by omega⟩) | (rw [e_m126]; exact okC_wt o97 (by omega) (by omega) (by omega)), by first | exact Or.inl ⟨by omega, by omega, rfl⟩ | exact Or.inr (Or.inl ⟨by omega, by omega, e_m148⟩) | exact Or.inr (Or.inr ⟨by omega, e_m126⟩)⟩⟩
          · skip
            refine ⟨⟨by omega, by omega⟩, ?_⟩
            refine ⟨⟨by omega, by omega⟩, ?_⟩
            have t8 := ty_sM g_m97.1 h_a (Int.toNat v11)
            intro m148 e_m148
            have g_m148 : GX (sT a) m m148 := by rw [e_m148]; exact GX.wt g_m97 (tw_sC g_m97.1 h_a ⟨by omega, by omega⟩) (sT_w (by omega))
            exact ⟨g_m148, by exact ⟨by first | exact o97 | (rw [e_m148]; exact okC_w3 o97 ⟨by omega, by omega⟩) | (rw [e_m126]; exact okC_wt o97 (by omega) (by omega) (by omega)), by first | exact Or.inl ⟨by omega, by omega, rfl⟩ | exact Or.inr (Or.inl ⟨by omega, by omega, e_m148⟩) | exact Or.inr (Or.inr ⟨by omega, e_m126⟩)⟩⟩
        · skip
          refine ⟨⟨by omega, by omega⟩, ?_⟩
          refine ⟨⟨by omega, by omega⟩, ?_⟩
          have t9 := ty_sC g_m97.1 h_a (Int.toNat z7_106)
          intro m126 e_m126
          have g_m126 : GX (sT a) m m126 := by rw [e_m126]; exact GX.wt g_m97 (tw_sM g_m97.1 h_a ⟨by omega, by omega⟩) (sT_w (by omega))
          exact ⟨g_m126, by exact ⟨by first | exact o97 | (rw [e_m148]; exact okC_w3 o97 ⟨by omega, by omega⟩) | (rw [e_m126]; exact okC_wt o97 (by omega) (by omega) (by omega)), by first | exact Or.inl ⟨by omega, by omega, rfl⟩ | exact Or.inr (Or.inl ⟨by omega, by omega, e_m148⟩) | exact Or.inr (Or.inr ⟨by omega, e_m126⟩)⟩⟩
      · intro m_149  hR_149
        obtain ⟨g_m_149, hR_149⟩ := hR_149
        obtain ⟨hR_149, dR_149⟩ := hR_149
        exact ⟨g_m_149, by exact ⟨by first | exact hR_149 | exact p0, by first | exact fun Y E r P S oY oR nz_ => ti_C P S oY oR nz_ p1 p2 h_m11.1 q_m27 (lsE_q P.2.2 fv27 q_m32) (dR_55.2 E P.2.2) (fun i j h1 h2 => (hx_m63.2.1 i j (nb_ne h2)).trans (dR_55.1.1 i j h1 h2)) (dR_55.1.1 a 6 (by have := h_a.1; omega) (by have := h_a.1; omega)) (cz63 E P.2.2) e_m67 e_m77 e_m87 (by rw [w6] at hx_m97; exact hx_m97) (by omega) dR_149 h_a r_v11 | exact fun Y E r P S oY oR nz_ => absurd (nx_C P S oY oR p1 p2 h_m11.1) (by omega)⟩⟩
  · skip
    exact ⟨g_m, by exact ⟨by first | exact hR_149 | exact p0, by first | exact fun Y E r P S oY oR nz_ => ti_C P S oY oR nz_ p1 p2 h_m11.1 q_m27 (lsE_q P.2.2 fv27 q_m32) (dR_55.2 E P.2.2) (fun i j h1 h2 => (hx_m63.2.1 i j (nb_ne h2)).trans (dR_55.1.1 i j h1 h2)) (dR_55.1.1 a 6 (by have := h_a.1; omega) (by have := h_a.1; omega)) (cz63 E P.2.2) e_m67 e_m77 e_m87 (by rw [w6] at hx_m97; exact hx_m97) (by omega) dR_149 h_a r_v11 | exact fun Y E r P S oY oR nz_ => absurd (nx_C P S oY oR p1 p2 h_m11.1) (by omega)⟩⟩
