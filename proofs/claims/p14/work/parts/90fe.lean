/-- the marks on top are mk -/
def tpM (m : Mm) (mk : Int → Int) : Prop := ∀ s : Int, 0 ≤ s → s ≤ 599 → rd m 38 (Int.toNat (rd m 32 (Int.toNat (s % 24 * 6)))) = mk s
theorem tp_e {m : Mm} {W : Wk} {mk : Int → Int} {x v : Int} (h : wkR m 39 0 40 41 W) (t : tpM m mk) (hx : 0 ≤ x ∧ x < rd m 39 0) (b : 0 ≤ rd m 40 (Int.toNat x) ∧ rd m 40 (Int.toNat x) ≤ 599) (ev : v = rd m 38 (Int.toNat (rd m 32 (Int.toNat (rd m 40 (Int.toNat x) % 24 * 6))))) : v = mk (W 1 (Int.toNat x)) := by
  rw [ev, t _ b.1 b.2, h.2.1 (Int.toNat x) (by rw [← h.1]; omega)]
/-- flags where it reads so -/
def frF (G K : Nat → Int) (x : Int) : Nat → Int
  | 0 => 0
  | n + 1 => if G n = x then orI (frF G K x n) (slI 1 (K n)) else frF G K x n
theorem frF_s {W : Wk} {mk : Int → Int} {x y z w v q u : Int} (h : y = frF (fun i => mk (W 1 i)) (fun i => W 1 i / 24) x (Int.toNat w)) (hw : 0 ≤ w) (ez : z = w + 1) (ev : v = mk (W 1 (Int.toNat w))) (eq : q = W 1 (Int.toNat w)) (e : (v = x ∧ u = orI y (slI 1 (q / 24))) ∨ (¬ v = x ∧ u = y)) : u = frF (fun i => mk (W 1 i)) (fun i => W 1 i / 24) x (Int.toNat z) := by
  rw [show Int.toNat z = Int.toNat w + 1 by omega]
  show u = if mk (W 1 (Int.toNat w)) = x then orI (frF (fun i => mk (W 1 i)) (fun i => W 1 i / 24) x (Int.toNat w)) (slI 1 (W 1 (Int.toNat w) / 24)) else frF (fun i => mk (W 1 i)) (fun i => W 1 i / 24) x (Int.toNat w)
  rw [← h, ← ev, ← eq]
  rcases e with ⟨a, b⟩ | ⟨a, b⟩
  · rw [if_pos a]; exact b
  · rw [if_neg a]; exact b
/-- next to x -/
def bdM (m : Mm) (s x : Int) : Prop := ∃ k : Int, 0 ≤ k ∧ k ≤ 3 ∧ rd m 18 (Int.toNat (s / 24 * 4 + k)) = x
/-- the first that is -/
def fiP (W : Wk) (D : Int → Prop) (v : Int) : Prop := (v = -2 ∧ ∀ i : Nat, (i : Int) < W 0 0 → ¬ D (W 1 i)) ∨ ∃ i : Nat, (i : Int) < W 0 0 ∧ D (W 1 i) ∧ (∀ j : Nat, j < i → ¬ D (W 1 j)) ∧ v = W 2 (Int.toNat (W 1 i))
theorem fiP_u {W : Wk} {D : Int → Prop} {v w : Int} (h : fiP W D v) (k : fiP W D w) : v = w := by
  rcases h with ⟨a, b⟩ | ⟨i, i1, i2, i3, i4⟩ <;> rcases k with ⟨c, d⟩ | ⟨j, j1, j2, j3, j4⟩
  · omega
  · exact absurd j2 (b j j1)
  · exact absurd i2 (d i i1)
  · have e : i = j := by
      rcases Nat.lt_trichotomy i j with q | q | q
      · exact absurd i2 (j3 i q)
      · exact q
      · exact absurd j2 (i3 j q)
    subst e
    exact i4.trans j4.symm
theorem fiP_cg {W : Wk} {D E : Int → Prop} {v : Int} (h : fiP W D v) (e : ∀ i : Nat, (i : Int) < W 0 0 → (D (W 1 i) ↔ E (W 1 i))) : fiP W E v := by
  rcases h with ⟨a, b⟩ | ⟨i, i1, i2, i3, i4⟩
  · exact Or.inl ⟨a, fun i hi w => b i hi ((e i hi).mpr w)⟩
  · exact Or.inr ⟨i, i1, (e i i1).mp i2, fun j hj w => i3 j hj ((e j (by omega)).mpr w), i4⟩
def bsP (m : Mm) (W : Wk) (x v : Int) : Prop := fiP W (fun s => bdM m s x) v
theorem bs_k {m : Mm} {s x y z v : Int} (d : ∀ k : Int, 0 ≤ k → k < y → ¬ rd m 18 (Int.toNat (s / 24 * 4 + k)) = x) (hy : 0 ≤ y) (ez : z = y + 1) (ev : v = rd m 18 (Int.toNat (s / 24 * 4 + y))) (n : ¬ v = x) : ∀ k : Int, 0 ≤ k → k < z → ¬ rd m 18 (Int.toNat (s / 24 * 4 + k)) = x := fun k h0 h1 w => by
  by_cases q : k < y
  · exact d k h0 q w
  · have e : k = y := by omega
    subst e
    exact n (ev.trans w)
theorem bs_i {m : Mm} {W : Wk} {x y z s u : Int} (d : ∀ i : Nat, (i : Int) < y → ¬ bdM m (W 1 i) x) (hy : 0 ≤ y) (ez : z = y + 1) (es : s = W 1 (Int.toNat y)) (k : ∀ k : Int, 0 ≤ k → k < u → ¬ rd m 18 (Int.toNat (s / 24 * 4 + k)) = x) (hu : 4 ≤ u) : ∀ i : Nat, (i : Int) < z → ¬ bdM m (W 1 i) x := fun i hi w => by
  by_cases q : (i : Int) < y
  · exact d i q w
  · obtain ⟨b, b0, b1, b2⟩ := w
    rw [show i = Int.toNat y by omega, ← es] at b2
    exact k b b0 (by omega) b2
theorem bs_y {m : Mm} {W : Wk} {x y v k : Int} (h : wkR m 39 0 40 41 W) (d : ∀ i : Nat, (i : Int) < y → ¬ bdM m (W 1 i) x) (hy : 0 ≤ y ∧ y < rd m 39 0) (hk : 0 ≤ k ∧ k ≤ 3) (b : 0 ≤ rd m 40 (Int.toNat y) ∧ rd m 40 (Int.toNat y) < 600) (ev : v = rd m 18 (Int.toNat (rd m 40 (Int.toNat y) / 24 * 4 + k))) (e : v = x) : bsP m W x (rd m 41 (Int.toNat (rd m 40 (Int.toNat y)))) := by
  have es := h.2.1 (Int.toNat y) (by rw [← h.1]; omega)
  refine Or.inr ⟨Int.toNat y, by rw [← h.1]; omega, ⟨k, hk.1, hk.2, ?_⟩, fun j hj => d j (by omega), ?_⟩
  · rw [← es]; exact ev.symm.trans e
  · rw [h.2.2 _ (by omega), es]
/-! .. of a crate -/
def tbR (m : Mm) (a b : Nat) (F T : Nat → Int) : Prop := (∀ j : Nat, j < 144 → rd m a j = F j) ∧ ∀ j : Nat, j < 96 → rd m b j = T j
def mkN (r : Ro) (F : Nat → Int) (c s t : Int) : Int := r (Int.toNat (25 + 6 * c) + Int.toNat (F (Int.toNat (s % 24 * 6 + t))))
def WA (A : Ab) (T : Nat → Int) (c : Int) : Wk := FIN (mvN A.Y A.r T c) (24 * fC A.r c)
/-- behind 'stand' and 'walkAll' -/
def wlP (m : Mm) (A : Ab) (T F : Nat → Int) (c : Int) : Prop := okWk (24 * (A.Y 0 * A.Y 1)) (WA A T c) ∧ wkR m 39 0 40 41 (WA A T c) ∧ (∀ t s : Int, 0 ≤ t → t ≤ 5 → 0 ≤ s → rd m 38 (Int.toNat (rd m 32 (Int.toNat (s % 24 * 6 + t)))) = mkN A.r F c s t) ∧ agC m A c
theorem wl_C {m0 m m26 m33 : Mm} {A : Ab} {T F : Nat → Int} {c : Int} (h : cA m A) (ds : dsR A.Y A.r) (hc : 0 ≤ c ∧ c < A.Y 3) (tb : tbR m 32 33 F T) (g : G m0 m) (g26 : G m0 m26) (p : sdP m m26 274 c) (g33 : G m0 m33) (q : wfP m26 m33) : wlP m33 A T F c := by
  have a26 := ag_C h ds hc p
  have t26 : ∀ j : Nat, rd m26 33 j = rd m 33 j := fun j => (g26.2.1 33 j rfl).trans (g.2.1 33 j rfl).symm
  have t32 : ∀ j : Nat, rd m33 32 j = rd m 32 j := fun j => (g33.2.1 32 j rfl).trans (g.2.1 32 j rfl).symm
  have b := wh_b h.2.1.1 h.2.1.2.1
  have own := h.2.2.1.1 c hc.1 hc.2
  have clo := mv_clo (r := A.r) (T := T) (c := c) h.2.1 (fun j hj => by rw [← tb.2 j hj]; exact ty_33 g.1 j)
  have k := q.2 (mvN A.Y A.r T c) _ (fun s k v s0 s1 k0 k1 w => tp_C a26 (fun j hj => (t26 j).trans (tb.2 j hj)) h.2.1 ⟨s0, s1⟩ ⟨k0, k1⟩ w) clo (by rw [a26.1]; omega) (by rw [a26.1]; omega)
  rw [a26.1] at k
  refine ⟨k.1, k.2, fun t s t0 t1 s0 => ?_, (q.1 36 1 (by omega)).trans a26.1, fun j hj => (q.1 38 j (by omega)).trans (a26.2.1 j hj), fun f k f0 f1 k0 k1 => (q.1 37 _ (by omega)).trans (a26.2.2 f k f0 f1 k0 k1)⟩
  have f := ty_32 g33.1 (Int.toNat (s % 24 * 6 + t))
  have e := tb.1 (Int.toNat (s % 24 * 6 + t)) (by omega)
  rw [q.1 38 _ (by omega), a26.2.1 _ (by omega), t32, e]
  rfl
def spoA (A : Ab) (T : Nat → Int) (x1 : Int) : Int := if 0 ≤ x1 ∧ x1 < A.Y 3 then WA A T x1 0 0 else -1
theorem sp_C {m : Mm} {A : Ab} {T F : Nat → Int} {c : Int} (w : wlP m A T F c) (hc : 0 ≤ c ∧ c < A.Y 3) : rd m 39 0 = spoA A T c := by
  unfold spoA
  rw [if_pos hc]
  exact w.2.1.1
theorem sp_n {A : Ab} {T : Nat → Int} {c : Int} (hc : ¬ (0 ≤ c ∧ c < A.Y 3)) : (-1 : Int) = spoA A T c := by
  unfold spoA
  rw [if_neg hc]
def topA (A : Ab) (T F : Nat → Int) (x1 : Int) : Int := if 0 ≤ x1 ∧ x1 < A.Y 3 then fcF (fun i => mkN A.r F x1 (WA A T x1 1 i) 0) (Int.toNat (WA A T x1 0 0)) else -1
theorem tpM_w {m : Mm} {A : Ab} {T F : Nat → Int} {c : Int} (w : wlP m A T F c) : tpM m (fun s => mkN A.r F c s 0) := fun s s0 s1 => by
  have e := w.2.2.1 0 s (by decide) (by decide) s0
  rw [Int.add_zero] at e
  exact e
theorem tops_C {m : Mm} {A : Ab} {T F : Nat → Int} {c v : Int} (w : wlP m A T F c) (_T : Ty m) (hc : 0 ≤ c ∧ c < A.Y 3) (q : ∀ W mk, wkR m 39 0 40 41 W → tpM m mk → v = fcF (fun i => mk (W 1 i)) (Int.toNat (W 0 0))) : v = topA A T F c := by
  unfold topA
  rw [if_pos hc]
  exact q _ _ w.2.1 (tpM_w w)
theorem tops_n {A : Ab} {T F : Nat → Int} {c : Int} (hc : ¬ (0 ≤ c ∧ c < A.Y 3)) : (-1 : Int) = topA A T F c := by
  unfold topA
  rw [if_neg hc]
def allI (Y : Ro) : Int := wr (slI 1 (wr (Y 0 * Y 1)) - 1)
def nevA (A : Ab) (T F : Nat → Int) (x1 x2 : Int) : Int := if (0 ≤ x1 ∧ x1 < A.Y 3) ∧ 0 ≤ x2 ∧ x2 ≤ 9 then anI (allI A.Y) (xoI (frF (fun i => mkN A.r F x1 (WA A T x1 1 i) 0) (fun i => WA A T x1 1 i / 24) x2 (Int.toNat (WA A T x1 0 0))) (-1)) else -1
theorem nev_C {m0 m m33 : Mm} {A : Ab} {T F : Nat → Int} {c x v w : Int} (h : cA m A) (wl : wlP m33 A T F c) (g : G m0 m) (g33 : G m0 m33) (hc : 0 ≤ c ∧ c < A.Y 3) (hx : 0 ≤ x ∧ x ≤ 9) (e : v = wr (slI 1 (wr (rd m33 7 0 * rd m33 7 1)) - 1)) (q : ∀ W mk, wkR m33 39 0 40 41 W → tpM m33 mk → w = frF (fun i => mk (W 1 i)) (fun i => W 1 i / 24) x (Int.toNat (W 0 0))) : anI v (xoI w (-1)) = nevA A T F c x := by
  have e0 : rd m33 7 0 = A.Y 0 := ((g33.2.1 7 0 rfl).trans (g.2.1 7 0 rfl).symm).trans h.1.1.1
  have e1 : rd m33 7 1 = A.Y 1 := ((g33.2.1 7 1 rfl).trans (g.2.1 7 1 rfl).symm).trans h.1.1.2.1
  rw [e0, e1] at e
  have k := q _ _ wl.2.1 (tpM_w wl)
  unfold nevA
  rw [if_pos ⟨hc, hx⟩, e, k]
  rfl
theorem nev_n {m : Mm} {A : Ab} {T F : Nat → Int} {c x : Int} (h : cA m A) (hc : ¬ (0 ≤ c ∧ c ≤ rd m 7 3 - 1) ∨ ¬ (0 ≤ x ∧ x ≤ 9)) : (-1 : Int) = nevA A T F c x := by
  rw [h.1.1.2.2.2.1] at hc
  unfold nevA
  rw [if_neg (by omega)]
def bdN (Y : Ro) (s o : Int) : Prop := ∃ k : Int, 0 ≤ k ∧ k ≤ 3 ∧ nxN Y (s / 24) k = o
def besA (A : Ab) (T : Nat → Int) (x1 x2 v : Int) : Prop := (¬ ((0 ≤ x1 ∧ x1 < A.Y 3) ∧ (0 ≤ x2 ∧ x2 < A.Y 3) ∧ ¬ x1 = x2) ∧ v = -1) ∨ (((0 ≤ x1 ∧ x1 < A.Y 3) ∧ (0 ≤ x2 ∧ x2 < A.Y 3) ∧ ¬ x1 = x2) ∧ fiP (WA A T x1) (fun s => bdN A.Y s (fC A.r x2)) v)
theorem besA_u {A : Ab} {T : Nat → Int} {x1 x2 v w : Int} (h : besA A T x1 x2 v) (k : besA A T x1 x2 w) : v = w := by
  rcases h with ⟨a, b⟩ | ⟨a, b⟩ <;> rcases k with ⟨c, d⟩ | ⟨c, d⟩
  · exact b.trans d.symm
  · exact absurd c a
  · exact absurd a c
  · exact fiP_u b d
theorem bes_C {m0 m m39 : Mm} {A : Ab} {T F : Nat → Int} {c o v : Int} (h : cA m A) (wl : wlP m39 A T F c) (g : G m0 m) (g39 : G m0 m39) (hc : 0 ≤ c ∧ c < A.Y 3) (ho : 0 ≤ o ∧ o < A.Y 3) (ne : ¬ c = o) (q : ∀ W, wkR m39 39 0 40 41 W → bsP m39 W (rd m39 276 (Int.toNat o)) v) : besA A T c o v := by
  have fo : rd m39 276 (Int.toNat o) = fC A.r o := ((g39.2.1 276 _ rfl).trans (g.2.1 276 _ rfl).symm).trans (h.2.2.1.2.2.2.1 o ho.1 ho.2)
  have k := q _ wl.2.1
  rw [fo] at k
  refine Or.inr ⟨⟨hc, ho, ne⟩, fiP_cg k (fun i hi => ?_)⟩
  have b := wl.1.2.1 i hi
  have nx : ∀ k : Int, 0 ≤ k → k ≤ 3 → rd m39 18 (Int.toNat (WA A T c 1 i / 24 * 4 + k)) = nxN A.Y (WA A T c 1 i / 24) k := fun k k0 k1 =>
    ((g39.2.1 18 _ rfl).trans (g.2.1 18 _ rfl).symm).trans ((h.1.2.1 (WA A T c 1 i / 24) (by omega) (by omega)).2.2 k k0 k1)
  constructor
  · rintro ⟨k, k0, k1, e⟩
    exact ⟨k, k0, k1, (nx k k0 k1).symm.trans e⟩
  · rintro ⟨k, k0, k1, e⟩
    exact ⟨k, k0, k1, (nx k k0 k1).trans e⟩
theorem bes_n {m : Mm} {A : Ab} {T : Nat → Int} {c o : Int} (h : cA m A) (hc : ¬ (0 ≤ c ∧ c ≤ rd m 7 3 - 1) ∨ ¬ (0 ≤ o ∧ o ≤ rd m 7 3 - 1) ∨ c = o) : besA A T c o (-1) := by
  rw [h.1.1.2.2.2.1] at hc
  exact Or.inl ⟨by omega, rfl⟩
-- TippedCrates$Walks.marksOnTop()I
set_option maxRecDepth 20000 in
theorem fy_113 {m : Mm}   (T_m : Ty m)   : CK 2 113 [.ref 39] m (fun m2 v => m2 = m ∧ ((True) ∧ (∀ W mk, wkR m 39 0 40 41 W → tpM m mk → v = fcF (fun i => mk (W 1 i)) (Int.toNat (W 0 0))))) := by
  refine br_113  ?_
  unfold P_113
  refine ⟨fun x1_4 x2_4 m_4 => m_4 = m ∧ ((0 ≤ x2_4 ∧ x2_4 ≤ 600) ∧ (x2_4 ≤ rd m 39 0 ∧ ∀ W mk, wkR m 39 0 40 41 W → tpM m mk → x1_4 = fcF (fun i => mk (W 1 i)) (Int.toNat x2_4))), fun x1_4 x2_4 m_4 => Int.toNat (600 - x2_4), ?_, ?_⟩
  · exact ⟨rfl, by exact ⟨by first | omega | (refine ⟨?_, ?_⟩ <;> omega) | trivial, by exact ⟨(ty_39_0 T_m).1, fun _ _ _ _ => rfl⟩⟩⟩
  · intro x1_4 x2_4 m_4 r_x1_4 r_x2_4 hI_4
    obtain ⟨e_m_4, hI_4⟩ := hI_4
    replace e_m_4 := e_m_4.symm
    subst e_m_4
    obtain ⟨hI_4, dI_4⟩ := hI_4
    have t1 := ty_39_0 T_m
    refine ⟨fun hq => ?_, fun hq => ?_⟩
    · skip
      exact ⟨rfl, by exact ⟨by first | trivial | omega | (refine ⟨?_, ?_⟩ <;> omega), by exact fun W mk h t => by rw [dI_4.2 W mk h t, ← h.1]; exact congrArg (fcF (fun i => mk (W 1 i))) (by omega)⟩⟩
    · skip
      refine ⟨⟨by omega, by omega⟩, ?_⟩
      have t2 := ty_40 T_m (Int.toNat x2_4)
      refine CK.mono (ct_72   T_m (rd_rg _ _ _) (by omega)) (by decide) ?_
      rintro m24 v24 r_v24 ⟨e_m24, h_m24⟩
      replace e_m24 := e_m24.symm
      subst e_m24
      intro z1_29 e_z1_29
      have r_z1_29 : rg z1_29 := by rw [e_z1_29]; exact (io_rg _ _ _)
      try have w3 : wr (x2_4 + 1) = x2_4 + 1 := wr_id (by omega) (by omega)
      intro z2_30 e_z2_30
      have r_z2_30 : rg z2_30 := by rw [e_z2_30]; exact wr_rg _
      exact ⟨⟨rfl, by exact ⟨by first | omega | (refine ⟨?_, ?_⟩ <;> omega) | trivial, by exact ⟨by omega, fun W mk h t => fcF_s (F := fun i => mk (W 1 i)) (dI_4.2 W mk h t) (by omega) (by omega) (e_z1_29.trans (congrArg (fun q => orI x1_4 (slI 1 q)) (tp_e h t (by omega) (by omega) h_m24.1)))⟩⟩⟩, by (try dsimp only); omega⟩
-- TippedCrates$Walks.flagsReading(I)I
set_option maxRecDepth 20000 in
theorem fy_109 {m : Mm} {x1 : Int}  (T_m : Ty m) (r_x1 : rg x1)  : CK 2 109 [.ref 39, iv x1] m (fun m2 v => m2 = m ∧ ((True) ∧ (∀ W mk, wkR m 39 0 40 41 W → tpM m mk → v = frF (fun i => mk (W 1 i)) (fun i => W 1 i / 24) x1 (Int.toNat (W 0 0))))) := by
  refine br_109 r_x1 ?_
  unfold P_109
  refine ⟨fun x2_4 x3_4 m_4 => m_4 = m ∧ ((0 ≤ x3_4 ∧ x3_4 ≤ 600) ∧ (x3_4 ≤ rd m 39 0 ∧ ∀ W mk, wkR m 39 0 40 41 W → tpM m mk → x2_4 = frF (fun i => mk (W 1 i)) (fun i => W 1 i / 24) x1 (Int.toNat x3_4))), fun x2_4 x3_4 m_4 => Int.toNat (600 - x3_4), ?_, ?_⟩
  · exact ⟨rfl, by exact ⟨by first | omega | (refine ⟨?_, ?_⟩ <;> omega) | trivial, by exact ⟨(ty_39_0 T_m).1, fun _ _ _ _ => rfl⟩⟩⟩
  · intro x2_4 x3_4 m_4 r_x2_4 r_x3_4 hI_4
    obtain ⟨e_m_4, hI_4⟩ := hI_4
    replace e_m_4 := e_m_4.symm
    subst e_m_4
    obtain ⟨hI_4, dI_4⟩ := hI_4
    have t1 := ty_39_0 T_m
    refine ⟨fun hq => ?_, fun hq => ?_⟩
    · skip
      exact ⟨rfl, by exact ⟨by first | trivial | omega | (refine ⟨?_, ?_⟩ <;> omega), by exact fun W mk h t => by rw [dI_4.2 W mk h t, ← h.1]; exact congrArg (frF (fun i => mk (W 1 i)) (fun i => W 1 i / 24) x1) (by omega)⟩⟩
    · skip
      refine ⟨⟨by omega, by omega⟩, ?_⟩
      have t2 := ty_40 T_m (Int.toNat x3_4)
      refine CK.mono (ct_72   T_m (rd_rg _ _ _) (by omega)) (by decide) ?_
      rintro m22 v22 r_v22 ⟨e_m22, h_m22⟩
      replace e_m22 := e_m22.symm
      subst e_m22
      refine ⟨fun y2_43 => (v22 = x1 ∧ y2_43 = orI x2_4 (slI 1 (rd m 40 (Int.toNat x3_4) / 24))) ∨ (¬ v22 = x1 ∧ y2_43 = x2_4), ?_, ?_⟩
      · skip
        refine ⟨fun hq => ?_, fun hq => ?_⟩
        · skip
          (first | exact Or.inr ⟨by assumption, rfl⟩ | exact Or.inl ⟨by assumption, by rw [e_z2_42]; exact congrArg (fun q => orI x2_4 (slI 1 q)) (by omega)⟩)
        · skip
          refine ⟨⟨by omega, by omega⟩, ?_⟩
          try have q3 : dvI (rd m 40 (Int.toNat x3_4)) 24 = (rd m 40 (Int.toNat x3_4)) / 24 := dv_eq (by omega) (by omega) (by omega) (by omega)
          intro z2_42 e_z2_42
          have r_z2_42 : rg z2_42 := by rw [e_z2_42]; exact (io_rg _ _ _)
          (first | exact Or.inr ⟨by assumption, rfl⟩ | exact Or.inl ⟨by assumption, by rw [e_z2_42]; exact congrArg (fun q => orI x2_4 (slI 1 q)) (by omega)⟩)
      · intro y2_43 r_y2_43 hR_43
        try have w4 : wr (x3_4 + 1) = x3_4 + 1 := wr_id (by omega) (by omega)
        intro z3_43 e_z3_43
        have r_z3_43 : rg z3_43 := by rw [e_z3_43]; exact wr_rg _
        exact ⟨⟨rfl, by exact ⟨by first | omega | (refine ⟨?_, ?_⟩ <;> omega) | trivial, by exact ⟨by omega, fun W mk h t => frF_s (dI_4.2 W mk h t) (by omega) (by omega) (tp_e h t (by omega) (by omega) h_m22.1) (h.2.1 (Int.toNat x3_4) (by rw [← h.1]; omega)) hR_43⟩⟩⟩, by (try dsimp only); omega⟩
-- TippedCrates$Walks.stepsBeside(I)I
set_option maxRecDepth 20000 in
theorem fy_114 {m : Mm} {x1 : Int}  (T_m : Ty m) (r_x1 : rg x1)  : CK 2 114 [.ref 39, iv x1] m (fun m2 v => m2 = m ∧ ((True) ∧ (∀ W, wkR m 39 0 40 41 W → bsP m W x1 v))) := by
  refine br_114 r_x1 ?_
  unfold P_114
  refine ⟨fun x2_2 m_2 => m_2 = m ∧ ((0 ≤ x2_2 ∧ x2_2 ≤ 600) ∧ (x2_2 ≤ rd m 39 0 ∧ ∀ W, wkR m 39 0 40 41 W → ∀ i : Nat, (i : Int) < x2_2 → ¬ bdM m (W 1 i) x1)), fun x2_2 m_2 => Int.toNat (600 - x2_2), ?_, ?_⟩
  · exact ⟨rfl, by exact ⟨by first | omega | (refine ⟨?_, ?_⟩ <;> omega) | trivial, by exact ⟨(ty_39_0 T_m).1, fun _ _ i h => by omega⟩⟩⟩
  · intro x2_2 m_2 r_x2_2 hI_2
    obtain ⟨e_m_2, hI_2⟩ := hI_2
    replace e_m_2 := e_m_2.symm
    subst e_m_2
    obtain ⟨hI_2, dI_2⟩ := hI_2
    have t1 := ty_39_0 T_m
    refine ⟨fun hq => ?_, fun hq => ?_⟩
    · skip
      exact ⟨rfl, by exact ⟨by first | trivial | omega | (refine ⟨?_, ?_⟩ <;> omega), by first | (have u := h_m34; exact fun W h => bs_y (k := x3_12) h (dI_2.2 W h) (by omega) (by omega) (by omega) (h_m34.1.trans (congrArg (rd m 18) (by omega))) (by assumption)) | exact fun W h => Or.inl ⟨rfl, fun i hi => dI_2.2 W h i (by rw [← h.1] at hi; omega)⟩⟩⟩
    · skip
      refine ⟨fun x3_12 m_12 => m_12 = m ∧ ((0 ≤ x3_12 ∧ x3_12 ≤ 4) ∧ (∀ k : Int, 0 ≤ k → k < x3_12 → ¬ rd m 18 (Int.toNat (rd m 40 (Int.toNat x2_2) / 24 * 4 + k)) = x1)), fun x3_12 m_12 => Int.toNat (4 - x3_12), ?_, ?_⟩
      · exact ⟨rfl, by exact ⟨by first | omega | (refine ⟨?_, ?_⟩ <;> omega) | trivial, by exact fun k h0 h1 => by omega⟩⟩
      · intro x3_12 m_12 r_x3_12 hI_12
        obtain ⟨e_m_12, hI_12⟩ := hI_12
        replace e_m_12 := e_m_12.symm
        subst e_m_12
        obtain ⟨hI_12, dI_12⟩ := hI_12
        refine ⟨fun hq => ?_, fun hq => ?_⟩
        · skip
          try have w2 : wr (x2_2 + 1) = x2_2 + 1 := wr_id (by omega) (by omega)
          intro z2_59 e_z2_59
          have r_z2_59 : rg z2_59 := by rw [e_z2_59]; exact wr_rg _
          exact ⟨⟨rfl, by exact ⟨by first | omega | (refine ⟨?_, ?_⟩ <;> omega) | trivial, by exact ⟨by omega, fun W h => bs_i (dI_2.2 W h) (by omega) (by omega) (h.2.1 (Int.toNat x2_2) (by rw [← h.1]; omega)) dI_12 (by omega)⟩⟩⟩, by (try dsimp only); omega⟩
        · skip
          refine ⟨⟨by omega, by omega⟩, ?_⟩
          have t3 := ty_40 T_m (Int.toNat x2_2)
          try have q4 : dvI (rd m 40 (Int.toNat x2_2)) 24 = (rd m 40 (Int.toNat x2_2)) / 24 := dv_eq (by omega) (by omega) (by omega) (by omega)
          refine CK.mono (ct_30   T_m (io_rg _ _ _) r_x3_12 (by omega) (by omega)) (by decide) ?_
          rintro m34 v34 r_v34 ⟨e_m34, h_m34⟩
          replace e_m34 := e_m34.symm
          subst e_m34
          refine ⟨fun hq => ?_, fun hq => ?_⟩
          · skip
            try have w5 : wr (x3_12 + 1) = x3_12 + 1 := wr_id (by omega) (by omega)
            intro z3_53 e_z3_53
            have r_z3_53 : rg z3_53 := by rw [e_z3_53]; exact wr_rg _
            exact ⟨⟨rfl, by exact ⟨by first | omega | (refine ⟨?_, ?_⟩ <;> omega) | trivial, by exact bs_k dI_12 (by omega) (by omega) (h_m34.1.trans (congrArg (rd m 18) (by omega))) (by assumption)⟩⟩, by (try dsimp only); omega⟩
          · skip
            refine ⟨⟨by omega, by omega⟩, ?_⟩
            refine ⟨⟨by omega, by omega⟩, ?_⟩
            exact ⟨rfl, by exact ⟨by first | trivial | omega | (refine ⟨?_, ?_⟩ <;> omega), by first | (have u := h_m34; exact fun W h => bs_y (k := x3_12) h (dI_2.2 W h) (by omega) (by omega) (by omega) (h_m34.1.trans (congrArg (rd m 18) (by omega))) (by assumption)) | exact fun W h => Or.inl ⟨rfl, fun i hi => dI_2.2 W h i (by rw [← h.1] at hi; omega)⟩⟩⟩
-- TippedCrates.spots(I)I
set_option maxRecDepth 20000 in
theorem fy_137 {m0 m : Mm} {x1 : Int}  (g_m : G m0 m) (r_x1 : rg x1) (p0 : okS m 274) : CK 3 137 [.ref 0, iv x1] m (fun m2 v => G m0 m2 ∧ ((True) ∧ (∀ A T F, cA m A → dsR A.Y A.r → tbR m 32 33 F T → v = spoA A T x1))) := by
  refine br_137 r_x1 ?_
  unfold P_137
  have ok := p0
  have okn := p0.1
  have t73 := ty_7_3 g_m.1
  refine CK.mono (ct_162   g_m.1 r_x1) (by decide) ?_
  rintro m2 v2 r_v2 ⟨e_m2, h_m2⟩
  replace e_m2 := e_m2.symm
  subst e_m2
  refine ⟨fun hq => ?_, fun hq => ?_⟩
  · skip
    refine CV.mono (fy_70   g_m st_274 r_x1 (by omega) (ok.2.1 _ (by omega)) (fun k hk => ok.2.2 _ (by omega))) (by decide) ?_
    rintro m19 ⟨g_m19, h_m19⟩
    refine CV.mono (fy_105   g_m19) (by decide) ?_
    rintro m26 ⟨g_m26, h_m26⟩
    have t1 := ty_39_0 g_m26.1
    exact ⟨g_m26, by exact ⟨by first | trivial | omega | (refine ⟨?_, ?_⟩ <;> omega), by first | (have u := h_m26; exact fun A T F h ds tb => sp_C (wl_C h ds (te_Cx h (by omega)) tb g_m g_m19 h_m19.2 g_m26 h_m26.2) (te_Cx h (by omega))) | exact fun A T F h ds tb => sp_n (fun w => by have := h.1.1.2.2.2.1; omega)⟩⟩
  · skip
    exact ⟨g_m, by exact ⟨by first | trivial | omega | (refine ⟨?_, ?_⟩ <;> omega), by first | (have u := h_m26; exact fun A T F h ds tb => sp_C (wl_C h ds (te_Cx h (by omega)) tb g_m g_m19 h_m19.2 g_m26 h_m26.2) (te_Cx h (by omega))) | exact fun A T F h ds tb => sp_n (fun w => by have := h.1.1.2.2.2.1; omega)⟩⟩
-- TippedCrates.tops(I)I
set_option maxRecDepth 20000 in
theorem fy_142 {m0 m : Mm} {x1 : Int}  (g_m : G m0 m) (r_x1 : rg x1) (p0 : okS m 274) : CK 3 142 [.ref 0, iv x1] m (fun m2 v => G m0 m2 ∧ ((True) ∧ (∀ A T F, cA m A → dsR A.Y A.r → tbR m 32 33 F T → v = topA A T F x1))) := by
  refine br_142 r_x1 ?_
  unfold P_142
  have ok := p0
  have okn := p0.1
  have t73 := ty_7_3 g_m.1
  refine CK.mono (ct_162   g_m.1 r_x1) (by decide) ?_
  rintro m2 v2 r_v2 ⟨e_m2, h_m2⟩
  replace e_m2 := e_m2.symm
  subst e_m2
  refine ⟨fun hq => ?_, fun hq => ?_⟩
  · skip
    refine CV.mono (fy_70   g_m st_274 r_x1 (by omega) (ok.2.1 _ (by omega)) (fun k hk => ok.2.2 _ (by omega))) (by decide) ?_
    rintro m19 ⟨g_m19, h_m19⟩
    refine CV.mono (fy_105   g_m19) (by decide) ?_
    rintro m26 ⟨g_m26, h_m26⟩
    refine CK.mono (fy_113   g_m26.1) (by decide) ?_
    rintro m33 v33 r_v33 ⟨e_m33, h_m33⟩
    replace e_m33 := e_m33.symm
    subst e_m33
    exact ⟨g_m26, by exact ⟨by first | trivial | omega | (refine ⟨?_, ?_⟩ <;> omega), by first | (have u := h_m33; exact fun A T F h ds tb => tops_C (wl_C h ds (te_Cx h (by omega)) tb g_m g_m19 h_m19.2 g_m26 h_m26.2) g_m26.1 (te_Cx h (by omega)) h_m33.2) | exact fun A T F h ds tb => tops_n (fun w => by have := h.1.1.2.2.2.1; omega)⟩⟩
  · skip
    exact ⟨g_m, by exact ⟨by first | trivial | omega | (refine ⟨?_, ?_⟩ <;> omega), by first | (have u := h_m33; exact fun A T F h ds tb => tops_C (wl_C h ds (te_Cx h (by omega)) tb g_m g_m19 h_m19.2 g_m26 h_m26.2) g_m26.1 (te_Cx h (by omega)) h_m33.2) | exact fun A T F h ds tb => tops_n (fun w => by have := h.1.1.2.2.2.1; omega)⟩⟩
-- TippedCrates.never(II)I
set_option maxRecDepth 20000 in
theorem fy_135 {m0 m : Mm} {x1 : Int} {x2 : Int}  (g_m : G m0 m) (r_x1 : rg x1) (r_x2 : rg x2) (p0 : okS m 274) : CK 3 135 [.ref 0, iv x1, iv x2] m (fun m2 v => G m0 m2 ∧ ((True) ∧ (∀ A T F, cA m A → dsR A.Y A.r → tbR m 32 33 F T → v = nevA A T F x1 x2))) := by
  refine br_135 r_x1 r_x2 ?_
  unfold P_135
  have ok := p0
  have okn := p0.1
  have t73 := ty_7_3 g_m.1
  refine CK.mono (ct_162   g_m.1 r_x1) (by decide) ?_
  rintro m2 v2 r_v2 ⟨e_m2, h_m2⟩
  replace e_m2 := e_m2.symm
  subst e_m2
  refine ⟨fun m_15 => G m0 m_15 ∧ (¬ (0 ≤ x1 ∧ x1 ≤ rd m 7 3 - 1) ∨ ¬ (0 ≤ x2 ∧ x2 ≤ 9)), ?_, ?_⟩
  · skip
    refine ⟨fun hq => ?_, fun hq => ?_⟩
    · skip
      exact ⟨g_m, by omega⟩
    · skip
      refine CK.mono (ct_164   r_x2) (by decide) ?_
      rintro m9 v9 r_v9 ⟨e_m9, h_m9⟩
      replace e_m9 := e_m9.symm
      subst e_m9
      refine ⟨fun hq => ?_, fun hq => ?_⟩
      · skip
        refine CV.mono (fy_70   g_m st_274 r_x1 (by omega) (ok.2.1 _ (by omega)) (fun k hk => ok.2.2 _ (by omega))) (by decide) ?_
        rintro m26 ⟨g_m26, h_m26⟩
        refine CV.mono (fy_105   g_m26) (by decide) ?_
        rintro m33 ⟨g_m33, h_m33⟩
        refine CK.mono (ct_32   ) (by decide) ?_
        rintro m40 v40 r_v40 ⟨e_m40, h_m40⟩
        replace e_m40 := e_m40.symm
        subst e_m40
        refine CK.mono (fy_109   g_m33.1 r_x2) (by decide) ?_
        rintro m48 v48 r_v48 ⟨e_m48, h_m48⟩
        replace e_m48 := e_m48.symm
        subst e_m48
        exact ⟨g_m33, by exact ⟨by first | trivial | omega | (refine ⟨?_, ?_⟩ <;> omega), by first | (have u := h_m48; exact fun A T F h ds tb => nev_C h (wl_C h ds (te_Cx h (by omega)) tb g_m g_m26 h_m26.2 g_m33 h_m33.2) g_m g_m33 (te_Cx h (by omega)) (by omega) h_m40 h_m48.2) | exact fun A T F h ds tb => nev_n h hR_15⟩⟩
      · skip
        exact ⟨g_m, by omega⟩
  · intro m_15  hR_15
    obtain ⟨g_m_15, hR_15⟩ := hR_15
    exact ⟨g_m_15, by exact ⟨by first | trivial | omega | (refine ⟨?_, ?_⟩ <;> omega), by first | (have u := h_m48; exact fun A T F h ds tb => nev_C h (wl_C h ds (te_Cx h (by omega)) tb g_m g_m26 h_m26.2 g_m33 h_m33.2) g_m g_m33 (te_Cx h (by omega)) (by omega) h_m40 h_m48.2) | exact fun A T F h ds tb => nev_n h hR_15⟩⟩
-- TippedCrates.beside(II)I
set_option maxRecDepth 20000 in
theorem fy_143 {m0 m : Mm} {x1 : Int} {x2 : Int}  (g_m : G m0 m) (r_x1 : rg x1) (r_x2 : rg x2) (p0 : okS m 274) : CK 3 143 [.ref 0, iv x1, iv x2] m (fun m2 v => G m0 m2 ∧ ((True) ∧ (∀ A T F, cA m A → dsR A.Y A.r → tbR m 32 33 F T → besA A T x1 x2 v))) := by
  refine br_143 r_x1 r_x2 ?_
  unfold P_143
  have ok := p0
  have okn := p0.1
  have t73 := ty_7_3 g_m.1
  refine CK.mono (ct_162   g_m.1 r_x1) (by decide) ?_
  rintro m2 v2 r_v2 ⟨e_m2, h_m2⟩
  replace e_m2 := e_m2.symm
  subst e_m2
  refine ⟨fun m_21 => G m0 m_21 ∧ (¬ (0 ≤ x1 ∧ x1 ≤ rd m 7 3 - 1) ∨ ¬ (0 ≤ x2 ∧ x2 ≤ rd m 7 3 - 1) ∨ x1 = x2), ?_, ?_⟩
  · skip
    refine ⟨fun hq => ?_, fun hq => ?_⟩
    · skip
      exact ⟨g_m, by omega⟩
    · skip
      refine CK.mono (ct_162   g_m.1 r_x2) (by decide) ?_
      rintro m10 v10 r_v10 ⟨e_m10, h_m10⟩
      replace e_m10 := e_m10.symm
      subst e_m10
      refine ⟨fun hq => ?_, fun hq => ?_⟩
      · skip
        exact ⟨g_m, by omega⟩
      · skip
        refine ⟨fun hq => ?_, fun hq => ?_⟩
        · skip
          refine CV.mono (fy_70   g_m st_274 r_x1 (by omega) (ok.2.1 _ (by omega)) (fun k hk => ok.2.2 _ (by omega))) (by decide) ?_
          rintro m32 ⟨g_m32, h_m32⟩
          refine CV.mono (fy_105   g_m32) (by decide) ?_
          rintro m39 ⟨g_m39, h_m39⟩
          refine ⟨⟨by omega, by omega⟩, ?_⟩
          have t1 := ty_sF g_m39.1 st_274 (Int.toNat x2)
          refine CK.mono (fy_114   g_m39.1 (rd_rg _ _ _)) (by decide) ?_
          rintro m55 v55 r_v55 ⟨e_m55, h_m55⟩
          replace e_m55 := e_m55.symm
          subst e_m55
          exact ⟨g_m39, by exact ⟨by first | trivial | omega | (refine ⟨?_, ?_⟩ <;> omega), by first | (have u := h_m55; exact fun A T F h ds tb => bes_C h (wl_C h ds (te_Cx h (by omega)) tb g_m g_m32 h_m32.2 g_m39 h_m39.2) g_m g_m39 (te_Cx h (by omega)) (te_Cx h (by omega)) (by assumption) h_m55.2) | exact fun A T F h ds tb => bes_n h hR_21⟩⟩
        · skip
          exact ⟨g_m, by omega⟩
  · intro m_21  hR_21
    obtain ⟨g_m_21, hR_21⟩ := hR_21
    exact ⟨g_m_21, by exact ⟨by first | trivial | omega | (refine ⟨?_, ?_⟩ <;> omega), by first | (have u := h_m55; exact fun A T F h ds tb => bes_C h (wl_C h ds (te_Cx h (by omega)) tb g_m g_m32 h_m32.2 g_m39 h_m39.2) g_m g_m39 (te_Cx h (by omega)) (te_Cx h (by omega)) (by assumption) h_m55.2) | exact fun A T F h ds tb => bes_n h hR_21⟩⟩
