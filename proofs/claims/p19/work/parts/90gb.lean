/-! the class's rows, forward -/
def rxM (m : Mm) (f : Nat) (mv : Int → Int → Int) (mk B : Int → Int) (j : Nat) (X : Int → Int → Prop) : Prop := ∀ t : Int, 0 ≤ t → t < 600 → mxP (enP mv mk B (ffP j) X t) (rd m f (Int.toNat t))
def bw7 (m : Mm) (s : Int) : Int := rd m (Int.toNat (rd m 39 7)) (Int.toNat s)
def hyM (m : Mm) (mv : Int → Int → Int) (mk : Int → Int) (L : Int) : Prop := agm m mv L ∧ cloN mv L ∧ t2M m mk ∧ okK mk L ∧ L ≤ 600
def hyE (m : Mm) (mv : Int → Int → Int) (mk : Int → Int) (L x1 : Int) : Prop := hyM m mv mk L ∧ ¬ rd m 39 7 = rd m 39 8 ∧ x1 < L ∧ 0 ≤ bw7 m x1 ∧ bw7 m x1 ≤ 2000
theorem agm_f2 {m m2 : Mm} {mv : Int → Int → Int} {L : Int} (f37 : ∀ j, rd m2 37 j = rd m 37 j) (f33 : ∀ j, rd m2 33 j = rd m 33 j) (ag : agm m mv L) : agm m2 mv L := fun s k v s0 s1 k0 k1 p => ag s k v s0 s1 k0 k1 (by
  unfold tpP at p ⊢
  rw [f37, f33] at p
  exact p)
theorem t2M_f2 {m m2 : Mm} {mk : Int → Int} (f38 : ∀ j, rd m2 38 j = rd m 38 j) (f32 : ∀ j, rd m2 32 j = rd m 32 j) (t : t2M m mk) : t2M m2 mk := fun s s0 s1 => by
  rw [f38, f32]
  exact t s s0 s1
/-- behind ways of enrich: those before x4 -/
def nuP (m m2 : Mm) (x1 x2 x4 : Int) : Prop := (∀ i j : Nat, ¬ i = Int.toNat (rd m 39 8) → rd m2 i j = rd m i j) ∧ ∀ mv mk L, hyE m mv mk L x1 → ∀ (j : Nat) (X : Int → Int → Prop), x2 = (j : Int) → rxM m (Int.toNat (rd m 39 8)) mv mk (bw7 m) j X → rxM m2 (Int.toNat (rd m 39 8)) mv mk (bw7 m) j (fun s k => X s k ∨ (s = x1 ∧ 0 ≤ k ∧ k < x4))
def nsP (m m1 m2 : Mm) (x1 x2 x3 : Int) : Prop := (∀ i j : Nat, ¬ i = Int.toNat (rd m 39 8) → rd m2 i j = rd m1 i j) ∧ ∀ mv mk L, hyE m mv mk L x1 → ∀ (j : Nat) (X : Int → Int → Prop), x2 = (j : Int) → rxM m1 (Int.toNat (rd m 39 8)) mv mk (bw7 m) j X → rxM m2 (Int.toNat (rd m 39 8)) mv mk (bw7 m) j (fun s k => X s k ∨ (s = x1 ∧ k = x3))
section NR
variable {m m1 m2 m78 : Mm} {x1 x2 x3 z v w s0 z6 : Int}
theorem nu_0 (m : Mm) : nuP m m x1 x2 0 := ⟨fun _ _ _ => rfl, fun mv mk L h j X e r t t0 t1 => mxP_cg (r t t0 t1) (fun x => ⟨fun ⟨s, k, a, b⟩ => ⟨s, k, Or.inl a, b⟩, fun ⟨s, k, a, b⟩ => ⟨s, k, a.resolve_right (fun q => by omega), b⟩⟩)⟩
theorem nu_s (d : nuP m m1 x1 x2 x3) (q : nsP m m1 m2 x1 x2 x3) (h : 0 ≤ x3 ∧ z = x3 + 1) : nuP m m2 x1 x2 z := ⟨fun i j n => (q.1 i j n).trans (d.1 i j n), fun mv mk L hy j X e r t t0 t1 => mxP_cg (q.2 mv mk L hy j _ e (d.2 mv mk L hy j X e r) t t0 t1) (fun x => ⟨fun ⟨s, k, a, b⟩ => ⟨s, k, by
    rcases a with (a | a) | a
    · exact Or.inl a
    · exact Or.inr ⟨a.1, by omega, by omega⟩
    · exact Or.inr ⟨a.1, by omega, by omega⟩, b⟩, fun ⟨s, k, a, b⟩ => ⟨s, k, by
    rcases a with a | a
    · exact Or.inl (Or.inl a)
    · by_cases w : k = x3
      · exact Or.inr ⟨a.1, w⟩
      · exact Or.inl (Or.inr ⟨a.1, a.2.1, by omega⟩), b⟩⟩)⟩
theorem tp_8 (f : ∀ i j : Nat, ¬ i = Int.toNat (rd m 39 8) → rd m1 i j = rd m i j) (b : 44 ≤ rd m 39 8 ∧ rd m 39 8 ≤ 45) (p : tpP m1 x1 x3 v) : tpP m x1 x3 v := by
  unfold tpP at p ⊢
  rw [f 37 _ (by omega), f 33 _ (by omega)] at p
  exact p
theorem ns_0 (f : ∀ i j : Nat, ¬ i = Int.toNat (rd m 39 8) → rd m1 i j = rd m i j) (b : 44 ≤ rd m 39 8 ∧ rd m 39 8 ≤ 45) (hx : 0 ≤ x1 ∧ 0 ≤ x3 ∧ x3 ≤ 3) (p : tpP m1 x1 x3 v) (nv : v = -1) : nsP m m1 m1 x1 x2 x3 := ⟨fun _ _ _ => rfl, fun mv mk L hy j X e r t t0 t1 => by
  have ev := hy.1.1 x1 x3 v hx.1 hy.2.2.1 hx.2.1 hx.2.2 (tp_8 f b p)
  refine mxP_cg (r t t0 t1) (fun x => ⟨fun ⟨s, k, a, c⟩ => ⟨s, k, Or.inl a, c⟩, ?_⟩)
  rintro ⟨s, k, a | ⟨a, a2⟩, c1, c2⟩
  · exact ⟨s, k, a, c1, c2⟩
  · subst a
    subst a2
    omega⟩
theorem ns_1 (b7 : 44 ≤ rd m 39 7 ∧ rd m 39 7 ≤ 45) (b : 44 ≤ rd m 39 8 ∧ rd m 39 8 ≤ 45) (f : ∀ i j : Nat, ¬ i = Int.toNat (rd m 39 8) → rd m1 i j = rd m i j) (hx : 0 ≤ x1 ∧ 0 ≤ x3 ∧ x3 ≤ 3) (p : tpP m1 x1 x3 v) (nv : ¬ v = -1) (_hv : -1 ≤ v ∧ v ≤ 599) (ew : w = rd m1 38 (Int.toNat (rd m1 32 (Int.toNat (v % 24 * 6 + 1))))) (es : s0 = if x2 = 0 then 3 - x3 else 0) (ez : z6 = wr ((wr ((rd m1 (Int.toNat (rd m1 39 7)) (Int.toNat x1)) + (wr (4 * w)))) + s0)) (rm : rg (max (rd m1 (Int.toNat (rd m1 39 8)) (Int.toNat v)) z6)) (e : m78 = wt m1 (Int.toNat (rd m1 39 8)) (Int.toNat v) (max (rd m1 (Int.toNat (rd m1 39 8)) (Int.toNat v)) z6)) : nsP m m1 m78 x1 x2 x3 := by
  have e8 : rd m1 39 8 = rd m 39 8 := f 39 8 (by omega)
  have e7 : rd m1 39 7 = rd m 39 7 := f 39 7 (by omega)
  rw [e8] at rm e
  refine ⟨fun i j n => by rw [e, rd_wt, if_neg (fun w => n w.1)], fun mv mk L hy j X ej r t t0 t1 => ?_⟩
  obtain ⟨⟨h1, h2, h3, h4, h5⟩, h6, h7, h8, h9⟩ := hy
  have ev := h1 x1 x3 v hx.1 h7 hx.2.1 hx.2.2 (tp_8 f b p)
  have cl := h2 x1 x3 hx.1 h7 hx.2.1 hx.2.2
  rw [← ev] at cl
  have mw : w = mk v := by
    rw [ew, f 38 _ (by omega), f 32 _ (by omega)]
    exact h3 v (by omega) (by omega)
  have m9 := h4 v (by omega) (by omega)
  have eb : rd m1 (Int.toNat (rd m1 39 7)) (Int.toNat x1) = bw7 m x1 := by
    rw [e7]
    exact f _ _ (by omega)
  have es2 : s0 = ffP j x3 := by
    rw [es]
    unfold ffP
    by_cases q : j = 0
    · rw [if_pos q, if_pos (by omega)]
    · rw [if_neg q, if_neg (by omega)]
  have fb := ff_b j (k := x3) ⟨hx.2.1, by omega⟩
  have f3 : ffP j x3 ≤ 3 := by
    unfold ffP
    split <;> omega
  have ez2 : z6 = bw7 m x1 + 4 * mk v + ffP j x3 := by
    rw [ez, eb, es2, mw, wr_id (x := 4 * mk v) (by omega) (by omega), wr_id (x := bw7 m x1 + 4 * mk v) (by omega) (by omega), wr_id (by omega) (by omega)]
  rw [e, rd_wt]
  by_cases q : t = v
  · subst q
    rw [if_pos ⟨rfl, rfl⟩, wr_i rm]
    refine mxP_cg (mxP_add (r t t0 t1) (by omega)) (fun x => ⟨?_, ?_⟩)
    · rintro (⟨s, k, a, c⟩ | a)
      · exact ⟨s, k, Or.inl a, c⟩
      · exact ⟨x1, x3, Or.inr ⟨rfl, rfl⟩, ev.symm, h8, a.trans ez2⟩
    · rintro ⟨s, k, a | ⟨a, a2⟩, c1, c2, c3⟩
      · exact Or.inl ⟨s, k, a, c1, c2, c3⟩
      · subst a
        subst a2
        exact Or.inr (c3.trans ez2.symm)
  · rw [if_neg (by omega)]
    refine mxP_cg (r t t0 t1) (fun x => ⟨fun ⟨s, k, a, c⟩ => ⟨s, k, Or.inl a, c⟩, ?_⟩)
    rintro ⟨s, k, a | ⟨a, a2⟩, c1, c2⟩
    · exact ⟨s, k, a, c1, c2⟩
    · subst a
      subst a2
      exact absurd (c1.symm.trans ev.symm) q
end NR
/-! tipping by tipping -/
def hyS (m : Mm) (mv : Int → Int → Int) (mk : Int → Int) (L : Int) : Prop := hyM m mv mk L ∧ 0 ≤ rd m 36 1 ∧ rd m 36 1 < L
def fwI (m m2 : Mm) (x3 : Int) : Prop := (∀ i j : Nat, ¬ (i = 39 ∧ (j = 7 ∨ j = 8)) → ¬ i = 44 → ¬ i = 45 → rd m2 i j = rd m i j) ∧ ((44 ≤ rd m2 39 7 ∧ rd m2 39 7 ≤ 45) ∧ 44 ≤ rd m2 39 8 ∧ rd m2 39 8 ≤ 45) ∧ ¬ rd m2 39 7 = rd m2 39 8 ∧ ∀ mv mk L, hyS m mv mk L → fwP mv mk (rd m 36 1) (Int.toNat x3) (bw7 m2)
/-- standings below x4 are gone on from -/
def nqP (m23 m2 : Mm) (x4 x3 : Int) (m : Mm) : Prop := (∀ i j : Nat, ¬ i = Int.toNat (rd m23 39 8) → rd m2 i j = rd m23 i j) ∧ ∀ mv mk L, hyS m mv mk L → rxM m2 (Int.toNat (rd m23 39 8)) mv mk (bw7 m23) (Int.toNat x3) (fun s k => 0 ≤ s ∧ s < x4 ∧ 0 ≤ k ∧ k < 4)
def mI (m m23 : Mm) (x1 x3 x6 : Int) : Prop := ∀ mv mk L, hyS m mv mk L → mxP (fun x => ∃ t, (0 ≤ t ∧ t < x6) ∧ 0 ≤ bw7 m23 t ∧ x = bw7 m23 t) x3
def rcP (m : Mm) (x1 x2 v : Int) : Prop := ∀ mv mk L, hyS m mv mk L → x2 = 0 ∨ x2 = 1 → v = ricF mv mk (rd m 36 1) (Int.toNat x1) x2
section RC
variable {m m5 m20 m23 m33 m39 m62 m82 m88 : Mm} {x1 x2 x3 x4 x6 z v w y s0 : Int}
theorem fw_i (T : Ty m) (ne : ¬ rd m 39 7 = rd m 39 8) (e5 : m5 = flm m (Int.toNat (rd m 39 7)) 600 (-1)) (e20 : m20 = wt m5 (Int.toNat (rd m5 39 7)) (Int.toNat (rd m5 36 1)) 0) : fwI m m20 0 := by
  have t7 := ty_39_7 T
  have t8 := ty_39_8 T
  have F5 : ∀ i j : Nat, ¬ i = Int.toNat (rd m 39 7) → rd m5 i j = rd m i j := fun i j q => by rw [e5, rd_flm, if_neg (fun w => q w.1)]
  have e7 : rd m5 39 7 = rd m 39 7 := F5 39 7 (by omega)
  have e36 : rd m5 36 1 = rd m 36 1 := F5 36 1 (by omega)
  rw [e7, e36] at e20
  have F : ∀ i j : Nat, ¬ i = Int.toNat (rd m 39 7) → rd m20 i j = rd m i j := fun i j q => by
    rw [e20, rd_wt, if_neg (fun w => q w.1)]
    exact F5 i j q
  have f7 : rd m20 39 7 = rd m 39 7 := F 39 7 (by omega)
  have f8 : rd m20 39 8 = rd m 39 8 := F 39 8 (by omega)
  refine ⟨fun i j _ p q => F i j (by omega), by omega, by rw [f7, f8]; exact ne, fun mv mk L hy t t0 t1 => ?_⟩
  show rd m20 (Int.toNat (rd m20 39 7)) (Int.toNat t) = _
  rw [f7, e20, rd_wt]
  have st := hy.2
  by_cases q : t = rd m 36 1
  · rw [if_pos ⟨rfl, by omega⟩, if_pos q]
    rfl
  · rw [if_neg (by omega), if_neg q, e5, rd_flm, if_pos ⟨rfl, by omega⟩]
    rfl
theorem nq_i (d : fwI m m23 x3) (_T : Ty m) (e : m33 = flm m23 (Int.toNat (rd m23 39 8)) 600 (-1)) : nqP m23 m33 0 x3 m := ⟨fun i j q => by rw [e, rd_flm, if_neg (fun w => q w.1)], fun mv mk L hy t t0 t1 => by
  rw [e, rd_flm, if_pos ⟨rfl, by omega⟩]
  exact mxP_0 (fun x ⟨s, k, a, _⟩ => by omega)⟩
theorem bw_ne (D : fwI m m23 x3) : ¬ Int.toNat (rd m23 39 7) = Int.toNat (rd m23 39 8) ∧ ¬ 39 = Int.toNat (rd m23 39 8) ∧ ¬ 36 = Int.toNat (rd m23 39 8) ∧ ¬ 37 = Int.toNat (rd m23 39 8) ∧ ¬ 38 = Int.toNat (rd m23 39 8) ∧ ¬ 32 = Int.toNat (rd m23 39 8) ∧ ¬ 33 = Int.toNat (rd m23 39 8) := by
  have b := D.2.1
  have n := D.2.2.1
  omega
theorem bw_39 (D : fwI m m23 x3) (f : ∀ i j : Nat, ¬ i = Int.toNat (rd m23 39 8) → rd m39 i j = rd m23 i j) : bw7 m39 = bw7 m23 := funext fun s => by
  have b := bw_ne D
  unfold bw7
  rw [f 39 7 b.2.1]
  exact f _ _ b.1
theorem nq_0 (D : fwI m m23 x3) (d : nqP m23 m39 x4 x3 m) (h : 0 ≤ x4) (q : rd m39 (Int.toNat (rd m39 39 7)) (Int.toNat x4) = -1) : nqP m23 m39 (x4 + 1) x3 m := ⟨d.1, fun mv mk L hy t t0 t1 => by
  have e : bw7 m23 x4 = -1 := by
    rw [← bw_39 D d.1]
    exact q
  refine mxP_cg (d.2 mv mk L hy t t0 t1) (fun x => ⟨fun ⟨s, k, a, c⟩ => ⟨s, k, ⟨a.1, by omega, a.2.2⟩, c⟩, ?_⟩)
  rintro ⟨s, k, ⟨a1, a2, a3⟩, c1, c2, c3⟩
  have ne : ¬ s = x4 := fun w => by
    subst w
    omega
  exact ⟨s, k, ⟨a1, by omega, a3⟩, c1, c2, c3⟩⟩
theorem nq_1 (D : fwI m m23 x3) (d : nqP m23 m39 x4 x3 m) (_T : Ty m) (h4 : 0 ≤ x4 ∧ x4 < 600) (h3 : 0 ≤ x3 ∧ x3 < 40) (q : ¬ rd m39 (Int.toNat (rd m39 39 7)) (Int.toNat x4) = -1) (p : nuP m39 m62 x4 x3 4) : nqP m23 m62 (x4 + 1) x3 m := by
  have b := bw_ne D
  have e8 : rd m39 39 8 = rd m23 39 8 := d.1 39 8 b.2.1
  have e7 : rd m39 39 7 = rd m23 39 7 := d.1 39 7 b.2.1
  have eb := bw_39 D d.1
  refine ⟨fun i j n => (p.1 i j (by rw [e8]; exact n)).trans (d.1 i j n), fun mv mk L hy t t0 t1 => ?_⟩
  have fw := D.2.2.2 mv mk L hy
  have q2 : ¬ bw7 m23 x4 = -1 := by
    rw [← eb]
    exact q
  have bd := fw_b hy.1.2.1 hy.1.2.2.2.1 hy.2 _ _ fw x4 h4.1 h4.2
  have lt := fw_lt hy.1.2.1 hy.2 _ _ fw x4 h4.1 h4.2 (by omega)
  have hM : hyM m39 mv mk L := by
    obtain ⟨⟨y1, y2, y3, y4, y5⟩, -⟩ := hy
    have R : ∀ i j : Nat, ¬ i = 39 → ¬ i = 44 → ¬ i = 45 → rd m39 i j = rd m i j := fun i j a1 a2 a3 => (d.1 i j (by have := D.2.1; omega)).trans (D.1 i j (fun w => a1 w.1) a2 a3)
    exact ⟨agm_f2 (fun j => R 37 j (by decide) (by decide) (by decide)) (fun j => R 33 j (by decide) (by decide) (by decide)) y1, y2, t2M_f2 (fun j => R 38 j (by decide) (by decide) (by decide)) (fun j => R 32 j (by decide) (by decide) (by decide)) y3, y4, y5⟩
  have b2 : bw7 m23 x4 ≤ 2000 := by
    by_cases w : Int.toNat x3 = 0
    · rw [if_pos w] at bd
      omega
    · rw [if_neg w] at bd
      omega
  have r := d.2 mv mk L hy
  have k := p.2 mv mk L ⟨hM, by rw [e7, e8]; exact D.2.2.1, lt, by rw [eb]; omega, by rw [eb]; exact b2⟩ (Int.toNat x3) _ (by omega) (by rw [e8, eb]; exact r) t t0 t1
  rw [e8, eb] at k
  refine mxP_cg k (fun x => ⟨?_, ?_⟩)
  · rintro ⟨s, k, a | ⟨a1, a2, a3⟩, c⟩
    · exact ⟨s, k, ⟨a.1, by omega, a.2.2⟩, c⟩
    · exact ⟨s, k, ⟨by omega, by omega, a2, a3⟩, c⟩
  · rintro ⟨s, k, ⟨a1, a2, a3, a4⟩, c⟩
    by_cases w : s = x4
    · exact ⟨s, k, Or.inr ⟨w, a3, a4⟩, c⟩
    · exact ⟨s, k, Or.inl ⟨a1, by omega, a3, a4⟩, c⟩
theorem fw_s (D : fwI m m23 x3) (d : nqP m23 m39 x4 x3 m) (_T : Ty m) (h4 : x4 = 600) (h3 : 0 ≤ x3) (ez : z = x3 + 1) (e82 : m82 = wt m39 39 7 ((Int.toNat (rd m39 39 8) : Nat) : Int)) (e88 : m88 = wt m82 39 8 ((Int.toNat (rd m39 39 7) : Nat) : Int)) : fwI m m88 z := by
  have b := bw_ne D
  have b2 := D.2.1
  have e8 : rd m39 39 8 = rd m23 39 8 := d.1 39 8 b.2.1
  have e7 : rd m39 39 7 = rd m23 39 7 := d.1 39 7 b.2.1
  rw [e8] at e82
  rw [e7] at e88
  have f7 : rd m88 39 7 = rd m23 39 8 := by
    rw [e88, rd_wt, if_neg (by omega), e82, rd_wt, if_pos ⟨rfl, rfl⟩, wr_id (by omega) (by omega)]
    omega
  have f8 : rd m88 39 8 = rd m23 39 7 := by
    rw [e88, rd_wt, if_pos ⟨rfl, rfl⟩, wr_id (by omega) (by omega)]
    omega
  have F : ∀ i j : Nat, ¬ (i = 39 ∧ (j = 7 ∨ j = 8)) → rd m88 i j = rd m39 i j := fun i j q => by
    rw [e88, rd_wt, if_neg (fun w => q ⟨w.1, Or.inr w.2⟩), e82, rd_wt, if_neg (fun w => q ⟨w.1, Or.inl w.2⟩)]
  refine ⟨fun i j p q r => (F i j p).trans ((d.1 i j (by omega)).trans (D.1 i j p q r)), by omega, by rw [f7, f8]; exact fun w => D.2.2.1 w.symm, fun mv mk L hy => ?_⟩
  rw [show Int.toNat z = Int.toNat x3 + 1 by omega]
  refine ⟨bw7 m23, D.2.2.2 mv mk L hy, fun t t0 t1 => ?_⟩
  have e : bw7 m88 t = rd m39 (Int.toNat (rd m23 39 8)) (Int.toNat t) := by
    unfold bw7
    rw [f7]
    exact F _ _ (by omega)
  rw [e]
  refine mxP_cg (d.2 mv mk L hy t t0 t1) (fun x => ⟨fun ⟨s, k, a, c⟩ => ⟨s, k, ⟨a.1, by omega, a.2.2⟩, c⟩, fun ⟨s, k, a, c⟩ => ⟨s, k, ⟨a.1, by have := a.2.1; omega, a.2.2⟩, c⟩⟩)
theorem mi_0 : mI m m23 x1 (-1) 0 := fun mv mk L hy => mxP_0 (fun x ⟨t, a, _⟩ => by omega)
theorem mi_s (D : fwI m m23 w) (d : mI m m23 x1 x3 x6) (h : 0 ≤ x6 ∧ x6 < 600) (ez : z = x6 + 1) (ev : v = rd m23 (Int.toNat (rd m23 39 7)) (Int.toNat x6)) (ey : y = max x3 v) : mI m m23 x1 y z := fun mv mk L hy => by
  have fw := D.2.2.2 mv mk L hy
  have bd := (fw_b hy.1.2.1 hy.1.2.2.2.1 hy.2 _ _ fw x6 h.1 h.2).1
  have ev : v = bw7 m23 x6 := ev
  rw [← ev] at bd
  have k := d mv mk L hy
  by_cases q : v = -1
  · have x3m : -1 ≤ x3 := by
      rcases k with ⟨k1, -⟩ | ⟨⟨t, a, b, c⟩, -⟩ <;> omega
    rw [q, Int.max_eq_left x3m] at ey
    rw [ey]
    refine mxP_cg k (fun x => ⟨fun ⟨t, a, b, c⟩ => ⟨t, ⟨a.1, by omega⟩, b, c⟩, fun ⟨t, a, b, c⟩ => ⟨t, ⟨a.1, ?_⟩, b, c⟩⟩)
    by_cases w2 : t = x6
    · subst w2
      omega
    · omega
  · rw [ey]
    refine mxP_cg (mxP_add k bd) (fun x => ⟨?_, ?_⟩)
    · rintro (⟨t, a, b, c⟩ | c)
      · exact ⟨t, ⟨a.1, by omega⟩, b, c⟩
      · exact ⟨x6, ⟨h.1, by omega⟩, by omega, c.trans ev⟩
    · rintro ⟨t, a, b, c⟩
      by_cases w2 : t = x6
      · subst w2
        exact Or.inr (c.trans ev.symm)
      · exact Or.inl ⟨t, ⟨a.1, by omega⟩, b, c⟩
theorem rcx_0 (D : fwI m m23 x4) (d : mI m m23 x1 x3 x6) (h6 : x6 = 600) (h1 : x4 = x1 ∧ x1 = 0) {mv : Int → Int → Int} {mk : Int → Int} {L : Int} (hy : hyS m mv mk L) : x3 = 0 := by
  have fw := D.2.2.2 mv mk L hy
  rw [show Int.toNat x4 = 0 by omega] at fw
  have k := d mv mk L hy
  have l6 := hy.1.2.2.2.2
  have hst := hy.2
  refine mxP_u k (Or.inr ⟨⟨rd m 36 1, by omega, ?_, ?_⟩, fun x ⟨t, a, b, c⟩ => ?_⟩)
  · have e := fw (rd m 36 1) hst.1 (by omega)
    rw [if_pos rfl] at e
    omega
  · have e := fw (rd m 36 1) hst.1 (by omega)
    rw [if_pos rfl] at e
    omega
  · have e := fw t a.1 (by omega)
    split at e <;> omega
theorem rcx_n (D : fwI m m23 x4) (d : mI m m23 x1 x3 x6) (h6 : x6 = 600) {n : Nat} (h1 : x4 = x1 ∧ Int.toNat x1 = n + 1) {mv : Int → Int → Int} {mk : Int → Int} {L : Int} (hy : hyS m mv mk L) : (x3 = -1 ∧ rxF mv mk (rvF mv mk n) (rd m 36 1) 4 = -1 ∧ ryF mv mk (rvF mv mk n) (rd m 36 1) 4 = -2) ∨ (0 ≤ rxF mv mk (rvF mv mk n) (rd m 36 1) 4 ∧ (0 ≤ ryF mv mk (rvF mv mk n) (rd m 36 1) 4 ∧ ryF mv mk (rvF mv mk n) (rd m 36 1) 4 ≤ 3) ∧ x3 = 4 * rxF mv mk (rvF mv mk n) (rd m 36 1) 4 + 3 - ryF mv mk (rvF mv mk n) (rd m 36 1) 4) := by
  have fw := D.2.2.2 mv mk L hy
  rw [show Int.toNat x4 = n + 1 by omega] at fw
  have k := d mv mk L hy
  subst h6
  exact rich_e hy.1.2.1 hy.1.2.2.2.1 hy.2 hy.1.2.2.2.2 fw k
theorem rcx_1 (D : fwI m m23 x4) (d : mI m m23 x1 x3 x6) (h6 : x6 = 600) (h1 : x4 = x1 ∧ 0 ≤ x1) (r : x3 = -1 ∨ (x1 = 0 ∧ x2 = 1)) : rcP m x1 x2 (-2) := fun mv mk L hy h2 => by
  rcases Nat.eq_zero_or_pos (Int.toNat x1) with z | z
  · have k := rcx_0 D d h6 ⟨h1.1, by omega⟩ hy
    rw [z]
    show (-2 : Int) = if x2 = 0 then 0 else -2
    rw [if_neg (by omega)]
  · obtain ⟨n, hn⟩ : ∃ n, Int.toNat x1 = n + 1 := ⟨Int.toNat x1 - 1, by omega⟩
    rcases rcx_n D d h6 ⟨h1.1, hn⟩ hy with ⟨a, b, c⟩ | ⟨a, b, c⟩
    · rw [hn]
      show (-2 : Int) = if ryF mv mk (rvF mv mk n) (rd m 36 1) 4 < 0 then -2 else if x2 = 0 then rxF mv mk (rvF mv mk n) (rd m 36 1) 4 else ryF mv mk (rvF mv mk n) (rd m 36 1) 4
      rw [if_pos (by omega)]
    · omega
theorem rcx_2 (D : fwI m m23 x4) (d : mI m m23 x1 x3 x6) (h6 : x6 = 600) (h1 : x4 = x1 ∧ 0 ≤ x1) (rx : rg x3) (r : ¬ x3 = -1 ∧ ¬ (x1 = 0 ∧ x2 = 1)) (s : (x2 = 0 ∧ s0 = dvI x3 4) ∨ (¬ x2 = 0 ∧ s0 = wr (3 - (rmI x3 4)))) : rcP m x1 x2 s0 := fun mv mk L hy h2 => by
  rcases Nat.eq_zero_or_pos (Int.toNat x1) with z | z
  · have k := rcx_0 D d h6 ⟨h1.1, by omega⟩ hy
    rw [z]
    show s0 = if x2 = 0 then 0 else -2
    rcases s with ⟨s1, s2⟩ | ⟨s1, s2⟩
    · rw [if_pos s1, s2, k]
      decide
    · omega
  · obtain ⟨n, hn⟩ : ∃ n, Int.toNat x1 = n + 1 := ⟨Int.toNat x1 - 1, by omega⟩
    rcases rcx_n D d h6 ⟨h1.1, hn⟩ hy with ⟨a, b, c⟩ | ⟨a, b, c⟩
    · omega
    · rw [hn]
      show s0 = if ryF mv mk (rvF mv mk n) (rd m 36 1) 4 < 0 then -2 else if x2 = 0 then rxF mv mk (rvF mv mk n) (rd m 36 1) 4 else ryF mv mk (rvF mv mk n) (rd m 36 1) 4
      rw [if_neg (by omega)]
      rcases s with ⟨s1, s2⟩ | ⟨s1, s2⟩
      · rw [dv_eq (by omega) rx.2 (by omega) (by omega)] at s2
        rw [if_pos s1]
        omega
      · rw [rm_eq (by omega) rx.2 (by omega) (by omega), wr_id (by omega) (by omega)] at s2
        rw [if_neg s1]
        omega
end RC
def ricA (A : Ab) (T F : Nat → Int) (x1 x2 x3 : Int) : Int := if (0 ≤ x1 ∧ x1 < A.Y 3) ∧ (0 ≤ x2 ∧ x2 ≤ 40) ∧ 0 ≤ x3 ∧ x3 ≤ 1 then ricF (mvN A.Y A.r T x1) (fun s => mkN A.r F x1 s 1) (24 * fC A.r x1) (Int.toNat x2) x3 else -1
theorem ric_C {m : Mm} {A : Ab} {T F : Nat → Int} {x1 x2 x3 v : Int} (y : okY A.Y) (st : stP m A T F x1) (tm : Ty m) (hc : 0 ≤ x1 ∧ x1 < A.Y 3) (h : (0 ≤ x2 ∧ x2 ≤ 40) ∧ 0 ≤ x3 ∧ x3 ≤ 1) (p : rcP m x2 x3 v) : v = ricA A T F x1 x2 x3 := by
  obtain ⟨s1, s2, s3, s4, s5, s6⟩ := st
  unfold ricA
  rw [if_pos ⟨hc, h⟩, ← s4]
  have e : ∀ s : Int, 0 ≤ s → 0 ≤ mkN A.r F x1 s 1 ∧ mkN A.r F x1 s 1 ≤ 9 := fun s h0 => by
    rw [← s3 1 s (by decide) (by decide) h0]
    exact ty_38 tm _
  refine p _ _ (24 * (A.Y 0 * A.Y 1)) ⟨⟨s1, s2, fun s h0 _ => s3 1 s (by decide) (by decide) h0, fun s h0 _ => e s h0, ?_⟩, ?_⟩ (by omega)
  · have b := wh_b y.1 y.2.1
    omega
  · rw [s4]
    omega
theorem ric_n {m : Mm} {A : Ab} {T F : Nat → Int} {x1 x2 x3 : Int} (h : cA m A) (q : ¬ ((0 ≤ x1 ∧ x1 ≤ rd m 7 3 - 1) ∧ (0 ≤ x2 ∧ x2 ≤ 40) ∧ 0 ≤ x3 ∧ x3 ≤ 1)) : (-1 : Int) = ricA A T F x1 x2 x3 := by
  rw [h.1.1.2.2.2.1] at q
  unfold ricA
  rw [if_neg (by omega)]
-- TippedCrates$Walks.enrich(II)V
set_option maxRecDepth 20000 in
theorem fy_120 {m0 m : Mm} {x1 : Int} {x2 : Int}  (g_m : G m0 m) (r_x1 : rg x1) (r_x2 : rg x2) (p0 : 0 ≤ x1 ∧ x1 ≤ 599) : CV 2 120 [.ref 39, iv x1, iv x2] m (fun m2 => G m0 m2 ∧ ((True) ∧ (nuP m m2 x1 x2 4))) := by
  refine br_120 r_x1 r_x2 ?_
  unfold P_120
  have T0 := g_m.1
  refine ⟨fun x3_2 m_2 => G m0 m_2 ∧ ((0 ≤ x3_2 ∧ x3_2 ≤ 4) ∧ (nuP m m_2 x1 x2 x3_2)), fun x3_2 m_2 => Int.toNat (4 - x3_2), ?_, ?_⟩
  · exact ⟨g_m, by exact ⟨by first | omega | (refine ⟨?_, ?_⟩ <;> omega) | trivial, by exact nu_0 m⟩⟩
  · intro x3_2 m_2 r_x3_2 hI_2
    obtain ⟨g_m_2, hI_2⟩ := hI_2
    obtain ⟨hI_2, dI_2⟩ := hI_2
    refine ⟨fun hq => ?_, fun hq => ?_⟩
    · skip
      exact ⟨g_m_2, by exact ⟨by first | trivial | omega | (refine ⟨?_, ?_⟩ <;> omega), by rw [show (4 : Int) = x3_2 by omega]; exact dI_2⟩⟩
    · skip
      refine CK.mono (ct_71   g_m_2.1 r_x1 r_x3_2 (by omega) (by omega)) (by decide) ?_
      rintro m13 v13 r_v13 ⟨e_m13, h_m13⟩
      replace e_m13 := e_m13.symm
      subst e_m13
      refine ⟨fun m_79 => G m0 m_79 ∧ (nsP m m_2 m_79 x1 x2 x3_2), ?_, ?_⟩
      · skip
        refine ⟨fun hq => ?_, fun hq => ?_⟩
        · skip
          exact ⟨g_m_2, by first | (have u := e_m78; exact ns_1 (ty_39_7 T0) (ty_39_8 T0) dI_2.1 (by omega) h_m13.2.2 (by assumption) (by omega) h_m50.1 hR_35 e_z6_58 (mx_rg (rd_rg _ _ _) r_z6_58) e_m78) | exact ns_0 dI_2.1 (ty_39_8 T0) (by omega) h_m13.2.2 (by assumption)⟩
        · skip
          refine ⟨fun s0_35 => s0_35 = if x2 = 0 then 3 - x3_2 else 0, ?_, ?_⟩
          · skip
            refine ⟨fun hq => ?_, fun hq => ?_⟩
            · skip
              (first | (rw [if_pos (by assumption)]; omega) | exact (if_neg (by assumption)).symm)
            · skip
              try have w1 : wr (3 - x3_2) = 3 - x3_2 := wr_id (by omega) (by omega)
              (first | (rw [if_pos (by assumption)]; omega) | exact (if_neg (by assumption)).symm)
          · intro s0_35 r_s0_35 hR_35
            have t2 := ty_39_7 g_m_2.1
            refine ⟨by omega, ?_⟩
            refine ⟨⟨by omega, by omega⟩, ?_⟩
            refine CK.mono (ct_73   g_m_2.1 r_v13 (by omega)) (by decide) ?_
            rintro m50 v50 r_v50 ⟨e_m50, h_m50⟩
            replace e_m50 := e_m50.symm
            subst e_m50
            try have w4 : wr (4 * v50) = 4 * v50 := wr_id (by omega) (by omega)
            try have w5 : wr ((rd m_2 (Int.toNat (rd m_2 39 7)) (Int.toNat x1)) + (wr (4 * v50))) = (rd m_2 (Int.toNat (rd m_2 39 7)) (Int.toNat x1)) + (wr (4 * v50)) := wr_id (by omega) (by omega)
            try have w6 : wr ((wr ((rd m_2 (Int.toNat (rd m_2 39 7)) (Int.toNat x1)) + (wr (4 * v50)))) + s0_35) = (wr ((rd m_2 (Int.toNat (rd m_2 39 7)) (Int.toNat x1)) + (wr (4 * v50)))) + s0_35 := wr_id (by omega) (by omega)
            intro z6_58 e_z6_58
            have r_z6_58 : rg z6_58 := by rw [e_z6_58]; exact (wr_rg _)
            have t7 := ty_39_8 g_m_2.1
            refine ⟨by omega, ?_⟩
            refine ⟨by omega, ?_⟩
            refine ⟨⟨by omega, by omega⟩, ?_⟩
            refine ⟨⟨by omega, by omega⟩, ?_⟩
            intro m78 e_m78
            have g_m78 : G m0 m78 := by rw [e_m78]; exact GX.wt g_m_2 (tw_wk g_m_2.1 (by omega) (mx_rg (rd_rg _ _ _) r_z6_58)) (rg_wk (by omega))
            exact ⟨g_m78, by first | (have u := e_m78; exact ns_1 (ty_39_7 T0) (ty_39_8 T0) dI_2.1 (by omega) h_m13.2.2 (by assumption) (by omega) h_m50.1 hR_35 e_z6_58 (mx_rg (rd_rg _ _ _) r_z6_58) e_m78) | exact ns_0 dI_2.1 (ty_39_8 T0) (by omega) h_m13.2.2 (by assumption)⟩
      · intro m_79  hR_79
        obtain ⟨g_m_79, hR_79⟩ := hR_79
        try have w9 : wr (x3_2 + 1) = x3_2 + 1 := wr_id (by omega) (by omega)
        intro z3_79 e_z3_79
        have r_z3_79 : rg z3_79 := by rw [e_z3_79]; exact wr_rg _
        exact ⟨⟨g_m_79, by exact ⟨by first | omega | (refine ⟨?_, ?_⟩ <;> omega) | trivial, by exact nu_s dI_2 hR_79 (by omega)⟩⟩, by (try dsimp only); omega⟩
-- TippedCrates$Walks.richestWalk(II)I
set_option maxRecDepth 20000 in
theorem fy_119 {m : Mm} {x1 : Int} {x2 : Int}  (T_m : Ty m) (r_x1 : rg x1) (r_x2 : rg x2) (p0 : 0 ≤ x1 ∧ x1 ≤ 40) (p1 : ¬ rd m 39 7 = rd m 39 8) : CK 3 119 [.ref 39, iv x1, iv x2] m (fun m2 v => GX scrB m m2 ∧ ((True) ∧ (rcP m x1 x2 v ∧ ¬ rd m2 39 7 = rd m2 39 8))) := by
  refine br_119 r_x1 r_x2 ?_
  unfold P_119
  have g_m : GX scrB m m := ⟨T_m, fun _ _ _ => rfl, fun _ _ => rfl⟩
  have tb := ty_39_7 g_m.1
  have T0 := T_m
  have t1 := ty_39_7 T_m
  refine ⟨by omega, ?_⟩
  refine CV.mono (ct_299   (wk_R (by omega)) (by unfold rg; decide)) (by decide) ?_
  rintro m5 ⟨hx_m5, h_m5⟩
  have g_m5 : GX scrB m m5 := by rw [hx_m5]; exact gfB_wk g_m (by omega) ⟨by omega, by omega⟩
  have t2 := ty_39_7 g_m5.1
  refine ⟨by omega, ?_⟩
  have t3 := ty_36_1 g_m5.1
  refine ⟨⟨by omega, by omega⟩, ?_⟩
  intro m20 e_m20
  have g_m20 : GX scrB m m20 := by rw [e_m20]; exact GX.wt g_m5 (tw_wk g_m5.1 (by omega) (by first | assumption | omega)) (in_scr_scrB _ _ (rg_wk (by omega)))
  refine ⟨fun x3_23 m_23 => GX scrB m m_23 ∧ ((0 ≤ x3_23 ∧ x3_23 ≤ 40) ∧ (x3_23 ≤ x1 ∧ fwI m m_23 x3_23)), fun x3_23 m_23 => Int.toNat (40 - x3_23), ?_, ?_⟩
  · exact ⟨g_m20, by exact ⟨by first | omega | (refine ⟨?_, ?_⟩ <;> omega) | trivial, by exact ⟨by omega, fw_i T0 p1 hx_m5 e_m20⟩⟩⟩
  · intro x3_23 m_23 r_x3_23 hI_23
    obtain ⟨g_m_23, hI_23⟩ := hI_23
    obtain ⟨hI_23, dI_23⟩ := hI_23
    have tb8 := ty_39_8 g_m_23.1
    refine ⟨fun hq => ?_, fun hq => ?_⟩
    · skip
      have t4 := ty_39_7 g_m_23.1
      refine ⟨by omega, ?_⟩
      refine ⟨fun x3_113 x6_113 => (0 ≤ x6_113 ∧ x6_113 ≤ 600) ∧ (mI m m_23 x1 x3_113 x6_113), fun x3_113 x6_113 => Int.toNat (600 - x6_113), ?_, ?_⟩
      · (exact ⟨by first | omega | (refine ⟨?_, ?_⟩ <;> omega) | trivial, by exact mi_0⟩)
      · intro x3_113 x6_113 r_x3_113 r_x6_113 hI_113
        obtain ⟨hI_113, dI_113⟩ := hI_113
        refine ⟨fun hq => ?_, fun hq => ?_⟩
        · skip
          refine ⟨x3_113 = -1 ∨ (x1 = 0 ∧ x2 = 1), ?_, ?_⟩
          · skip
            refine ⟨fun hq => ?_, fun hq => ?_⟩
            · skip
              (omega)
            · skip
              refine ⟨¬ x3_113 = -1 ∧ ¬ (x1 = 0 ∧ x2 = 1), ?_, ?_⟩
              · skip
                refine ⟨fun hq => ?_, fun hq => ?_⟩
                · skip
                  (omega)
                · skip
                  refine ⟨fun hq => ?_, fun hq => ?_⟩
                  · skip
                    (omega)
                  · skip
                    (omega)
              · intro   hR_157
                refine ⟨fun s0_172 => (x2 = 0 ∧ s0_172 = dvI x3_113 4) ∨ (¬ x2 = 0 ∧ s0_172 = wr (3 - (rmI x3_113 4))), ?_, ?_⟩
                · skip
                  refine ⟨fun hq => ?_, fun hq => ?_⟩
                  · skip
                    try have q5 : rmI x3_113 4 = x3_113 % 4 := rm_eq (by omega) (by omega) (by omega) (by omega)
                    try have w6 : wr (3 - (rmI x3_113 4)) = 3 - (rmI x3_113 4) := wr_id (by omega) (by omega)
                    (first | exact Or.inl ⟨by assumption, rfl⟩ | exact Or.inr ⟨by assumption, rfl⟩)
                  · skip
                    try have q7 : dvI x3_113 4 = x3_113 / 4 := dv_eq (by omega) (by omega) (by omega) (by omega)
                    (first | exact Or.inl ⟨by assumption, rfl⟩ | exact Or.inr ⟨by assumption, rfl⟩)
                · intro s0_172 r_s0_172 hR_172
                  exact ⟨g_m_23, by exact ⟨by first | trivial | omega | (refine ⟨?_, ?_⟩ <;> omega), by first | (have u := hR_172; exact ⟨rcx_2 dI_23.2 dI_113 (by omega) (by omega) r_x3_113 hR_157 hR_172, dI_23.2.2.2.1⟩) | exact ⟨rcx_1 dI_23.2 dI_113 (by omega) (by omega) hR_154, dI_23.2.2.2.1⟩⟩⟩
          · intro   hR_154
            exact ⟨g_m_23, by exact ⟨by first | trivial | omega | (refine ⟨?_, ?_⟩ <;> omega), by first | (have u := hR_172; exact ⟨rcx_2 dI_23.2 dI_113 (by omega) (by omega) r_x3_113 hR_157 hR_172, dI_23.2.2.2.1⟩) | exact ⟨rcx_1 dI_23.2 dI_113 (by omega) (by omega) hR_154, dI_23.2.2.2.1⟩⟩⟩
        · skip
          refine ⟨⟨by omega, by omega⟩, ?_⟩
          intro z7_125 e_z7_125
          have r_z7_125 : rg z7_125 := by rw [e_z7_125]; exact (rd_rg _ _ _)
          intro z3_133 e_z3_133
          have r_z3_133 : rg z3_133 := by rw [e_z3_133]; exact (mx_rg r_x3_113 r_z7_125)
          try have w9 : wr (x6_113 + 1) = x6_113 + 1 := wr_id (by omega) (by omega)
          intro z6_134 e_z6_134
          have r_z6_134 : rg z6_134 := by rw [e_z6_134]; exact wr_rg _
          exact ⟨by exact ⟨by first | omega | (refine ⟨?_, ?_⟩ <;> omega) | trivial, by exact mi_s dI_23.2 dI_113 (by omega) (by omega) e_z7_125 e_z3_133⟩, by (try dsimp only); omega⟩
    · skip
      have t10 := ty_39_8 g_m_23.1
      refine ⟨by omega, ?_⟩
      refine CV.mono (ct_299   (wk_R (by omega)) (by unfold rg; decide)) (by decide) ?_
      rintro m33 ⟨hx_m33, h_m33⟩
      have g_m33 : GX scrB m m33 := by rw [hx_m33]; exact gfB_wk g_m_23 (by omega) ⟨by omega, by omega⟩
      refine ⟨fun x4_39 m_39 => GX scrB m m_39 ∧ ((0 ≤ x4_39 ∧ x4_39 ≤ 600) ∧ (nqP m_23 m_39 x4_39 x3_23 m)), fun x4_39 m_39 => Int.toNat (600 - x4_39), ?_, ?_⟩
      · exact ⟨g_m33, by exact ⟨by first | omega | (refine ⟨?_, ?_⟩ <;> omega) | trivial, by exact nq_i dI_23.2 T0 hx_m33⟩⟩
      · intro x4_39 m_39 r_x4_39 hI_39
        obtain ⟨g_m_39, hI_39⟩ := hI_39
        obtain ⟨hI_39, dI_39⟩ := hI_39
        refine ⟨fun hq => ?_, fun hq => ?_⟩
        · skip
          have t11 := ty_39_7 g_m_39.1
          refine ⟨by omega, ?_⟩
          have t12 := ty_39_8 g_m_39.1
          refine ⟨by omega, ?_⟩
          intro m82 e_m82
          have g_m82 : GX scrB m m82 := by rw [e_m82]; exact GX.wt g_m_39 (tw_39_7 g_m_39.1 ⟨by omega, by omega⟩) (Eq.refl true)
          intro m88 e_m88
          have g_m88 : GX scrB m m88 := by rw [e_m88]; exact GX.wt g_m82 (tw_39_8 g_m82.1 ⟨by omega, by omega⟩) (Eq.refl true)
          try have w13 : wr (x3_23 + 1) = x3_23 + 1 := wr_id (by omega) (by omega)
          intro z3_91 e_z3_91
          have r_z3_91 : rg z3_91 := by rw [e_z3_91]; exact wr_rg _
          exact ⟨⟨g_m88, by exact ⟨by first | omega | (refine ⟨?_, ?_⟩ <;> omega) | trivial, by exact ⟨by omega, fw_s dI_23.2 dI_39 T0 (by omega) (by omega) (by omega) e_m82 e_m88⟩⟩⟩, by (try dsimp only); omega⟩
        · skip
          have t14 := ty_39_7 g_m_39.1
          refine ⟨by omega, ?_⟩
          refine ⟨⟨by omega, by omega⟩, ?_⟩
          refine ⟨fun m_65 => GX scrB m m_65 ∧ (nqP m_23 m_65 (x4_39 + 1) x3_23 m), ?_, ?_⟩
          · skip
            refine ⟨fun hq => ?_, fun hq => ?_⟩
            · skip
              exact ⟨g_m_39, by first | (have u := h_m62; exact nq_1 dI_23.2 dI_39 T0 (by omega) (by omega) (by assumption) h_m62.2) | exact nq_0 dI_23.2 dI_39 (by omega) (by assumption)⟩
            · skip
              refine CV.mono (fy_120   ⟨g_m_39.1, Fr.rfl _⟩ r_x4_39 r_x3_23 (by omega)) (by decide) ?_
              rintro m62 ⟨hc_m62, h_m62⟩
              have g_m62 : GX scrB m m62 := gx_in (S := scr) g_m_39 hc_m62 in_scr_scrB
              exact ⟨g_m62, by first | (have u := h_m62; exact nq_1 dI_23.2 dI_39 T0 (by omega) (by omega) (by assumption) h_m62.2) | exact nq_0 dI_23.2 dI_39 (by omega) (by assumption)⟩
          · intro m_65  hR_65
            obtain ⟨g_m_65, hR_65⟩ := hR_65
            try have w16 : wr (x4_39 + 1) = x4_39 + 1 := wr_id (by omega) (by omega)
            intro z4_65 e_z4_65
            have r_z4_65 : rg z4_65 := by rw [e_z4_65]; exact wr_rg _
            exact ⟨⟨g_m_65, by exact ⟨by first | omega | (refine ⟨?_, ?_⟩ <;> omega) | trivial, by rw [show z4_65 = x4_39 + 1 by omega]; exact hR_65⟩⟩, by (try dsimp only); omega⟩
-- TippedCrates.richest(III)I
set_option maxRecDepth 20000 in
theorem fy_139 {m : Mm} {x1 : Int} {x2 : Int} {x3 : Int}  (T_m : Ty m) (r_x1 : rg x1) (r_x2 : rg x2) (r_x3 : rg x3) (p0 : okS m 274) (p1 : ¬ rd m 39 7 = rd m 39 8) : CK 4 139 [.ref 0, iv x1, iv x2, iv x3] m (fun m2 v => GX scrB m m2 ∧ ((True) ∧ ((∀ A T F, cA m A → dsR A.Y A.r → tbR m 32 33 F T → v = ricA A T F x1 x2 x3) ∧ ¬ rd m2 39 7 = rd m2 39 8))) := by
  refine br_139 r_x1 r_x2 r_x3 ?_
  unfold P_139
  have g_m : GX scrB m m := ⟨T_m, fun _ _ _ => rfl, fun _ _ => rfl⟩
  have ok := p0
  have okn := p0.1
  have t73 := ty_7_3 g_m.1
  refine CK.mono (ct_162   T_m r_x1) (by decide) ?_
  rintro m2 v2 r_v2 ⟨e_m2, h_m2⟩
  replace e_m2 := e_m2.symm
  subst e_m2
  refine ⟨fun m_27 => GX scrB m m_27 ∧ (m_27 = m ∧ ¬ ((0 ≤ x1 ∧ x1 ≤ rd m 7 3 - 1) ∧ (0 ≤ x2 ∧ x2 ≤ 40) ∧ 0 ≤ x3 ∧ x3 ≤ 1)), ?_, ?_⟩
  · skip
    refine ⟨fun hq => ?_, fun hq => ?_⟩
    · skip
      exact ⟨g_m, by exact ⟨rfl, by omega⟩⟩
    · skip
      refine CK.mono (ct_166   r_x2 (by unfold rg; decide) (by unfold rg; decide)) (by decide) ?_
      rintro m12 v12 r_v12 ⟨e_m12, h_m12⟩
      replace e_m12 := e_m12.symm
      subst e_m12
      refine ⟨fun hq => ?_, fun hq => ?_⟩
      · skip
        exact ⟨g_m, by exact ⟨rfl, by omega⟩⟩
      · skip
        refine CK.mono (ct_166   r_x3 (by unfold rg; decide) (by unfold rg; decide)) (by decide) ?_
        rintro m21 v21 r_v21 ⟨e_m21, h_m21⟩
        replace e_m21 := e_m21.symm
        subst e_m21
        refine ⟨fun hq => ?_, fun hq => ?_⟩
        · skip
          refine CV.mono (fy_70   ⟨T_m, Fr.rfl _⟩ st_274 r_x1 (by omega) (ok.2.1 _ (by omega)) (fun k hk => ok.2.2 _ (by omega))) (by decide) ?_
          rintro m38 ⟨hc_m38, h_m38⟩
          have g_m38 : GX scrB m m38 := gx_in (S := scr) g_m hc_m38 in_scr_scrB
          refine CK.mono (fy_119   g_m38.1 r_x2 r_x3 (by omega) (by rw [hc_m38.2.1 39 7 rfl, hc_m38.2.1 39 8 rfl]; exact p1)) (by decide) ?_
          rintro m47 v47 r_v47 ⟨hx_m47, h_m47⟩
          have g_m47 : GX scrB m m47 := gx_in g_m38 hx_m47 (fun _ _ h => h)
          exact ⟨g_m47, by exact ⟨by first | trivial | omega | (refine ⟨?_, ?_⟩ <;> omega), by first | (have u := h_m47; exact ⟨fun A T F h ds tb => ric_C h.2.1 (st_C h ds (te_Cx h (by omega)) tb ⟨T_m, Fr.rfl _⟩ hc_m38 h_m38.2) hc_m38.1 (te_Cx h (by omega)) (by omega) h_m47.2.1, h_m47.2.2⟩) | exact ⟨fun A T F h ds tb => ric_n h hR_27.2, by rw [hR_27.1]; exact p1⟩⟩⟩
        · skip
          exact ⟨g_m, by exact ⟨rfl, by omega⟩⟩
  · intro m_27  hR_27
    obtain ⟨g_m_27, hR_27⟩ := hR_27
    exact ⟨g_m_27, by exact ⟨by first | trivial | omega | (refine ⟨?_, ?_⟩ <;> omega), by first | (have u := h_m47; exact ⟨fun A T F h ds tb => ric_C h.2.1 (st_C h ds (te_Cx h (by omega)) tb ⟨T_m, Fr.rfl _⟩ hc_m38 h_m38.2) hc_m38.1 (te_Cx h (by omega)) (by omega) h_m47.2.1, h_m47.2.2⟩) | exact ⟨fun A T F h ds tb => ric_n h hR_27.2, by rw [hR_27.1]; exact p1⟩⟩⟩
