/-- what a text answers, and where -/
def ansP (X : Tk) (n v p : Int) : Prop := (¬ pRun X 401 ps_0 0 1 = 0 ∧ v = pRun X 401 ps_0 0 1 ∧ p = pRun X 401 ps_0 0 2) ∨ (pRun X 401 ps_0 0 1 = 0 ∧ ¬ pRun X 401 ps_0 0 3 = 0 ∧ v = pRun X 401 ps_0 0 3 ∧ p = pRun X 401 ps_0 0 4) ∨ (pRun X 401 ps_0 0 1 = 0 ∧ pRun X 401 ps_0 0 3 = 0 ∧ bydP (pRun X 401 ps_0) ∧ v = 6 ∧ p = n) ∨ (pRun X 401 ps_0 0 1 = 0 ∧ pRun X 401 ps_0 0 3 = 0 ∧ ¬ bydP (pRun X 401 ps_0) ∧ v = 0 ∧ p = -1)
theorem tX_eq {m m2 : Mm} (e2 : ∀ j, rd m2 2 j = rd m 2 j) (e3 : ∀ j, rd m2 3 j = rd m 3 j) (e4 : ∀ j, ld m2 4 j = ld m 4 j) : tX m2 = tX m := by
  funext i t
  match i with
  | 0 => exact e2 _
  | 1 => exact e3 _
  | n + 2 => exact e4 _
theorem tks_X {b w : Nat → Int} {n : Int} {m m2 : Mm} (h : tksC b n w m) (e : tX m2 = tX m) : tksC b n w m2 :=
  tks_fr h (fun _ => rfl) rfl (fun _ => rfl) (fun j => by have := congrFun (congrFun e 0) (j : Int); exact this) (fun j => by have := congrFun (congrFun e 1) (j : Int); exact this) (fun j => by have := congrFun (congrFun e 2) (j : Int); exact this)
theorem ru_B {X : Tk} {m6 m30 : Mm} {S : Ps} {x z : Int} (h : ∃ s2 : Ps, RC s2 m6 ∧ pRun X (Int.toNat (401 - x)) s2 = S) (hX : tX m6 = X) (ex : 0 ≤ x ∧ x < 401 ∧ z = x + 1) (f0 : rd m6 19 5 = 0) (k : ¬ rd m6 2 (Int.toNat (rd m6 19 4)) = 23) (c : ∀ s : Ps, RC s m6 → s 0 1 = 0 → RC (pStep X s) m30) : ∃ s2 : Ps, RC s2 m30 ∧ pRun X (Int.toNat (401 - z)) s2 = S := by
  obtain ⟨s2, a, b⟩ := h
  have z0 : s2 0 1 = 0 := a.1.1.symm.trans f0
  refine ⟨pStep X s2, c s2 a z0, ?_⟩
  rw [← b, show Int.toNat (401 - x) = Int.toNat (401 - z) + 1 by omega]
  exact (run_st ⟨z0, fun w => k ((rc_k a z0 hX).symm.trans w)⟩).symm
theorem ru_R {X : Tk} {m6 : Mm} {S : Ps} {x : Int} (h : ∃ s2 : Ps, RC s2 m6 ∧ pRun X (Int.toNat (401 - x)) s2 = S) (hX : tX m6 = X) (c : 401 ≤ x ∨ ¬ rd m6 19 5 = 0 ∨ rd m6 2 (Int.toNat (rd m6 19 4)) = 23) : RC S m6 := by
  obtain ⟨s2, a, b⟩ := h
  rw [← b]
  rcases c with c | c | c
  · rw [show Int.toNat (401 - x) = 0 by omega]; exact a
  · rw [run_no (fun w => c (a.1.1.trans w.1))]; exact a
  · rw [run_no (fun w => w.2 ((rc_k a w.1 hX).trans c))]; exact a
/-- behind the sentences: a fault of form, of meaning, or none yet -/
def a69 (s : Ps) (m : Mm) : Prop := (¬ s 0 1 = 0 ∧ rd m 19 5 = s 0 1 ∧ rd m 19 0 = s 0 2) ∨ (s 0 1 = 0 ∧ ¬ s 0 3 = 0 ∧ rd m 19 5 = s 0 3 ∧ rd m 19 0 = s 0 4) ∨ (s 0 1 = 0 ∧ s 0 3 = 0 ∧ rd m 19 5 = 0 ∧ rd m 19 0 = -1 ∧ dC s m)
theorem a69_f {s : Ps} {m : Mm} (h : RC s m) (z : ¬ rd m 19 5 = 0) : a69 s m := by
  have z0 : ¬ s 0 1 = 0 := fun w => z (h.1.1.trans w)
  exact Or.inl ⟨z0, h.1.1, h.1.2.1 z0⟩
theorem a69_0 {s : Ps} {m : Mm} (h : RC s m) (z : rd m 19 5 = 0) (w : rd m 19 6 = 0) : a69 s m := by
  have z0 : s 0 1 = 0 := h.1.1.symm.trans z
  exact Or.inr (Or.inr ⟨z0, (h.1.2.2 z0).2.1.symm.trans w, z, (h.2 z0).1, (h.2 z0).2⟩)
theorem a69_l {s : Ps} {m m58 m66 : Mm} (h : RC s m) (z : rd m 19 5 = 0) (w : ¬ rd m 19 6 = 0) (e58 : m58 = wt m 19 5 (rd m 19 6)) (e66 : m66 = wt m58 19 0 (rd m58 19 7)) : a69 s m66 := by
  have z0 : s 0 1 = 0 := h.1.1.symm.trans z
  have a := h.1.2.2 z0
  have w0 : ¬ s 0 3 = 0 := fun q => w (a.2.1.trans q)
  refine Or.inr (Or.inl ⟨z0, w0, ?_, ?_⟩)
  · rw [e66, rd_wt, if_neg (by omega), e58, rd_wt, if_pos ⟨rfl, rfl⟩, wr_i (rd_rg _ _ _)]; exact a.2.1
  · rw [e66, rd_wt, if_pos ⟨rfl, rfl⟩, wr_i (rd_rg _ _ _), e58, rd_wt, if_neg (by omega)]; exact a.2.2 w0
theorem an_f {X : Tk} {n : Int} {m : Mm} (h : a69 (pRun X 401 ps_0) m) (z : ¬ rd m 19 5 = 0) : ansP X n (rd m 19 5) (rd m 19 0) := by
  rcases h with h | h | h
  · exact Or.inl h
  · exact Or.inr (Or.inl h)
  · exact absurd h.2.2.1 z
theorem a69_z {s : Ps} {m : Mm} (h : a69 s m) (z : rd m 19 5 = 0) : s 0 1 = 0 ∧ s 0 3 = 0 ∧ rd m 19 0 = -1 ∧ dC s m := by
  rcases h with h | h | h
  · exact absurd (h.2.1.symm.trans z) h.1
  · exact absurd (h.2.2.1.symm.trans z) h.2.1
  · exact ⟨h.1, h.2.1, h.2.2.2.1, h.2.2.2.2⟩
theorem an_6 {X : Tk} {n : Int} {m m86 m97 : Mm} (h : a69 (pRun X 401 ps_0) m) (z : rd m 19 5 = 0) (T : Ty m) (b : bydC m) (en : rd m 1 0 = n) (e86 : m86 = wt m 19 5 6) (e97 : m97 = wt m86 19 0 (rd m86 1 0)) : ansP X n (rd m97 19 5) (rd m97 19 0) := by
  have a := a69_z h z
  refine Or.inr (Or.inr (Or.inl ⟨a.1, a.2.1, (byd_c T a.2.2.2).mp b, ?_, ?_⟩))
  · rw [e97, rd_wt, if_neg (by omega), e86, rd_wt, if_pos ⟨rfl, rfl⟩]; rfl
  · rw [e97, rd_wt, if_pos ⟨rfl, rfl⟩, wr_i (rd_rg _ _ _), e86, rd_wt, if_neg (by omega)]; exact en
theorem an_0 {X : Tk} {n : Int} {m : Mm} (h : a69 (pRun X 401 ps_0) m) (z : rd m 19 5 = 0) (T : Ty m) (b : ¬ bydC m) : ansP X n (rd m 19 5) (rd m 19 0) := by
  have a := a69_z h z
  exact Or.inr (Or.inr (Or.inr ⟨a.1, a.2.1, fun w => b ((byd_c T a.2.2.2).mpr w), z, a.2.2.1⟩))
/-- what read does -/
def rdE (m m2 : Mm) (v : Int) : Prop := tksC (uB m 5) (rd m 1 0) (ld m 6) m2 ∧ ansP (tX m2) (rd m 1 0) v (rd m2 19 0) ∧ (∀ j, rd m2 5 j = rd m 5 j) ∧ (∀ j, ld m2 6 j = ld m 6 j) ∧ (v = 0 → rd m2 49 0 = 0 ∧ ∀ s : Nat, s < 3 → rd m2 58 s = 0) ∧ (¬ v = 0 → rd m2 49 0 = rd m 49 0 ∧ ∀ s, rd m2 58 s = rd m 58 s)
/-- what most calls leave as it was: ks without the tape's size, kr without what is told, kq without what is held -/
def ks (m m2 : Mm) : Prop := (∀ j, rd m2 5 j = rd m 5 j) ∧ rd m2 19 0 = rd m 19 0 ∧ (∀ j, ld m2 6 j = ld m 6 j) ∧ rd m2 49 0 = rd m 49 0 ∧ ∀ j, rd m2 58 j = rd m 58 j
def kr (m m2 : Mm) : Prop := (∀ j, rd m2 5 j = rd m 5 j) ∧ rd m2 19 0 = rd m 19 0 ∧ (∀ j, ld m2 6 j = ld m 6 j) ∧ rd m2 1 0 = rd m 1 0 ∧ ∀ j, rd m2 58 j = rd m 58 j
def kq (m m2 : Mm) : Prop := (∀ j, rd m2 5 j = rd m 5 j) ∧ rd m2 19 0 = rd m 19 0 ∧ (∀ j, ld m2 6 j = ld m 6 j) ∧ rd m2 1 0 = rd m 1 0 ∧ rd m2 49 0 = rd m 49 0
def kp (m m2 : Mm) : Prop := (∀ j, rd m2 5 j = rd m 5 j) ∧ rd m2 19 0 = rd m 19 0 ∧ (∀ j, ld m2 6 j = ld m 6 j) ∧ rd m2 1 0 = rd m 1 0 ∧ rd m2 49 0 = rd m 49 0 ∧ ∀ j, rd m2 58 j = rd m 58 j
theorem ks_r (m : Mm) : ks m m := ⟨fun _ => rfl, rfl, fun _ => rfl, rfl, fun _ => rfl⟩
theorem kr_r (m : Mm) : kr m m := ⟨fun _ => rfl, rfl, fun _ => rfl, rfl, fun _ => rfl⟩
theorem kq_r (m : Mm) : kq m m := ⟨fun _ => rfl, rfl, fun _ => rfl, rfl, rfl⟩
theorem kp_r (m : Mm) : kp m m := ⟨fun _ => rfl, rfl, fun _ => rfl, rfl, rfl, fun _ => rfl⟩
theorem kp.trans {a b c : Mm} (h : kp a b) (k : kp b c) : kp a c := ⟨fun j => (k.1 j).trans (h.1 j), k.2.1.trans h.2.1, fun j => (k.2.2.1 j).trans (h.2.2.1 j), k.2.2.2.1.trans h.2.2.2.1, k.2.2.2.2.1.trans h.2.2.2.2.1, fun j => (k.2.2.2.2.2 j).trans (h.2.2.2.2.2 j)⟩
theorem kp_gx {S : Nat → Nat → Bool} {m m2 : Mm} (g : GX S m m2) (h5 : ∀ j, S 5 j = false) (h58 : ∀ j, S 58 j = false) (h19 : S 19 0 = false) (h1 : S 1 0 = false) (h49 : S 49 0 = false) : kp m m2 := ⟨fun j => g.2.1 5 j (h5 j), g.2.1 19 0 h19, fun j => g.2.2 6 j, g.2.1 1 0 h1, g.2.1 49 0 h49, fun j => g.2.1 58 j (h58 j)⟩
theorem kq_gx {S : Nat → Nat → Bool} {m m2 : Mm} (g : GX S m m2) (h5 : ∀ j, S 5 j = false) (h19 : S 19 0 = false) (h1 : S 1 0 = false) (h49 : S 49 0 = false) : kq m m2 := ⟨fun j => g.2.1 5 j (h5 j), g.2.1 19 0 h19, fun j => g.2.2 6 j, g.2.1 1 0 h1, g.2.1 49 0 h49⟩
theorem kr_gx {S : Nat → Nat → Bool} {m m2 : Mm} (g : GX S m m2) (h5 : ∀ j, S 5 j = false) (h58 : ∀ j, S 58 j = false) (h19 : S 19 0 = false) (h1 : S 1 0 = false) : kr m m2 := ⟨fun j => g.2.1 5 j (h5 j), g.2.1 19 0 h19, fun j => g.2.2 6 j, g.2.1 1 0 h1, fun j => g.2.1 58 j (h58 j)⟩
theorem kp_wt {m m2 : Mm} {i j : Nat} {v : Int} (hi : ¬ i = 5 ∧ ¬ i = 19 ∧ ¬ i = 1 ∧ ¬ i = 49 ∧ ¬ i = 58) (e : m2 = wt m i j v) : kp m m2 := by
  have F : ∀ a b : Nat, ¬ a = i → rd m2 a b = rd m a b := fun a b q => by rw [e, rd_wt, if_neg (fun w => q w.1)]
  exact ⟨fun j => F 5 j (by omega), F 19 0 (by omega), fun j => by rw [e]; rfl, F 1 0 (by omega), F 49 0 (by omega), fun j => F 58 j (by omega)⟩
theorem ks_wt {m m2 : Mm} {v : Int} (e : m2 = wt m 1 0 v) : ks m m2 := by
  have F : ∀ a b : Nat, ¬ a = 1 → rd m2 a b = rd m a b := fun a b q => by rw [e, rd_wt, if_neg (fun w => q w.1)]
  exact ⟨fun j => F 5 j (by omega), F 19 0 (by omega), fun j => by rw [e]; rfl, F 49 0 (by omega), fun j => F 58 j (by omega)⟩
-- TippedCrates$Rows.clearTold()I
set_option maxRecDepth 20000 in
theorem cx_57 {m : Mm}   (T_m : Ty m)   : CK 1 57 [.ref 49] m (fun m2 v => GX sRw m m2 ∧ ((True) ∧ (v = rd m 49 0 ∧ rd m2 49 0 = 0))) := by
  refine br_57  ?_
  unfold P_57
  have g_m : GX sRw m m := ⟨T_m, fun _ _ _ => rfl, fun _ _ => rfl⟩
  have t1 := ty_49_0 T_m
  intro z1_4 e_z1_4
  have r_z1_4 : rg z1_4 := by rw [e_z1_4]; exact (rd_rg _ _ _)
  intro m7 e_m7
  have g_m7 : GX sRw m m7 := by rw [e_m7]; exact GX.wt g_m (tw_49_0 T_m ⟨by omega, by omega⟩) (Eq.refl true)
  exact ⟨g_m7, by exact ⟨by first | trivial | omega | (refine ⟨?_, ?_⟩ <;> omega), by exact ⟨e_z1_4, by rw [e_m7, rd_wt, if_pos ⟨rfl, rfl⟩]; rfl⟩⟩⟩
-- TippedCrates$Rows.addTold(IIZ)I
set_option maxRecDepth 20000 in
theorem cx_56 {m : Mm} {x1 : Int} {x2 : Int} {x3 : Int}  (T_m : Ty m) (r_x1 : rg x1) (r_x2 : rg x2) (r_x3 : rg x3) (p0 : 1 ≤ x1 ∧ x1 ≤ 5) : CK 1 56 [.ref 49, iv x1, iv x2, iv x3] m (fun m2 v => GX sRw m m2 ∧ ((True) ∧ ((rd m 49 0 < 20 ∧ v = rd m 49 0 ∧ rd m2 49 0 = rd m 49 0 + 1) ∨ (¬ rd m 49 0 < 20 ∧ v = -1 ∧ rd m2 49 0 = rd m 49 0)))) := by
  refine br_56 r_x1 r_x2 r_x3 ?_
  unfold P_56
  have g_m : GX sRw m m := ⟨T_m, fun _ _ _ => rfl, fun _ _ => rfl⟩
  have t1 := ty_49_0 T_m
  refine ⟨fun hq => ?_, fun hq => ?_⟩
  · skip
    refine ⟨⟨by omega, by omega⟩, ?_⟩
    intro m20 e_m20
    have g_m20 : GX sRw m m20 := by rw [e_m20]; exact GX.wt g_m (tw_50 T_m ⟨by omega, by omega⟩) (Eq.refl true)
    have e20 : rd m20 49 0 = rd m 49 0 := by rw [e_m20, rd_wt, if_neg (by omega)]
    have t2 := ty_49_0 g_m20.1
    refine ⟨⟨by omega, by omega⟩, ?_⟩
    intro m30 e_m30
    have g_m30 : GX sRw m m30 := by rw [e_m30]; exact GX.wt g_m20 (tw_51 g_m20.1 (by first | assumption | omega)) (Eq.refl true)
    have e30 : rd m30 49 0 = rd m20 49 0 := by rw [e_m30, rd_wt, if_neg (by omega)]
    have t3 := ty_49_0 g_m30.1
    refine ⟨⟨by omega, by omega⟩, ?_⟩
    intro m40 e_m40
    have g_m40 : GX sRw m m40 := by rw [e_m40]; exact GX.wt g_m30 (tw_52 g_m30.1 (nz_rg _)) (Eq.refl true)
    have e40 : rd m40 49 0 = rd m30 49 0 := by rw [e_m40, rd_wt, if_neg (by omega)]
    have t4 := ty_49_0 g_m40.1
    try have w5 : wr ((rd m40 49 0) + 1) = (rd m40 49 0) + 1 := wr_id (by omega) (by omega)
    intro m48 e_m48
    have g_m48 : GX sRw m m48 := by rw [e_m48]; exact GX.wt g_m40 (tw_49_0 g_m40.1 ⟨by omega, by omega⟩) (Eq.refl true)
    have t48 := ty_49_0 T_m
    have q40 : rd m40 49 0 = rd m 49 0 := by rw [e_m40, rd_wt, if_neg (by omega), e_m30, rd_wt, if_neg (by omega), e_m20, rd_wt, if_neg (by omega)]
    have q48 : rd m48 49 0 = rd m 49 0 + 1 := by rw [e_m48, rd_wt, if_pos ⟨rfl, rfl⟩, wr_i (wr_rg _), q40, wr_id (by omega) (by omega)]
    have t6 := ty_49_0 g_m48.1
    try have w7 : wr ((rd m48 49 0) - 1) = (rd m48 49 0) - 1 := wr_id (by omega) (by omega)
    exact ⟨g_m48, by exact ⟨by first | trivial | omega | (refine ⟨?_, ?_⟩ <;> omega), by first | exact Or.inr ⟨by omega, rfl, rfl⟩ | exact Or.inl ⟨by omega, by rw [q48, wr_id (by omega) (by omega)]; omega, q48⟩⟩⟩
  · skip
    exact ⟨g_m, by exact ⟨by first | trivial | omega | (refine ⟨?_, ?_⟩ <;> omega), by first | exact Or.inr ⟨by omega, rfl, rfl⟩ | exact Or.inl ⟨by omega, by rw [q48, wr_id (by omega) (by omega)]; omega, q48⟩⟩⟩
-- TippedCrates$Reader.readTape()I
set_option maxRecDepth 20000 in
theorem cx_34 {m0 m : Mm}   (g_m : QX m0 m)  (p0 : tkOk m) : CK 36 34 [.ref 19] m (fun m2 v => QX m0 m2 ∧ (((lwOk m2 20 ∧ tkOk m2) ∧ ((¬ v = 0 ∧ ∀ i j, (7 ≤ i ∧ i ≤ 18) → rd m2 i j = rd m i j) ∨ (v = 0 ∧ planOk m2))) ∧ (tksC (uB m 5) (rd m 1 0) (ld m 6) m2 ∧ ansP (tX m2) (rd m 1 0) v (rd m2 19 0)))) := by
  refine br_34  ?_
  unfold P_34
  refine CV.mono (cx_35   g_m (by omega)) (by decide) ?_
  rintro m1 ⟨g_m1, h_m1⟩
  have hb1 := h_m1.2
  replace h_m1 := h_m1.1
  have r1 := RX_rfl g_m1.1 h_m1.1
  refine ⟨fun x1_6 m_6 => QX m0 m_6 ∧ (((0 ≤ x1_6 ∧ x1_6 ≤ 401) ∧ RX m1 m_6) ∧ (∃ s2 : Ps, RC s2 m_6 ∧ pRun (tX m1) (Int.toNat (401 - x1_6)) s2 = (pRun (tX m1) 401 ps_0))), fun x1_6 m_6 => Int.toNat (401 - x1_6), ?_, ?_⟩
  · exact ⟨g_m1, by exact ⟨by exact ⟨by omega, r1⟩, by exact ⟨ps_0, hb1.1, rfl⟩⟩⟩
  · intro x1_6 m_6 r_x1_6 hI_6
    obtain ⟨g_m_6, hI_6⟩ := hI_6
    obtain ⟨hI_6, cI_6⟩ := hI_6
    refine ⟨fun m_39 => QX m0 m_39 ∧ ((RX m1 m_39) ∧ (RC (pRun (tX m1) 401 ps_0) m_39)), ?_, ?_⟩
    · skip
      refine ⟨fun hq => ?_, fun hq => ?_⟩
      · skip
        exact ⟨g_m_6, by exact ⟨by exact hI_6.2, by exact ru_R cI_6 (tX_rx hI_6.2) (by omega)⟩⟩
      · skip
        refine ⟨fun hq => ?_, fun hq => ?_⟩
        · skip
          exact ⟨g_m_6, by exact ⟨by exact hI_6.2, by exact ru_R cI_6 (tX_rx hI_6.2) (by omega)⟩⟩
        · skip
          refine CK.mono (ct_36   g_m_6.1) (by decide) ?_
          rintro m21 v21 r_v21 ⟨e_m21, h_m21⟩
          replace e_m21 := e_m21.symm
          subst e_m21
          refine ⟨fun hq => ?_, fun hq => ?_⟩
          · skip
            exact ⟨g_m_6, by exact ⟨by exact hI_6.2, by exact ru_R cI_6 (tX_rx hI_6.2) (by omega)⟩⟩
          · skip
            refine CV.mono (cx_41   hI_6.2) (by decide) ?_
            rintro m30 ⟨hc_m30, h_m30⟩
            have g_m30 : QX m0 m30 := QX.rx g_m1 hc_m30
            try have w2 : wr (x1_6 + 1) = x1_6 + 1 := wr_id (by omega) (by omega)
            intro z1_33 e_z1_33
            have r_z1_33 : rg z1_33 := by rw [e_z1_33]; exact wr_rg _
            exact ⟨⟨g_m30, by exact ⟨by exact ⟨by omega, hc_m30⟩, by exact ru_B cI_6 (tX_rx hI_6.2) (by omega) (by omega) (by omega) h_m30.2⟩⟩, by (try dsimp only); omega⟩
    · intro m_39  hR_39
      obtain ⟨g_m_39, hR_39⟩ := hR_39
      obtain ⟨hR_39, cR_39⟩ := hR_39
      have pl39 : ∀ i j, (7 ≤ i ∧ i ≤ 18) → rd m_39 i j = rd m i j := fun i j h => (hR_39.2.2.2.2.1 i j (sRd_f (by omega))).trans (h_m1.2 i j h)
      refine ⟨fun m_69 => QX m0 m_69 ∧ (((lwOk m_69 20 ∧ tkOk m_69) ∧ (∀ i j, (7 ≤ i ∧ i ≤ 18) → rd m_69 i j = rd m i j) ∧ (rd m_69 19 5 = 0 → vOk m_69 ∧ rd m_69 19 6 = 0)) ∧ (tX m_69 = tX m1 ∧ a69 (pRun (tX m1) 401 ps_0) m_69)), ?_, ?_⟩
      · skip
        refine ⟨fun hq => ?_, fun hq => ?_⟩
        · skip
          exact ⟨g_m_39, by exact ⟨by first | exact ⟨⟨hR_39.2.1, hR_39.2.2.2.1⟩, pl39, fun h => absurd h hq⟩ | exact ⟨⟨hR_39.2.1, hR_39.2.2.2.1⟩, pl39, fun h => ⟨hR_39.2.2.1, hq⟩⟩ | exact ⟨lt66, fun i j h => (q66 i j (by omega)).trans (pl39 i j h), fun h => by omega⟩, by first | exact ⟨tX_rx hR_39, a69_f cR_39 hq⟩ | exact ⟨tX_rx hR_39, a69_0 cR_39 (by omega) (by omega)⟩ | exact ⟨x66, a69_l cR_39 (by omega) (by omega) e_m58 e_m66⟩⟩⟩
        · skip
          refine ⟨fun hq => ?_, fun hq => ?_⟩
          · skip
            exact ⟨g_m_39, by exact ⟨by first | exact ⟨⟨hR_39.2.1, hR_39.2.2.2.1⟩, pl39, fun h => absurd h hq⟩ | exact ⟨⟨hR_39.2.1, hR_39.2.2.2.1⟩, pl39, fun h => ⟨hR_39.2.2.1, hq⟩⟩ | exact ⟨lt66, fun i j h => (q66 i j (by omega)).trans (pl39 i j h), fun h => by omega⟩, by first | exact ⟨tX_rx hR_39, a69_f cR_39 hq⟩ | exact ⟨tX_rx hR_39, a69_0 cR_39 (by omega) (by omega)⟩ | exact ⟨x66, a69_l cR_39 (by omega) (by omega) e_m58 e_m66⟩⟩⟩
          · skip
            intro m58 e_m58
            have g_m58 : QX m0 m58 := by rw [e_m58]; exact QX.wt g_m_39 (tw_19_5 g_m_39.1 (rd_rg _ _ _)) (Eq.refl true)
            intro m66 e_m66
            have g_m66 : QX m0 m66 := by rw [e_m66]; exact QX.wt g_m58 (tw_19_0 g_m58.1 (rd_rg _ _ _)) (Eq.refl true)
            have z66 : rd m66 19 5 = rd m_39 19 6 := by rw [e_m66, rd_wt, if_neg (by omega), e_m58, rd_wt, if_pos ⟨rfl, rfl⟩, wr_i (rd_rg _ _ _)]
            have q66 : ∀ i j, ¬ i = 19 → rd m66 i j = rd m_39 i j := fun i j h => by rw [e_m66, rd_wt, if_neg (by omega), e_m58, rd_wt, if_neg (by omega)]
            have lt66 : (lwOk m66 20 ∧ tkOk m66) := ⟨lwOk_fr hR_39.2.1 (q66 20 4 (by omega)) (fun j => q66 22 j (by omega)), by rw [e_m66, e_m58]; exact tk_wt (tk_wt hR_39.2.2.2.1 (by omega)) (by omega)⟩
            have x66 : tX m66 = tX m1 := (tX_eq (fun j => q66 2 j (by omega)) (fun j => q66 3 j (by omega)) (fun j => by rw [e_m66, e_m58]; rfl)).trans (tX_rx hR_39)
            exact ⟨g_m66, by exact ⟨by first | exact ⟨⟨hR_39.2.1, hR_39.2.2.2.1⟩, pl39, fun h => absurd h hq⟩ | exact ⟨⟨hR_39.2.1, hR_39.2.2.2.1⟩, pl39, fun h => ⟨hR_39.2.2.1, hq⟩⟩ | exact ⟨lt66, fun i j h => (q66 i j (by omega)).trans (pl39 i j h), fun h => by omega⟩, by first | exact ⟨tX_rx hR_39, a69_f cR_39 hq⟩ | exact ⟨tX_rx hR_39, a69_0 cR_39 (by omega) (by omega)⟩ | exact ⟨x66, a69_l cR_39 (by omega) (by omega) e_m58 e_m66⟩⟩⟩
      · intro m_69  hR_69
        obtain ⟨g_m_69, hR_69⟩ := hR_69
        obtain ⟨hR_69, cR_69⟩ := hR_69
        refine ⟨fun m_100 => QX m0 m_100 ∧ (((lwOk m_100 20 ∧ tkOk m_100) ∧ (∀ i j, (7 ≤ i ∧ i ≤ 18) → rd m_100 i j = rd m i j) ∧ (rd m_100 19 5 = 0 → fpOk m_100)) ∧ (tX m_100 = tX m1 ∧ ansP (tX m1) (rd m 1 0) (rd m_100 19 5) (rd m_100 19 0))), ?_, ?_⟩
        · skip
          refine ⟨fun hq => ?_, fun hq => ?_⟩
          · skip
            exact ⟨g_m_69, by exact ⟨by first | exact ⟨hR_69.1, hR_69.2.1, fun h => absurd h hq⟩ | exact ⟨lt97, fun i j h => (q97 i j (by omega)).trans (hR_69.2.1 i j h), fun h => by omega⟩ | exact ⟨hR_69.1, hR_69.2.1, fun h => fp_of (hR_69.2.2 h).1 h (hR_69.2.2 h).2 (h_m77.2 (by omega))⟩, by first | exact ⟨cR_69.1, an_f cR_69.2 hq⟩ | exact ⟨x97.trans cR_69.1, an_6 cR_69.2 (by omega) g_m_69.1 (hb77.1 (by omega)) ((g_m_69.2.1 1 0 rfl).trans (g_m.2.1 1 0 rfl).symm) e_m86 e_m97⟩ | exact ⟨cR_69.1, an_0 cR_69.2 (by omega) g_m_69.1 (hb77.2 (by omega))⟩⟩⟩
          · skip
            refine CK.mono (cx_51   g_m_69.1) (by decide) ?_
            rintro m77 v77 r_v77 ⟨e_m77, h_m77⟩
            replace e_m77 := e_m77.symm
            subst e_m77
            have hb77 := h_m77.2
            replace h_m77 := h_m77.1
            refine ⟨fun hq => ?_, fun hq => ?_⟩
            · skip
              exact ⟨g_m_69, by exact ⟨by first | exact ⟨hR_69.1, hR_69.2.1, fun h => absurd h hq⟩ | exact ⟨lt97, fun i j h => (q97 i j (by omega)).trans (hR_69.2.1 i j h), fun h => by omega⟩ | exact ⟨hR_69.1, hR_69.2.1, fun h => fp_of (hR_69.2.2 h).1 h (hR_69.2.2 h).2 (h_m77.2 (by omega))⟩, by first | exact ⟨cR_69.1, an_f cR_69.2 hq⟩ | exact ⟨x97.trans cR_69.1, an_6 cR_69.2 (by omega) g_m_69.1 (hb77.1 (by omega)) ((g_m_69.2.1 1 0 rfl).trans (g_m.2.1 1 0 rfl).symm) e_m86 e_m97⟩ | exact ⟨cR_69.1, an_0 cR_69.2 (by omega) g_m_69.1 (hb77.2 (by omega))⟩⟩⟩
            · skip
              intro m86 e_m86
              have g_m86 : QX m0 m86 := by rw [e_m86]; exact QX.wt g_m_69 (tw_19_5 g_m_69.1 (by first | assumption | omega)) (Eq.refl true)
              have t7 := ty_1_0 g_m86.1
              intro m97 e_m97
              have g_m97 : QX m0 m97 := by rw [e_m97]; exact QX.wt g_m86 (tw_19_0 g_m86.1 (rd_rg _ _ _)) (Eq.refl true)
              have z97 : rd m97 19 5 = 6 := by rw [e_m97, rd_wt, if_neg (by omega), e_m86, rd_wt, if_pos ⟨rfl, rfl⟩]; rfl
              have q97 : ∀ i j, ¬ i = 19 → rd m97 i j = rd m_69 i j := fun i j h => by rw [e_m97, rd_wt, if_neg (by omega), e_m86, rd_wt, if_neg (by omega)]
              have lt97 : (lwOk m97 20 ∧ tkOk m97) := ⟨lwOk_fr hR_69.1.1 (q97 20 4 (by omega)) (fun j => q97 22 j (by omega)), by rw [e_m97, e_m86]; exact tk_wt (tk_wt hR_69.1.2 (by omega)) (by omega)⟩
              have x97 : tX m97 = tX m_69 := tX_eq (fun j => q97 2 j (by omega)) (fun j => q97 3 j (by omega)) (fun j => by rw [e_m97, e_m86]; rfl)
              exact ⟨g_m97, by exact ⟨by first | exact ⟨hR_69.1, hR_69.2.1, fun h => absurd h hq⟩ | exact ⟨lt97, fun i j h => (q97 i j (by omega)).trans (hR_69.2.1 i j h), fun h => by omega⟩ | exact ⟨hR_69.1, hR_69.2.1, fun h => fp_of (hR_69.2.2 h).1 h (hR_69.2.2 h).2 (h_m77.2 (by omega))⟩, by first | exact ⟨cR_69.1, an_f cR_69.2 hq⟩ | exact ⟨x97.trans cR_69.1, an_6 cR_69.2 (by omega) g_m_69.1 (hb77.1 (by omega)) ((g_m_69.2.1 1 0 rfl).trans (g_m.2.1 1 0 rfl).symm) e_m86 e_m97⟩ | exact ⟨cR_69.1, an_0 cR_69.2 (by omega) g_m_69.1 (hb77.2 (by omega))⟩⟩⟩
        · intro m_100  hR_100
          obtain ⟨g_m_100, hR_100⟩ := hR_100
          obtain ⟨hR_100, cR_100⟩ := hR_100
          refine ⟨fun m_111 => QX m0 m_111 ∧ (((lwOk m_111 20 ∧ tkOk m_111) ∧ ((¬ rd m_111 19 5 = 0 ∧ ∀ i j, (7 ≤ i ∧ i ≤ 18) → rd m_111 i j = rd m i j) ∨ (rd m_111 19 5 = 0 ∧ planOk m_111))) ∧ (tX m_111 = tX m1 ∧ ansP (tX m1) (rd m 1 0) (rd m_111 19 5) (rd m_111 19 0))), ?_, ?_⟩
          · skip
            refine ⟨fun hq => ?_, fun hq => ?_⟩
            · skip
              exact ⟨g_m_100, by exact ⟨by first | exact ⟨hR_100.1, Or.inl ⟨hq, hR_100.2.1⟩⟩ | exact ⟨lt108, Or.inr ⟨by omega, po108⟩⟩, by first | exact cR_100 | exact ⟨x108.trans cR_100.1, by rw [hx_m108.2.1 19 5 rfl, hx_m108.2.1 19 0 rfl]; exact cR_100.2⟩⟩⟩
            · skip
              have fp := hR_100.2.2 hq
              refine CV.mono (ct_54   g_m_100.1 fp.1 fp.2.1 fp.2.2.1 fp.2.2.2.1 fp.2.2.2.2.1 fp.2.2.2.2.2.1 fp.2.2.2.2.2.2 hR_100.1.1) (by decide) ?_
              rintro m108 ⟨hx_m108, h_m108⟩
              have g_m108 : QX m0 m108 := QX.fp g_m_100 hx_m108
              have z108 : rd m108 19 5 = rd m_100 19 5 := hx_m108.2.1 19 5 rfl
              have lt108 : (lwOk m108 20 ∧ tkOk m108) := ⟨lwOk_fr hR_100.1.1 (hx_m108.2.1 20 4 rfl) (fun j => hx_m108.2.1 22 j rfl), fun i hi hk => by rw [hx_m108.2.2]; rw [hx_m108.2.1 2 i rfl] at hk; exact hR_100.1.2 i hi hk⟩
              have po108 : planOk m108 := ⟨h_m108.2.1, fun c hc => h_m108.2.2.1 c (by omega), fun k hk => h_m108.2.2.2 k (by omega)⟩
              have x108 : tX m108 = tX m_100 := tX_eq (fun j => hx_m108.2.1 2 j rfl) (fun j => hx_m108.2.1 3 j rfl) (fun j => hx_m108.2.2 4 j)
              exact ⟨g_m108, by exact ⟨by first | exact ⟨hR_100.1, Or.inl ⟨hq, hR_100.2.1⟩⟩ | exact ⟨lt108, Or.inr ⟨by omega, po108⟩⟩, by first | exact cR_100 | exact ⟨x108.trans cR_100.1, by rw [hx_m108.2.1 19 5 rfl, hx_m108.2.1 19 0 rfl]; exact cR_100.2⟩⟩⟩
          · intro m_111  hR_111
            obtain ⟨g_m_111, hR_111⟩ := hR_111
            obtain ⟨hR_111, cR_111⟩ := hR_111
            exact ⟨g_m_111, by exact ⟨by exact hR_111, by exact ⟨tks_X hb1.2 cR_111.1, by rw [cR_111.1]; exact cR_111.2⟩⟩⟩
set_option maxRecDepth 20000 in
theorem cx_124 {m0 m : Mm} (g_m : CIX m0 m) : CK 41 124 [.ref 0] m (fun m2 v => CIX m0 m2 ∧ (rd m2 1 0 = 0) ∧ rdE m m2 v) := by
  refine br_124 ?_
  unfold P_124
  refine CK.mono (cx_34 (m0 := m) ⟨g_m.1, fun _ _ _ => rfl, fun _ _ _ _ => rfl⟩ g_m.2.1.1.2.2) (by decide) ?_
  rintro m4 v4 r_v4 ⟨q4, ⟨lt4, h4⟩, tk4, an4⟩
  intro m13 e13
  have T13 : Ty m13 := by rw [e13]; exact tw_1_0 q4.1 ⟨by omega, by omega⟩
  have e13' : ∀ i j, ¬ i = 1 → rd m13 i j = rd m4 i j := fun i j h => by rw [e13, rd_wt, if_neg (by omega)]
  have l13 : ∀ i j, ld m13 i j = ld m4 i j := fun i j => by rw [e13]; rfl
  have z13 : rd m13 1 0 = 0 := by rw [e13, rd_wt, if_pos ⟨rfl, rfl⟩]; rfl
  have lt13 : lwOk m13 20 ∧ tkOk m13 := ⟨lwOk_fr lt4.1 (e13' 20 4 (by omega)) (fun j => e13' 22 j (by omega)), by rw [e13]; exact tk_wt lt4.2 (by omega)⟩
  have f4 : ∀ i j, 30 ≤ i → rd m13 i j = rd m i j := fun i j h => (e13' i j (by omega)).trans (q4.2.1 i j (sQ_hi h))
  have fl4 : ∀ i j, 30 ≤ i → ld m13 i j = ld m i j := fun i j h => (l13 i j).trans (q4.2.2 i j (by omega) (by omega))
  have x13 : tX m13 = tX m4 := tX_eq (fun j => e13' 2 j (by omega)) (fun j => e13' 3 j (by omega)) (fun j => l13 4 j)
  have tk13 : tksC (uB m 5) (rd m 1 0) (ld m 6) m13 := tks_X tk4 x13
  have b13 : ∀ j, rd m13 5 j = rd m 5 j := fun j => (e13' 5 j (by omega)).trans (q4.2.1 5 j rfl)
  have w13 : ∀ j, ld m13 6 j = ld m 6 j := fun j => (l13 6 j).trans (q4.2.2 6 j (by decide) (by decide))
  have an13 : ansP (tX m13) (rd m 1 0) v4 (rd m13 19 0) := by rw [x13, e13' 19 0 (by omega)]; exact an4
  refine ⟨fun m_46 => CIX m0 m_46 ∧ rd m_46 1 0 = 0 ∧ rdE m m_46 v4, ?_, fun m_46 h => h⟩
  refine ⟨fun hq => ?_, fun hq => ?_⟩
  · have pl : ∀ i j, (7 ≤ i ∧ i ≤ 18) → rd m13 i j = rd m i j := fun i j h => by
      rcases h4 with w | w
      · exact (e13' i j (by omega)).trans (w.2 i j h)
      · exact absurd w.1 hq
    refine ⟨⟨T13, ?_, fun i j h => ⟨(f4 i j (by omega)).trans (g_m.2.2 i j h).1, (fl4 i j (by omega)).trans (g_m.2.2 i j h).2⟩⟩, z13, tk13, an13, b13, w13, fun z => absurd z hq, fun _ => ⟨f4 49 0 (by omega), fun s => f4 58 s (by omega)⟩⟩
    have c := g_m.2.1
    refine ⟨⟨lwOk_fr c.1.1 (pl 11 4 (by omega)) (fun j => pl 13 j (by omega)), lt13⟩, ?_, ?_, ?_⟩
    · exact okS_fr c.2.1 (pl 7 3 (by omega)) (fun i j h => f4 i j (by omega))
    · intro k hk
      have e0 := f4 55 0 (by omega)
      have e4 := f4 55 4 (by omega)
      have t4 := ty_55_4 g_m.1
      unfold ringC
      rw [e4]
      exact okS_fr (c.2.2.1 k (by omega)) (pl 7 3 (by omega)) (fun i j h => f4 i j (by omega))
    · intro s hs hh
      rw [f4 58 s (by omega)] at hh
      exact okS_fr (c.2.2.2 s hs hh) (pl 7 3 (by omega)) (fun i j h => f4 i j (by omega))
  · have po : planOk m13 := by
      rcases h4 with w | w
      · exact absurd hq w.1
      · have p := w.2
        refine ⟨lwOk_fr p.1 (e13' 11 4 (by omega)) (fun j => e13' 13 j (by omega)), fun c hc => ?_, fun k hk => ?_⟩
        · rw [e13' 7 3 (by omega)] at hc
          rw [e13' 9 c (by omega)]
          exact p.2.1 c hc
        · rw [e13' 7 3 (by omega)] at hk
          rw [e13' 10 k (by omega)]
          exact p.2.2 k hk
    refine CV.mono (ct_75 T13 st_274) (by decide) ?_
    rintro m28 ⟨x28, h28⟩
    have s28 : ∀ i j, ¬ (274 ≤ i ∧ i ≤ 278) → rd m28 i j = rd m13 i j := fun i j h => x28.2.1 i j (sA_no h)
    refine CV.mono (ct_20 x28.1) (by decide) ?_
    rintro m35 ⟨x35, h35⟩
    have s35 : ∀ i j, ¬ i = 55 → ¬ i = 58 → rd m35 i j = rd m28 i j := fun i j h1 h2 => x35.2.1 i j (by unfold sPc; rw [nb_ne h1, nb_ne h2]; rfl)
    refine CK.mono (cx_57 x35.1) (by decide) ?_
    rintro m42 v42 r42 ⟨x42, h42⟩
    have s42 : ∀ i j, ¬ i = 49 → ¬ i = 50 → ¬ i = 51 → ¬ i = 52 → rd m42 i j = rd m35 i j := fun i j h1 h2 h3 h4 => x42.2.1 i j (by unfold sRw; rw [nb_ne h1, nb_ne h2, nb_ne h3, nb_ne h4]; rfl)
    have a : ∀ i j, ¬ (49 ≤ i ∧ i ≤ 52) → ¬ i = 55 → ¬ i = 58 → ¬ (274 ≤ i ∧ i ≤ 278) → rd m42 i j = rd m13 i j := fun i j h1 h2 h3 h4 => (s42 i j (by omega) (by omega) (by omega) (by omega)).trans ((s35 i j h2 h3).trans (s28 i j h4))
    have b : ∀ i j, ld m42 i j = ld m13 i j := fun i j => (x42.2.2 i j).trans ((x35.2.2 i j).trans (x28.2.2 i j))
    have d : ∀ i j, (274 ≤ i ∧ i ≤ 278) → rd m42 i j = rd m28 i j := fun i j h => (s42 i j (by omega) (by omega) (by omega) (by omega)).trans (s35 i j (by omega) (by omega))
    have n0 : rd m42 55 0 = 0 := (s42 55 0 (by omega) (by omega) (by omega) (by omega)).trans h35.1
    have xx : tX m42 = tX m13 := tX_eq (fun j => a 2 j (by omega) (by omega) (by omega) (by omega)) (fun j => a 3 j (by omega) (by omega) (by omega) (by omega)) (fun j => b 4 j)
    refine ⟨⟨x42.1, ?_, fun i j h => ?_⟩, (a 1 0 (by omega) (by omega) (by omega) (by omega)).trans z13, tks_X tk13 xx, by rw [xx, a 19 0 (by omega) (by omega) (by omega) (by omega)]; exact an13, fun j => (a 5 j (by omega) (by omega) (by omega) (by omega)).trans (b13 j), fun j => (b 6 j).trans (w13 j), fun _ => ⟨h42.2.2, fun s hs => (s42 58 s (by omega) (by omega) (by omega) (by omega)).trans (h35.2 s hs)⟩, fun z => absurd hq z⟩
    · refine ⟨⟨lwOk_fr po.1 (a 11 4 (by omega) (by omega) (by omega) (by omega)) (fun j => a 13 j (by omega) (by omega) (by omega) (by omega)), lwOk_fr lt13.1 (a 20 4 (by omega) (by omega) (by omega) (by omega)) (fun j => a 22 j (by omega) (by omega) (by omega) (by omega)), fun i hi hk => ?_⟩, ⟨?_, ?_, ?_⟩, fun k hk => by omega, fun s hs hh => ?_⟩
      · rw [b]
        rw [a 2 i (by omega) (by omega) (by omega) (by omega)] at hk
        exact lt13.2 i hi hk
      · rw [d 274 4 (by omega), h28.1, a 7 3 (by omega) (by omega) (by omega) (by omega)]
      · intro c hc
        have t := ty_7_3 T13
        rw [d 274 4 (by omega), h28.1] at hc
        rw [d 276 c (by omega), h28.2.1 c (by omega)]
        exact po.2.1 c hc
      · intro k hk
        have t := ty_7_3 T13
        rw [d 274 4 (by omega), h28.1] at hk
        rw [d 277 k (by omega), h28.2.2 k (by omega)]
        exact po.2.2 k hk
      · exact absurd ((s42 58 s (by omega) (by omega) (by omega) (by omega)).trans (h35.2 s hs)) hh
    · exact ⟨(a i j (by omega) (by omega) (by omega) (by omega)).trans ((f4 i j (by omega)).trans (g_m.2.2 i j h).1), (b i j).trans ((fl4 i j (by omega)).trans (g_m.2.2 i j h).2)⟩
-- TippedCrates.tip(II)I
set_option maxRecDepth 20000 in
theorem cx_129 {m0 m : Mm} {x1 : Int} {x2 : Int}  (g_m : CIX m0 m) (r_x1 : rg x1) (r_x2 : rg x2)  : CK 5 129 [.ref 0, iv x1, iv x2] m (fun m2 v => CIX m0 m2 ∧ ((rd m2 1 0 = rd m 1 0) ∧ (kp m m2))) := by
  refine br_129 r_x1 r_x2 ?_
  unfold P_129
  have ok := g_m.2.1.2.1
  have okn := ok.1
  have t73 := ty_7_3 g_m.1
  refine CK.mono (ct_162   g_m.1 r_x1) (by decide) ?_
  rintro m2 v2 r_v2 ⟨e_m2, h_m2⟩
  replace e_m2 := e_m2.symm
  subst e_m2
  refine ⟨fun m_31 => CIX m0 m_31 ∧ ((rd m_31 1 0 = rd m 1 0) ∧ (kp m m_31)), ?_, ?_⟩
  · skip
    refine ⟨fun hq => ?_, fun hq => ?_⟩
    · skip
      exact ⟨g_m, by exact ⟨by first | trivial | omega | (refine ⟨?_, ?_⟩ <;> omega), by exact kp_r _⟩⟩
    · skip
      refine CK.mono (ct_165   r_x2) (by decide) ?_
      rintro m9 v9 r_v9 ⟨e_m9, h_m9⟩
      replace e_m9 := e_m9.symm
      subst e_m9
      refine ⟨fun hq => ?_, fun hq => ?_⟩
      · skip
        exact ⟨g_m, by exact ⟨by first | trivial | omega | (refine ⟨?_, ?_⟩ <;> omega), by exact kp_r _⟩⟩
      · skip
        have fl := ok.2.1 (Int.toNat x1) (by omega)
        refine CK.mono (ct_1   g_m.1 st_274 r_x1 r_x2 (by omega) (by omega) fl) (by decide) ?_
        rintro m25 v25 r_v25 ⟨e_m25, h_m25⟩
        replace e_m25 := e_m25.symm
        subst e_m25
        refine ⟨fun hq => ?_, fun hq => ?_⟩
        · skip
          refine CV.mono (ct_21   g_m.1 st_274) (by decide) ?_
          rintro m41 ⟨hx_m41, h_m41⟩
          have g_m41 : CIX m0 m41 := CI_note g_m hx_m41 h_m41
          have c41 : rd m41 274 4 = rd m 274 4 := hx_m41.2.1 274 4 rfl
          have s41 : rd m41 1 0 = rd m 1 0 := hx_m41.2.1 1 0 rfl
          refine CV.mono (ct_7   g_m41.1 st_274 r_x1 r_x2 g_m41.2.1.2.1.2 (by omega) (by omega) g_m41.2.1.1.1) (by decide) ?_
          rintro m54 ⟨hx_m54, h_m54⟩
          have g_m54 : CIX m0 m54 := CI_sT g_m41 hx_m54 h_m54
          have s54 : rd m54 1 0 = rd m41 1 0 := hx_m54.2.1 1 0 (sT_no (by omega) (by omega) (by omega))
          have kp54 : kp m m54 := (kp_gx hx_m41 (fun j => rfl) (fun j => rfl) rfl rfl rfl).trans (kp_gx hx_m54 (fun j => sT_no (by omega) (by omega) (by omega)) (fun j => sT_no (by omega) (by omega) (by omega)) (sT_no (by omega) (by omega) (by omega)) (sT_no (by omega) (by omega) (by omega)) (sT_no (by omega) (by omega) (by omega)))
          refine ⟨⟨by omega, by omega⟩, ?_⟩
          have t1 := ty_sF g_m54.1 st_274 (Int.toNat x1)
          exact ⟨g_m54, by exact ⟨by first | trivial | omega | (refine ⟨?_, ?_⟩ <;> omega), by first | exact kp54 | exact cR_31⟩⟩
        · skip
          exact ⟨g_m, by exact ⟨by first | trivial | omega | (refine ⟨?_, ?_⟩ <;> omega), by exact kp_r _⟩⟩
  · intro m_31  hR_31
    obtain ⟨g_m_31, hR_31⟩ := hR_31
    obtain ⟨hR_31, cR_31⟩ := hR_31
    exact ⟨g_m_31, by exact ⟨by first | trivial | omega | (refine ⟨?_, ?_⟩ <;> omega), by first | exact kp54 | exact cR_31⟩⟩
-- TippedCrates.paint(II)Z
set_option maxRecDepth 20000 in
theorem cx_130 {m0 m : Mm} {x1 : Int} {x2 : Int}  (g_m : CIX m0 m) (r_x1 : rg x1) (r_x2 : rg x2)  : CK 3 130 [.ref 0, iv x1, iv x2] m (fun m2 v => CIX m0 m2 ∧ ((rd m2 1 0 = rd m 1 0) ∧ (kp m m2))) := by
  refine br_130 r_x1 r_x2 ?_
  unfold P_130
  have ok := g_m.2.1.2.1
  have okn := ok.1
  have t73 := ty_7_3 g_m.1
  have wb := wh_b (ty_7_0 g_m.1) (ty_7_1 g_m.1)
  refine CK.mono (ct_163   g_m.1 r_x1) (by decide) ?_
  rintro m2 v2 r_v2 ⟨e_m2, h_m2⟩
  replace e_m2 := e_m2.symm
  subst e_m2
  refine ⟨fun m_28 => CIX m0 m_28 ∧ ((rd m_28 1 0 = rd m 1 0) ∧ (kp m m_28)), ?_, ?_⟩
  · skip
    refine ⟨fun hq => ?_, fun hq => ?_⟩
    · skip
      exact ⟨g_m, by exact ⟨by first | trivial | omega | (refine ⟨?_, ?_⟩ <;> omega), by exact kp_r _⟩⟩
    · skip
      refine CK.mono (ct_164   r_x2) (by decide) ?_
      rintro m9 v9 r_v9 ⟨e_m9, h_m9⟩
      replace e_m9 := e_m9.symm
      subst e_m9
      refine ⟨fun hq => ?_, fun hq => ?_⟩
      · skip
        exact ⟨g_m, by exact ⟨by first | trivial | omega | (refine ⟨?_, ?_⟩ <;> omega), by exact kp_r _⟩⟩
      · skip
        refine ⟨⟨by omega, by omega⟩, ?_⟩
        have t1 := ty_sM g_m.1 st_274 (Int.toNat x1)
        refine ⟨fun hq => ?_, fun hq => ?_⟩
        · skip
          refine CK.mono (ct_31   r_x1) (by decide) ?_
          rintro m35 v35 r_v35 ⟨e_m35, h_m35⟩
          replace e_m35 := e_m35.symm
          subst e_m35
          refine ⟨fun m_53 => CIX m0 m_53 ∧ ((rd m_53 1 0 = rd m 1 0) ∧ (kp m m_53)), ?_, ?_⟩
          · skip
            refine ⟨fun hq => ?_, fun hq => ?_⟩
            · skip
              exact ⟨g_m, by exact ⟨by first | trivial | omega | (refine ⟨?_, ?_⟩ <;> omega), by exact kp_r _⟩⟩
            · skip
              refine CK.mono (ct_77   g_m.1 st_274 r_x1) (by decide) ?_
              rintro m46 v46 r_v46 ⟨e_m46, h_m46⟩
              replace e_m46 := e_m46.symm
              subst e_m46
              refine ⟨fun hq => ?_, fun hq => ?_⟩
              · skip
                refine CV.mono (ct_21   g_m.1 st_274) (by decide) ?_
                rintro m63 ⟨hx_m63, h_m63⟩
                have g_m63 : CIX m0 m63 := CI_note g_m hx_m63 h_m63
                have s63 : rd m63 1 0 = rd m 1 0 := hx_m63.2.1 1 0 rfl
                refine ⟨⟨by omega, by omega⟩, ?_⟩
                intro m75 e_m75
                have g_m75 : CIX m0 m75 := by rw [e_m75]; exact CI_paint g_m63 ⟨by omega, by omega⟩
                have s75 : rd m75 1 0 = rd m63 1 0 := by rw [e_m75, rd_wt, if_neg (by omega)]
                have kp75 : kp m m75 := (kp_gx hx_m63 (fun j => rfl) (fun j => rfl) rfl rfl rfl).trans (kp_wt (by omega) e_m75)
                exact ⟨g_m75, by exact ⟨by first | trivial | omega | (refine ⟨?_, ?_⟩ <;> omega), by first | exact kp75 | exact cR_28 | exact cR_53⟩⟩
              · skip
                exact ⟨g_m, by exact ⟨by first | trivial | omega | (refine ⟨?_, ?_⟩ <;> omega), by exact kp_r _⟩⟩
          · intro m_53  hR_53
            obtain ⟨g_m_53, hR_53⟩ := hR_53
            obtain ⟨hR_53, cR_53⟩ := hR_53
            exact ⟨g_m_53, by exact ⟨by first | trivial | omega | (refine ⟨?_, ?_⟩ <;> omega), by first | exact kp75 | exact cR_28 | exact cR_53⟩⟩
        · skip
          exact ⟨g_m, by exact ⟨by first | trivial | omega | (refine ⟨?_, ?_⟩ <;> omega), by exact kp_r _⟩⟩
  · intro m_28  hR_28
    obtain ⟨g_m_28, hR_28⟩ := hR_28
    obtain ⟨hR_28, cR_28⟩ := hR_28
    exact ⟨g_m_28, by exact ⟨by first | trivial | omega | (refine ⟨?_, ?_⟩ <;> omega), by first | exact kp75 | exact cR_28 | exact cR_53⟩⟩
-- TippedCrates.minutes(I)I
set_option maxRecDepth 20000 in
theorem cx_131 {m0 m : Mm} {x1 : Int}  (g_m : CIX m0 m) (r_x1 : rg x1)  : CK 7 131 [.ref 0, iv x1] m (fun m2 v => CIX m0 m2 ∧ ((rd m2 1 0 = rd m 1 0) ∧ (kp m m2))) := by
  refine br_131 r_x1 ?_
  unfold P_131
  have ok := g_m.2.1.2.1
  have okn := ok.1
  have t73 := ty_7_3 g_m.1
  refine CK.mono (ct_166   r_x1 (by unfold rg; decide) (by unfold rg; decide)) (by decide) ?_
  rintro m4 v4 r_v4 ⟨e_m4, h_m4⟩
  replace e_m4 := e_m4.symm
  subst e_m4
  refine ⟨fun hq => ?_, fun hq => ?_⟩
  · skip
    refine ⟨fun m_46 => CIX m0 m_46 ∧ ((rd m_46 1 0 = rd m 1 0) ∧ (kp m m_46)), ?_, ?_⟩
    · skip
      refine ⟨fun hq => ?_, fun hq => ?_⟩
      · skip
        exact ⟨g_m, by exact ⟨by first | trivial | omega | (refine ⟨?_, ?_⟩ <;> omega), by first | exact kp43 | exact kp_r _⟩⟩
      · skip
        refine CV.mono (ct_21   g_m.1 st_274) (by decide) ?_
        rintro m24 ⟨hx_m24, h_m24⟩
        have g_m24 : CIX m0 m24 := CI_note g_m hx_m24 h_m24
        have s24 : rd m24 1 0 = rd m 1 0 := hx_m24.2.1 1 0 rfl
        refine CV.mono (ct_8   g_m24.1 st_274 r_x1 (rd_rg _ _ _) g_m24.2.1.2.1.2 g_m24.2.1.1.1 (by omega)) (by decide) ?_
        rintro m43 ⟨hx_m43, h_m43⟩
        have g_m43 : CIX m0 m43 := CI_sT g_m24 hx_m43 h_m43.1
        have s43 : rd m43 1 0 = rd m24 1 0 := hx_m43.2.1 1 0 (sT_no (by omega) (by omega) (by omega))
        have kp43 : kp m m43 := (kp_gx hx_m24 (fun j => rfl) (fun j => rfl) rfl rfl rfl).trans (kp_gx hx_m43 (fun j => sT_no (by omega) (by omega) (by omega)) (fun j => sT_no (by omega) (by omega) (by omega)) (sT_no (by omega) (by omega) (by omega)) (sT_no (by omega) (by omega) (by omega)) (sT_no (by omega) (by omega) (by omega)))
        exact ⟨g_m43, by exact ⟨by first | trivial | omega | (refine ⟨?_, ?_⟩ <;> omega), by first | exact kp43 | exact kp_r _⟩⟩
    · intro m_46  hR_46
      obtain ⟨g_m_46, hR_46⟩ := hR_46
      obtain ⟨hR_46, cR_46⟩ := hR_46
      exact ⟨g_m_46, by exact ⟨by first | trivial | omega | (refine ⟨?_, ?_⟩ <;> omega), by first | exact cR_46 | exact kp_r _⟩⟩
  · skip
    exact ⟨g_m, by exact ⟨by first | trivial | omega | (refine ⟨?_, ?_⟩ <;> omega), by first | exact cR_46 | exact kp_r _⟩⟩
-- TippedCrates.undo()Z
set_option maxRecDepth 20000 in
theorem cx_132 {m0 m : Mm}   (g_m : CIX m0 m)   : CK 3 132 [.ref 0] m (fun m2 v => CIX m0 m2 ∧ ((rd m2 1 0 = rd m 1 0) ∧ (kp m m2))) := by
  refine br_132  ?_
  unfold P_132
  refine CK.mono (ct_22   g_m.1 st_274) (by decide) ?_
  rintro m8 v8 r_v8 ⟨hx_m8, h_m8⟩
  have g_m8 : CIX m0 m8 := CI_back g_m hx_m8 h_m8
  have s8 : rd m8 1 0 = rd m 1 0 := hx_m8.2.1 1 0 rfl
  exact ⟨by omega, ⟨g_m8, by exact ⟨by first | trivial | omega | (refine ⟨?_, ?_⟩ <;> omega), by exact (kp_gx hx_m8 (fun j => sPt_no (by omega) (by omega)) (fun j => sPt_no (by omega) (by omega)) (sPt_no (by omega) (by omega)) (sPt_no (by omega) (by omega)) (sPt_no (by omega) (by omega)))⟩⟩⟩
-- TippedCrates.restore(I)Z
set_option maxRecDepth 20000 in
theorem cx_156 {m0 m : Mm} {x1 : Int}  (g_m : CIX m0 m) (r_x1 : rg x1)  : CK 3 156 [.ref 0, iv x1] m (fun m2 v => CIX m0 m2 ∧ ((rd m2 1 0 = rd m 1 0) ∧ (kp m m2 ∧ ((v = 1 ∧ (0 ≤ x1 ∧ x1 ≤ 2) ∧ ¬ rd m 58 (Int.toNat x1) = 0) ∨ (v = 0 ∧ ((x1 < 0 ∨ 2 < x1) ∨ rd m 58 (Int.toNat x1) = 0)))))) := by
  refine br_156 r_x1 ?_
  unfold P_156
  refine CK.mono (ct_166   r_x1 (by unfold rg; decide) (by unfold rg; decide)) (by decide) ?_
  rintro m3 v3 r_v3 ⟨e_m3, h_m3⟩
  replace e_m3 := e_m3.symm
  subst e_m3
  refine ⟨fun s0_29 m_29 => CIX m0 m_29 ∧ (((s0_29 = 0 ∨ s0_29 = 1) ∧ rd m_29 1 0 = rd m 1 0) ∧ (kp m m_29 ∧ ((s0_29 = 1 ∧ (0 ≤ x1 ∧ x1 ≤ 2) ∧ ¬ rd m 58 (Int.toNat x1) = 0) ∨ (s0_29 = 0 ∧ ((x1 < 0 ∨ 2 < x1) ∨ rd m 58 (Int.toNat x1) = 0))))), ?_, ?_⟩
  · skip
    refine ⟨fun m_28 => CIX m0 m_28 ∧ ((rd m_28 1 0 = rd m 1 0) ∧ (kp m m_28 ∧ ((x1 < 0 ∨ 2 < x1) ∨ rd m 58 (Int.toNat x1) = 0))), ?_, ?_⟩
    · skip
      refine ⟨fun hq => ?_, fun hq => ?_⟩
      · skip
        exact ⟨g_m, by exact ⟨by first | trivial | omega | (refine ⟨?_, ?_⟩ <;> omega), by first | exact ⟨(kp_gx hx_m18 (fun j => sPt_no (by omega) (by omega)) (fun j => sPt_no (by omega) (by omega)) (sPt_no (by omega) (by omega)) (sPt_no (by omega) (by omega)) (sPt_no (by omega) (by omega))), by omega⟩ | exact ⟨kp_r _, by omega⟩⟩⟩
      · skip
        refine CK.mono (ct_24   g_m.1 st_274 r_x1 (by omega)) (by decide) ?_
        rintro m18 v18 r_v18 ⟨hx_m18, h_m18⟩
        have g_m18 : CIX m0 m18 := CI_goon g_m hx_m18 h_m18 ⟨by omega, by omega⟩
        have s18 : rd m18 1 0 = rd m 1 0 := hx_m18.2.1 1 0 rfl
        refine ⟨fun hq => ?_, fun hq => ?_⟩
        · skip
          exact ⟨g_m18, by exact ⟨by first | trivial | omega | (refine ⟨?_, ?_⟩ <;> omega), by first | exact ⟨(kp_gx hx_m18 (fun j => sPt_no (by omega) (by omega)) (fun j => sPt_no (by omega) (by omega)) (sPt_no (by omega) (by omega)) (sPt_no (by omega) (by omega)) (sPt_no (by omega) (by omega))), by omega⟩ | exact ⟨kp_r _, by omega⟩⟩⟩
        · skip
          exact ⟨g_m18, by exact ⟨by first | trivial | omega | (refine ⟨?_, ?_⟩ <;> omega), by first | exact ⟨(kp_gx hx_m18 (fun j => sPt_no (by omega) (by omega)) (fun j => sPt_no (by omega) (by omega)) (sPt_no (by omega) (by omega)) (sPt_no (by omega) (by omega)) (sPt_no (by omega) (by omega))), Or.inl ⟨rfl, by omega, by omega⟩⟩ | exact ⟨cR_28.1, Or.inr ⟨rfl, cR_28.2⟩⟩⟩⟩
    · intro m_28  hR_28
      obtain ⟨g_m_28, hR_28⟩ := hR_28
      obtain ⟨hR_28, cR_28⟩ := hR_28
      exact ⟨g_m_28, by exact ⟨by first | trivial | omega | (refine ⟨?_, ?_⟩ <;> omega), by first | exact ⟨(kp_gx hx_m18 (fun j => sPt_no (by omega) (by omega)) (fun j => sPt_no (by omega) (by omega)) (sPt_no (by omega) (by omega)) (sPt_no (by omega) (by omega)) (sPt_no (by omega) (by omega))), Or.inl ⟨rfl, by omega, by omega⟩⟩ | exact ⟨cR_28.1, Or.inr ⟨rfl, cR_28.2⟩⟩⟩⟩
  · intro s0_29 m_29 r_s0_29 hR_29
    obtain ⟨g_m_29, hR_29⟩ := hR_29
    obtain ⟨hR_29, cR_29⟩ := hR_29
    exact ⟨by omega, ⟨g_m_29, by exact ⟨by first | trivial | omega | (refine ⟨?_, ?_⟩ <;> omega), by exact cR_29⟩⟩⟩
-- TippedCrates.hold(I)Z
set_option maxRecDepth 20000 in
theorem cx_155 {m0 m : Mm} {x1 : Int}  (g_m : CIX m0 m) (r_x1 : rg x1)  : CK 3 155 [.ref 0, iv x1] m (fun m2 v => CIX m0 m2 ∧ ((rd m2 1 0 = rd m 1 0 ∧ ((v = 1 ∧ 0 ≤ x1 ∧ x1 ≤ 2) ∨ (v = 0 ∧ (x1 < 0 ∨ 2 < x1)))) ∧ (kq m m2 ∧ (((0 ≤ x1 ∧ x1 ≤ 2) ∧ rd m2 58 (Int.toNat x1) = 1 ∧ ∀ j : Nat, ¬ j = Int.toNat x1 → rd m2 58 j = rd m 58 j) ∨ ((x1 < 0 ∨ 2 < x1) ∧ ∀ j, rd m2 58 j = rd m 58 j))))) := by
  refine br_155 r_x1 ?_
  unfold P_155
  refine CK.mono (ct_166   r_x1 (by unfold rg; decide) (by unfold rg; decide)) (by decide) ?_
  rintro m3 v3 r_v3 ⟨e_m3, h_m3⟩
  replace e_m3 := e_m3.symm
  subst e_m3
  refine ⟨fun hq => ?_, fun hq => ?_⟩
  · skip
    refine CV.mono (ct_23   g_m.1 st_274 r_x1 (by omega)) (by decide) ?_
    rintro m20 ⟨hx_m20, h_m20⟩
    have g_m20 : CIX m0 m20 := CI_keep g_m hx_m20 h_m20 ⟨by omega, by omega⟩
    have s20 : rd m20 1 0 = rd m 1 0 := hx_m20.2.1 1 0 rfl
    exact ⟨g_m20, by exact ⟨by first | trivial | omega | (refine ⟨?_, ?_⟩ <;> omega), by first | exact ⟨kq_gx hx_m20 (fun j => rfl) rfl rfl rfl, Or.inl ⟨by omega, h_m20.2.1, h_m20.2.2.2⟩⟩ | exact ⟨kq_r _, Or.inr ⟨by omega, fun _ => rfl⟩⟩⟩⟩
  · skip
    exact ⟨g_m, by exact ⟨by first | trivial | omega | (refine ⟨?_, ?_⟩ <;> omega), by first | exact ⟨kq_gx hx_m20 (fun j => rfl) rfl rfl rfl, Or.inl ⟨by omega, h_m20.2.1, h_m20.2.2.2⟩⟩ | exact ⟨kq_r _, Or.inr ⟨by omega, fun _ => rfl⟩⟩⟩⟩
-- TippedCrates.tell(IIZ)I
set_option maxRecDepth 20000 in
theorem cx_151 {m0 m : Mm} {x1 : Int} {x2 : Int} {x3 : Int}  (g_m : CIX m0 m) (r_x1 : rg x1) (r_x2 : rg x2) (r_x3 : rg x3)  : CK 3 151 [.ref 0, iv x1, iv x2, iv x3] m (fun m2 v => CIX m0 m2 ∧ ((rd m2 1 0 = rd m 1 0) ∧ (kr m m2 ∧ (((1 ≤ x1 ∧ x1 ≤ 5) ∧ (0 ≤ x2 ∧ x2 ≤ 9) ∧ rd m 49 0 < 20 ∧ v = rd m 49 0 ∧ rd m2 49 0 = rd m 49 0 + 1) ∨ (¬ ((1 ≤ x1 ∧ x1 ≤ 5) ∧ (0 ≤ x2 ∧ x2 ≤ 9) ∧ rd m 49 0 < 20) ∧ v = -1 ∧ rd m2 49 0 = rd m 49 0))))) := by
  refine br_151 r_x1 r_x2 r_x3 ?_
  unfold P_151
  refine CK.mono (ct_166   r_x1 (by unfold rg; decide) (by unfold rg; decide)) (by decide) ?_
  rintro m3 v3 r_v3 ⟨e_m3, h_m3⟩
  replace e_m3 := e_m3.symm
  subst e_m3
  refine ⟨fun m_28 => CIX m0 m_28 ∧ ((rd m_28 1 0 = rd m 1 0) ∧ (kr m m_28 ∧ ¬ ((1 ≤ x1 ∧ x1 ≤ 5) ∧ (0 ≤ x2 ∧ x2 ≤ 9) ∧ rd m 49 0 < 20) ∧ rd m_28 49 0 = rd m 49 0)), ?_, ?_⟩
  · skip
    refine ⟨fun hq => ?_, fun hq => ?_⟩
    · skip
      exact ⟨g_m, by exact ⟨by first | trivial | omega | (refine ⟨?_, ?_⟩ <;> omega), by exact ⟨kr_r _, by omega, rfl⟩⟩⟩
    · skip
      refine CK.mono (ct_164   r_x2) (by decide) ?_
      rintro m10 v10 r_v10 ⟨e_m10, h_m10⟩
      replace e_m10 := e_m10.symm
      subst e_m10
      refine ⟨fun hq => ?_, fun hq => ?_⟩
      · skip
        exact ⟨g_m, by exact ⟨by first | trivial | omega | (refine ⟨?_, ?_⟩ <;> omega), by exact ⟨kr_r _, by omega, rfl⟩⟩⟩
      · skip
        have t1 := ty_49_0 g_m.1
        refine ⟨fun hq => ?_, fun hq => ?_⟩
        · skip
          refine CK.mono (cx_56   g_m.1 r_x1 r_x2 r_x3 (by omega)) (by decide) ?_
          rintro m37 v37 r_v37 ⟨hx_m37, h_m37⟩
          have g_m37 : CIX m0 m37 := CI_rw g_m hx_m37
          have s37 : rd m37 1 0 = rd m 1 0 := hx_m37.2.1 1 0 rfl
          exact ⟨g_m37, by exact ⟨by first | trivial | omega | (refine ⟨?_, ?_⟩ <;> omega), by first | exact ⟨kr_gx hx_m37 (fun j => rfl) (fun j => rfl) rfl rfl, Or.inl ⟨by omega, by omega, by omega, by omega, by omega⟩⟩ | exact ⟨cR_28.1, Or.inr ⟨cR_28.2.1, rfl, cR_28.2.2⟩⟩⟩⟩
        · skip
          exact ⟨g_m, by exact ⟨by first | trivial | omega | (refine ⟨?_, ?_⟩ <;> omega), by exact ⟨kr_r _, by omega, rfl⟩⟩⟩
  · intro m_28  hR_28
    obtain ⟨g_m_28, hR_28⟩ := hR_28
    obtain ⟨hR_28, cR_28⟩ := hR_28
    exact ⟨g_m_28, by exact ⟨by first | trivial | omega | (refine ⟨?_, ?_⟩ <;> omega), by first | exact ⟨kr_gx hx_m37 (fun j => rfl) (fun j => rfl) rfl rfl, Or.inl ⟨by omega, by omega, by omega, by omega, by omega⟩⟩ | exact ⟨cR_28.1, Or.inr ⟨cR_28.2.1, rfl, cR_28.2.2⟩⟩⟩⟩
-- TippedCrates.forget()I
set_option maxRecDepth 20000 in
theorem cx_152 {m0 m : Mm}   (g_m : CIX m0 m)   : CK 2 152 [.ref 0] m (fun m2 v => CIX m0 m2 ∧ ((rd m2 1 0 = rd m 1 0) ∧ (kr m m2 ∧ v = rd m 49 0 ∧ rd m2 49 0 = 0))) := by
  refine br_152  ?_
  unfold P_152
  refine CK.mono (cx_57   g_m.1) (by decide) ?_
  rintro m4 v4 r_v4 ⟨hx_m4, h_m4⟩
  have g_m4 : CIX m0 m4 := CI_rw g_m hx_m4
  have s4 : rd m4 1 0 = rd m 1 0 := hx_m4.2.1 1 0 rfl
  exact ⟨g_m4, by exact ⟨by first | trivial | omega | (refine ⟨?_, ?_⟩ <;> omega), by exact ⟨kr_gx hx_m4 (fun j => rfl) (fun j => rfl) rfl rfl, h_m4.2⟩⟩⟩
-- TippedCrates.back(I)I
set_option maxRecDepth 20000 in
theorem cx_123 {m0 m : Mm} {x1 : Int}  (g_m : CIX m0 m) (r_x1 : rg x1)  : CK 1 123 [.ref 0, iv x1] m (fun m2 v => CIX m0 m2 ∧ (((0 ≤ x1 ∧ x1 ≤ rd m 1 0 ∧ v = rd m 1 0 - x1 ∧ rd m2 1 0 = rd m 1 0 - x1) ∨ (¬ (0 ≤ x1 ∧ x1 ≤ rd m 1 0) ∧ v = -1 ∧ rd m2 1 0 = rd m 1 0)) ∧ (ks m m2))) := by
  refine br_123 r_x1 ?_
  unfold P_123
  have t1 := ty_1_0 g_m.1
  refine ⟨¬ (0 ≤ x1 ∧ x1 ≤ rd m 1 0), ?_, ?_⟩
  · skip
    refine ⟨fun hq => ?_, fun hq => ?_⟩
    · skip
      (first | trivial | omega | (refine ⟨?_, ?_⟩ <;> omega))
    · skip
      have t1 := ty_1_0 g_m.1
      refine ⟨fun hq => ?_, fun hq => ?_⟩
      · skip
        try have w2 : wr ((rd m 1 0) - x1) = (rd m 1 0) - x1 := wr_id (by omega) (by omega)
        intro m27 e_m27
        have g_m27 : CIX m0 m27 := by rw [e_m27]; exact CI_10 g_m ⟨by omega, by omega⟩
        have n27 : rd m27 1 0 = rd m 1 0 - x1 := by rw [e_m27, rd_wt, if_pos ⟨rfl, rfl⟩, wr_i (wr_rg _), wr_id (by omega) (by omega)]
        have t3 := ty_1_0 g_m27.1
        exact ⟨g_m27, by exact ⟨by first | trivial | omega | (refine ⟨?_, ?_⟩ <;> omega), by first | exact ks_wt e_m27 | exact ks_r _⟩⟩
      · skip
        (first | trivial | omega | (refine ⟨?_, ?_⟩ <;> omega))
  · intro   hR_15
    exact ⟨g_m, by exact ⟨by first | trivial | omega | (refine ⟨?_, ?_⟩ <;> omega), by first | exact ks_wt e_m27 | exact ks_r _⟩⟩
