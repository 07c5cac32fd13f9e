def vaC (m : Mm) (w : Int) : Int := rd m 12 (Int.toNat w)
/-- the pile, its top first -/
def stk (m : Mm) : List Int → Prop
  | [] => True
  | x :: st => rd m 15 st.length = x ∧ stk m st
theorem stk_fr {m m2 : Mm} : ∀ {st : List Int}, (∀ j : Nat, j < st.length → rd m2 15 j = rd m 15 j) → stk m st → stk m2 st
  | [], _, _ => trivial
  | x :: st, f, h => ⟨(f st.length (by simp)).trans h.1, stk_fr (fun j q => f j (by simp; omega)) h.2⟩
/-- a law under way: where its next code stands, what is on the pile, what it will answer -/
def lvI (va : Int → Int) (m : Mm) (V nx h : Int) : Prop := 0 ≤ nx ∧ ∃ st : List Int, h = (st.length : Int) ∧ stk m st ∧ ((∃ (L C : Rp) (r : List (Rp × Rp × Rp)) (L2 : Rp) (q : Int), sgC m 13 nx (L ++ [(3, q)] ++ C ++ [(2, 0)] ++ lc q r L2) ∧ q = nx + (L.length + C.length + 2) ∧ nx + ((L ++ [(3, q)] ++ C ++ [(2, 0)] ++ lc q r L2).length : Int) ≤ rd m 11 4 ∧ wf 16 (st.length : Int) L 2 ∧ wf 16 0 C 1 ∧ (∀ x, x ∈ r → wfT x) ∧ wf 15 0 L2 1 ∧ (0 ≤ q ∧ q ≤ 420) ∧ V = rvT va L st C r L2) ∨ ∃ (L X : Rp), sgC m 13 nx (L ++ [(2, 0)] ++ X) ∧ nx + (L.length + 1) ≤ rd m 11 4 ∧ wf 16 (st.length : Int) L 1 ∧ V = rvC va L st)
theorem lv_l {va : Int → Int} {m : Mm} {nx : Int} {R : List (Rp × Rp × Rp)} {L : Rp} (h0 : 0 ≤ nx) (sz : rd m 11 4 ≤ 420) (le : nx + ((lc nx R L).length : Int) ≤ rd m 11 4) (g : sgC m 13 nx (lc nx R L)) (w : wfE (R, L)) : lvI va m (lval va R L) nx 0 := by
  cases R with
  | nil =>
    refine ⟨h0, [], rfl, trivial, Or.inr ⟨L, [], ?_, ?_, wf_mono (by decide) w.2, rfl⟩⟩
    · rw [List.append_nil]; exact g
    · have n : ((lc nx [] L).length : Int) = L.length + 1 := by unfold lc; simp [lcp]
      omega
  | cons x r =>
    have e : lc nx (x :: r) L = (x.1 ++ x.2.1) ++ [(3, nxt nx x)] ++ x.2.2 ++ [(2, 0)] ++ lc (nxt nx x) r L := by
      show (tco nx x ++ lcp (nxt nx x) r) ++ L ++ [(2, 0)] = _
      unfold tco lc
      simp
    rw [e] at g le
    have wx := w.1 x List.mem_cons_self
    have q : nxt nx x = nx + ((x.1 ++ x.2.1).length + x.2.2.length + 2) := by unfold nxt; simp
    have nn : (((x.1 ++ x.2.1) ++ [(3, nxt nx x)] ++ x.2.2 ++ [(2, 0)] ++ lc (nxt nx x) r L).length : Int) = ((x.1 ++ x.2.1).length : Int) + x.2.2.length + 2 + (lc (nxt nx x) r L).length := by simp; omega
    refine ⟨h0, [], rfl, trivial, Or.inl ⟨x.1 ++ x.2.1, x.2.2, r, L, nxt nx x, g, q, le, wf_app (wf_mono (by decide) wx.1) (wf_sh wx.2.1), wf_mono (by decide) wx.2.2, fun y hy => w.1 y (List.mem_cons_of_mem _ hy), w.2, by omega, rfl⟩⟩
theorem lv_0 {m : Mm} {E : Int → List (Rp × Rp × Rp) × Rp} {x1 z2 : Int} (h : LSd m 11 E) (p : 0 ≤ x1 ∧ x1 ≤ 3) (ez : z2 = rd m 14 (Int.toNat x1)) (sz : 0 ≤ rd m 11 4 ∧ rd m 11 4 ≤ 420) : lvI (vaC m) m (lval (vaC m) (E x1).1 (E x1).2) z2 0 := by
  obtain ⟨w, a, b, c⟩ := h x1 p.1 (by omega)
  subst ez
  exact lv_l a sz.2 b c w
theorem lv_ll {va : Int → Int} {m : Mm} {V nx h : Int} (H : lvI va m V nx h) : 0 ≤ nx ∧ nx < rd m 11 4 := by
  obtain ⟨h0, st, -, -, ⟨L, C, r, L2, q, -, -, le, -⟩ | ⟨L, X, -, le, -⟩⟩ := H
  · have nn : ((L ++ [(3, q)] ++ C ++ [(2, 0)] ++ lc q r L2).length : Int) = (L.length : Int) + C.length + 2 + (lc q r L2).length := by simp; omega
    omega
  · omega
/-- the first code -/
theorem lv_c {va : Int → Int} {m : Mm} {V nx h X : Int} (H : lvI va m V nx h) (eX : rd m 13 (Int.toNat nx) = X) : (X % 8 < 2 ∧ 0 ≤ h ∧ h + 1 ≤ 16) ∨ (X % 8 = 3 ∧ h = 2) ∨ (X % 8 = 2 ∧ h = 1) ∨ (4 ≤ X % 8 ∧ 2 ≤ h) := by
  obtain ⟨h0, st, eh, hs, ⟨L, C, r, L2, q, g, eq, le, wL, wC, wr_, w2, qb, eV⟩ | ⟨L, Z, g, le, wL, eV⟩⟩ := H
  · cases L with
    | nil =>
      have g1 : rd m 13 (Int.toNat nx) = q * 8 + 3 := g.1
      have e2 : (2 : Int) = (st.length : Int) := wL
      exact Or.inr (Or.inl ⟨by omega, by omega⟩)
    | cons x L =>
      have g1 : rd m 13 (Int.toNat nx) = x.2 * 8 + x.1 := g.1
      rcases (wf_c wL).2 with ⟨c, c0, hh, -⟩ | ⟨c, -, hh, -⟩
      · exact Or.inl ⟨by omega, by omega, by omega⟩
      · exact Or.inr (Or.inr (Or.inr ⟨by omega, by omega⟩))
  · cases L with
    | nil =>
      have g1 : rd m 13 (Int.toNat nx) = 0 * 8 + 2 := g.1
      have e2 : (1 : Int) = (st.length : Int) := wL
      exact Or.inr (Or.inr (Or.inl ⟨by omega, by omega⟩))
    | cons x L =>
      have g1 : rd m 13 (Int.toNat nx) = x.2 * 8 + x.1 := g.1
      rcases (wf_c wL).2 with ⟨c, c0, hh, -⟩ | ⟨c, -, hh, -⟩
      · exact Or.inl ⟨by omega, by omega, by omega⟩
      · exact Or.inr (Or.inr (Or.inr ⟨by omega, by omega⟩))
theorem lv_h {va : Int → Int} {m : Mm} {V nx h X : Int} (H : lvI va m V nx h) (eX : rd m 13 (Int.toNat nx) = X) : (X % 8 < 2 → h < 24) ∧ (2 < X % 8 → 2 ≤ h) := by
  have := lv_c H eX
  omega
theorem lv_push {va : Int → Int} {m m2 : Mm} {V nx h X s nx2 h2 : Int} (H : lvI va m V nx h) (eX : rd m 13 (Int.toNat nx) = X) (c : X % 8 < 2) (hs : s = if X % 8 = 0 then X / 8 else va (X / 8)) (rs : rg s) (e : m2 = wt m 15 (Int.toNat h) s) (e1 : nx2 = nx + 1) (e2 : h2 = h + 1) : lvI va m2 V nx2 h2 := by
  obtain ⟨h0, st, eh, hk, D⟩ := H
  have f : ∀ i j : Nat, ¬ i = 15 → rd m2 i j = rd m i j := fun i j q => by rw [e, rd_wt, if_neg (by omega)]
  have n1 : ((s :: st).length : Int) = st.length + 1 := by simp
  have k2 : stk m2 (s :: st) := ⟨by rw [e, show Int.toNat h = st.length by omega, rd_wt, if_pos ⟨rfl, rfl⟩, wr_i rs], stk_fr (fun j q => by rw [e, rd_wt, if_neg (by omega)]) hk⟩
  subst e1; subst e2
  have e4 := f 11 4 (by decide)
  refine ⟨by omega, s :: st, by omega, k2, ?_⟩
  rcases D with ⟨L, C, r, L2, q, g, eq, le, wL, wC, wr_, w2, qb, eV⟩ | ⟨L, Z, g, le, wL, eV⟩
  · cases L with
    | nil =>
      have g1 : rd m 13 (Int.toNat nx) = q * 8 + 3 := g.1
      omega
    | cons x L =>
      have g1 : rd m 13 (Int.toNat nx) = x.2 * 8 + x.1 := g.1
      rcases (wf_c wL).2 with ⟨c2, c0, hh, -, w⟩ | ⟨c2, -⟩
      · have sv : s = (if x.1 = 0 then x.2 else va x.2) := by rw [hs, show X % 8 = x.1 by omega, show X / 8 = x.2 by omega]
        have nl : ((x :: L).length : Int) = L.length + 1 := by simp
        have nn : (((x :: L) ++ [(3, q)] ++ C ++ [(2, 0)] ++ lc q r L2).length : Int) = ((L ++ [(3, q)] ++ C ++ [(2, 0)] ++ lc q r L2).length : Int) + 1 := by simp
        refine Or.inl ⟨L, C, r, L2, q, sg_fr (by omega) (fun j _ _ => f 13 j (by decide)) g.2, by omega, by omega, by rw [n1]; exact w, wC, wr_, w2, qb, ?_⟩
        rw [eV, rvT_p c2, sv]
      · omega
  · cases L with
    | nil =>
      have g1 : rd m 13 (Int.toNat nx) = 0 * 8 + 2 := g.1
      omega
    | cons x L =>
      have g1 : rd m 13 (Int.toNat nx) = x.2 * 8 + x.1 := g.1
      rcases (wf_c wL).2 with ⟨c2, c0, hh, -, w⟩ | ⟨c2, -⟩
      · have sv : s = (if x.1 = 0 then x.2 else va x.2) := by rw [hs, show X % 8 = x.1 by omega, show X / 8 = x.2 by omega]
        have nl : ((x :: L).length : Int) = L.length + 1 := by simp
        refine Or.inr ⟨L, Z, sg_fr (by omega) (fun j _ _ => f 13 j (by decide)) g.2, by omega, by rw [n1]; exact w, ?_⟩
        rw [eV, rvC_p c2, sv]
      · omega
theorem stk_2 {m : Mm} {st : List Int} {h z7 z8 : Int} (hk : stk m st) (eh : h = (st.length : Int)) (h2 : 2 ≤ h) (e7 : z7 = rd m 15 (Int.toNat (h - 2))) (e8 : z8 = rd m 15 (Int.toNat (h - 1))) : ∃ t : List Int, st = z8 :: z7 :: t ∧ h = (t.length : Int) + 2 ∧ stk m t := by
  match st, hk, eh with
  | [], _, eh => exact absurd eh (by simp; omega)
  | [_], _, eh => exact absurd eh (by simp; omega)
  | b :: a :: t, hk, eh =>
    have n : ((b :: a :: t).length : Int) = t.length + 2 := by simp; omega
    have k1 : rd m 15 (a :: t).length = b := hk.1
    have k2 : rd m 15 t.length = a := hk.2.1
    have n2 : (a :: t).length = t.length + 1 := by simp
    refine ⟨t, ?_, by omega, hk.2.2⟩
    rw [e7, e8, show Int.toNat (h - 2) = t.length by omega, show Int.toNat (h - 1) = t.length + 1 by omega, ← n2, k1, k2]
theorem lv_op {va : Int → Int} {m m2 : Mm} {V nx h X c z7 z8 s nx2 h2 : Int} (H : lvI va m V nx h) (eX : rd m 13 (Int.toNat nx) = X) (ec : c = X % 8) (c4 : 4 ≤ c) (e7 : z7 = rd m 15 (Int.toNat (h - 2))) (e8 : z8 = rd m 15 (Int.toNat (h - 1))) (nz_ : ¬ (c = 7 ∧ z8 = 0)) (hs : s = ap c z7 z8) (rs : rg s) (e : m2 = wt m 15 (Int.toNat (h - 2)) s) (e1 : nx2 = nx + 1) (e2 : h2 = h - 1) : lvI va m2 V nx2 h2 := by
  have hc := lv_c H eX
  obtain ⟨h0, st, eh, hk, D⟩ := H
  obtain ⟨t, est, et, kt⟩ := stk_2 hk eh (by omega) e7 e8
  subst est
  have f : ∀ i j : Nat, ¬ i = 15 → rd m2 i j = rd m i j := fun i j q => by rw [e, rd_wt, if_neg (by omega)]
  have n1 : ((s :: t).length : Int) = t.length + 1 := by simp
  have n2 : ((z8 :: z7 :: t).length : Int) - 1 = t.length + 1 := by simp
  have k2 : stk m2 (s :: t) := ⟨by rw [e, show Int.toNat (h - 2) = t.length by omega, rd_wt, if_pos ⟨rfl, rfl⟩, wr_i rs], stk_fr (fun j q => by rw [e, rd_wt, if_neg (by omega)]) kt⟩
  subst e1; subst e2
  have e4 := f 11 4 (by decide)
  refine ⟨by omega, s :: t, by omega, k2, ?_⟩
  rcases D with ⟨L, C, r, L2, q, g, eq, le, wL, wC, wr_, w2, qb, eV⟩ | ⟨L, Z, g, le, wL, eV⟩
  · cases L with
    | nil =>
      have g1 : rd m 13 (Int.toNat nx) = q * 8 + 3 := g.1
      omega
    | cons x L =>
      have g1 : rd m 13 (Int.toNat nx) = x.2 * 8 + x.1 := g.1
      rcases (wf_c wL).2 with ⟨c2, c0, -⟩ | ⟨c2, x0, hh, w⟩
      · omega
      · have xc : x.1 = c := by omega
        have nl : ((x :: L).length : Int) = L.length + 1 := by simp
        have nn : (((x :: L) ++ [(3, q)] ++ C ++ [(2, 0)] ++ lc q r L2).length : Int) = ((L ++ [(3, q)] ++ C ++ [(2, 0)] ++ lc q r L2).length : Int) + 1 := by simp
        refine Or.inl ⟨L, C, r, L2, q, sg_fr (by omega) (fun j _ _ => f 13 j (by decide)) g.2, by omega, by omega, by rw [n1, ← n2]; exact w, wC, wr_, w2, qb, ?_⟩
        rw [eV, rvT_o (by omega) (by rw [xc]; exact nz_), xc, hs]
  · cases L with
    | nil =>
      have g1 : rd m 13 (Int.toNat nx) = 0 * 8 + 2 := g.1
      omega
    | cons x L =>
      have g1 : rd m 13 (Int.toNat nx) = x.2 * 8 + x.1 := g.1
      rcases (wf_c wL).2 with ⟨c2, c0, -⟩ | ⟨c2, x0, hh, w⟩
      · omega
      · have xc : x.1 = c := by omega
        have nl : ((x :: L).length : Int) = L.length + 1 := by simp
        refine Or.inr ⟨L, Z, sg_fr (by omega) (fun j _ _ => f 13 j (by decide)) g.2, by omega, by rw [n1, ← n2]; exact w, ?_⟩
        rw [eV, rvC_o (by omega) (by rw [xc]; exact nz_), xc, hs]
theorem lv_z {va : Int → Int} {m : Mm} {V nx h X z8 : Int} (H : lvI va m V nx h) (eX : rd m 13 (Int.toNat nx) = X) (c7 : X % 8 = 7) (e8 : z8 = rd m 15 (Int.toNat (h - 1))) (z0 : z8 = 0) : V = 0 := by
  have hc := lv_c H eX
  obtain ⟨h0, st, eh, hk, D⟩ := H
  obtain ⟨t, est, et, kt⟩ := stk_2 hk eh (by omega) rfl e8
  rcases D with ⟨L, C, r, L2, q, g, eq, le, wL, wC, wr_, w2, qb, eV⟩ | ⟨L, Z, g, le, wL, eV⟩
  · cases L with
    | nil =>
      have g1 : rd m 13 (Int.toNat nx) = q * 8 + 3 := g.1
      omega
    | cons x L =>
      have g1 : rd m 13 (Int.toNat nx) = x.2 * 8 + x.1 := g.1
      have xc : x.1 = 7 := by
        rcases (wf_c wL).2 with ⟨c2, c0, -⟩ | ⟨c2, -⟩ <;> omega
      rw [eV, est, rvT_z (by omega) ⟨xc, z0⟩]
  · cases L with
    | nil =>
      have g1 : rd m 13 (Int.toNat nx) = 0 * 8 + 2 := g.1
      omega
    | cons x L =>
      have g1 : rd m 13 (Int.toNat nx) = x.2 * 8 + x.1 := g.1
      have xc : x.1 = 7 := by
        rcases (wf_c wL).2 with ⟨c2, c0, -⟩ | ⟨c2, -⟩ <;> omega
      rw [eV, est, rvC_z (by omega) ⟨xc, z0⟩]
theorem lv_jump {va : Int → Int} {m : Mm} {V nx h X z7 z8 s h2 : Int} (H : lvI va m V nx h) (eX : rd m 13 (Int.toNat nx) = X) (c3 : X % 8 = 3) (e7 : z7 = rd m 15 (Int.toNat (h - 2))) (e8 : z8 = rd m 15 (Int.toNat (h - 1))) (hs : (z8 ≤ z7 ∧ s = X / 8) ∨ (¬ z8 ≤ z7 ∧ s = nx + 1)) (e2 : h2 = h - 2) (sz : rd m 11 4 ≤ 420) : lvI va m V s h2 ∧ nx + 1 ≤ s := by
  have hc := lv_c H eX
  obtain ⟨h0, st, eh, hk, D⟩ := H
  obtain ⟨t, est, et, kt⟩ := stk_2 hk eh (by omega) e7 e8
  rcases D with ⟨L, C, r, L2, q, g, eq, le, wL, wC, wr_, w2, qb, eV⟩ | ⟨L, Z, g, le, wL, eV⟩
  · cases L with
    | cons x L =>
      have g1 : rd m 13 (Int.toNat nx) = x.2 * 8 + x.1 := g.1
      rcases (wf_c wL).2 with ⟨c2, c0, -⟩ | ⟨c2, -⟩ <;> omega
    | nil =>
      have g1 : rd m 13 (Int.toNat nx) = q * 8 + 3 := g.1
      have e3 : (2 : Int) = (st.length : Int) := wL
      have t0 : t = [] := by
        cases t with
        | nil => rfl
        | cons _ _ => exact absurd et (by simp; omega)
      subst t0
      have g2 : sgC m 13 (nx + 1) (C ++ [(2, 0)] ++ lc q r L2) := g.2
      have nn : ((([] : Rp) ++ [(3, q)] ++ C ++ [(2, 0)] ++ lc q r L2).length : Int) = 1 + (C.length + 1) + (lc q r L2).length := by simp; omega
      have nl : ((([] : Rp)).length : Int) = 0 := rfl
      have V2 : V = if z7 < z8 then rvC va C [] else lval va r L2 := by rw [eV, est]; rfl
      rcases hs with ⟨c, es⟩ | ⟨c, es⟩
      · have sq : s = q := by omega
        rw [if_neg (by omega)] at V2
        rw [V2, sq, show h2 = 0 by omega]
        have nc : ((C ++ [(2, 0)]).length : Int) = C.length + 1 := by simp
        have g3 := (sg_app.mp g2).2
        rw [nc, show nx + 1 + (C.length + 1 : Int) = q by omega] at g3
        exact ⟨lv_l qb.1 sz (by omega) g3 ⟨wr_, w2⟩, by omega⟩
      · rw [if_pos (by omega)] at V2
        subst es
        exact ⟨⟨by omega, [], by omega, trivial, Or.inr ⟨C, lc q r L2, g2, by omega, wC, V2⟩⟩, Int.le_refl _⟩
  · cases L with
    | cons x L =>
      have g1 : rd m 13 (Int.toNat nx) = x.2 * 8 + x.1 := g.1
      rcases (wf_c wL).2 with ⟨c2, c0, -⟩ | ⟨c2, -⟩ <;> omega
    | nil =>
      have g1 : rd m 13 (Int.toNat nx) = 0 * 8 + 2 := g.1
      omega
theorem lv_2 {va : Int → Int} {m : Mm} {V nx h X s : Int} (H : lvI va m V nx h) (eX : rd m 13 (Int.toNat nx) = X) (c2 : X % 8 = 2) (hs : (h ≤ 0 ∧ s = 0) ∨ (0 < h ∧ s = rd m 15 (Int.toNat (h - 1)))) : s = V := by
  obtain ⟨h0, st, eh, hk, D⟩ := H
  rcases D with ⟨L, C, r, L2, q, g, eq, le, wL, wC, wr_, w2, qb, eV⟩ | ⟨L, Z, g, le, wL, eV⟩
  · cases L with
    | cons x L =>
      have g1 : rd m 13 (Int.toNat nx) = x.2 * 8 + x.1 := g.1
      rcases (wf_c wL).2 with ⟨c2, c0, -⟩ | ⟨c2, -⟩ <;> omega
    | nil =>
      have g1 : rd m 13 (Int.toNat nx) = q * 8 + 3 := g.1
      omega
  · cases L with
    | cons x L =>
      have g1 : rd m 13 (Int.toNat nx) = x.2 * 8 + x.1 := g.1
      rcases (wf_c wL).2 with ⟨c2, c0, -⟩ | ⟨c2, -⟩ <;> omega
    | nil =>
      have e3 : (1 : Int) = (st.length : Int) := wL
      match st, hk, eh, e3, eV with
      | [], _, _, e3, _ => exact absurd e3 (by simp)
      | [w], hk, eh, _, eV =>
        have k1 : rd m 15 0 = w := hk.1
        have h1 : h = 1 := eh
        rcases hs with ⟨q, -⟩ | ⟨-, q⟩
        · omega
        · rw [eV, q, h1]; exact k1
      | _ :: _ :: _, _, _, e3, _ => exact absurd e3 (by simp; omega)
-- TippedCrates$Laws.answer(I)I
set_option maxRecDepth 20000 in
theorem ey_18 {m : Mm} {a : Nat} {x1 : Int}  (T_m : Ty m) (h_a : isLw a) (r_x1 : rg x1) (p0 : a = 11) (p1 : 0 ≤ x1 ∧ x1 ≤ 3) (p2 : lwOk m 11) (p3 : ∃ E, LSd m 11 E) : CK 1 18 [.ref a, iv x1] m (fun m2 v => GX s15 m m2 ∧ ((True) ∧ (∀ E, LSd m 11 E → v = (lval (vaC m) (E x1).1 (E x1).2)))) := by
  refine br_18 h_a r_x1 ?_
  unfold P_18
  have g_m : GX s15 m m := ⟨T_m, fun _ _ _ => rfl, fun _ _ => rfl⟩
  refine ⟨⟨by omega, by omega⟩, ?_⟩
  have t1 := ty_lw3 T_m h_a (Int.toNat x1)
  intro z2_6 e_z2_6
  have r_z2_6 : rg z2_6 := by rw [e_z2_6]; exact (rd_rg _ _ _)
  refine ⟨fun x2_12 x3_12 x4_12 m_12 => GX s15 m m_12 ∧ (((0 ≤ x2_12 ∧ x2_12 ≤ 10000) ∧ 0 ≤ x3_12 ∧ x3_12 ≤ 24 ∧ 0 ≤ x4_12 ∧ x4_12 ≤ 420) ∧ (x4_12 ≤ x2_12 ∧ ∀ E, LSd m 11 E → lvI (vaC m) m_12 (lval (vaC m) (E x1).1 (E x1).2) x2_12 x3_12)), fun x2_12 x3_12 x4_12 m_12 => Int.toNat (421 - x4_12), ?_, ?_⟩
  · exact ⟨g_m, by exact ⟨by first | omega | (refine ⟨?_, ?_⟩ <;> omega) | trivial, by exact ⟨by omega, fun E h => lv_0 h p1 (by rw [e_z2_6, p0]) (by have q := ty_lw4 T_m h_a; rw [p0] at q; exact q)⟩⟩⟩
  · intro x2_12 x3_12 x4_12 m_12 r_x2_12 r_x3_12 r_x4_12 hI_12
    obtain ⟨g_m_12, hI_12⟩ := hI_12
    obtain ⟨hI_12, dI_12⟩ := hI_12
    have ts := ty_lw4 g_m_12.1 h_a
    have hv := lwOk_at g_m_12 p0 p2 x2_12
    have kz : rd m_12 a 4 = rd m_12 11 4 := by rw [p0]
    have kc : rd m_12 (a + 2) (Int.toNat x2_12) = rd m_12 13 (Int.toNat x2_12) := by rw [p0]
    have kv : ∀ w : Int, rd m_12 (a + 1) (Int.toNat w) = vaC m w := fun w => by rw [p0]; exact g_m_12.2.1 12 _ rfl
    refine ⟨rd m_12 a 4 ≤ x4_12 ∨ rd m_12 a 4 ≤ x2_12, ?_, ?_⟩
    · skip
      refine ⟨fun hq => ?_, fun hq => ?_⟩
      · skip
        (first | trivial | omega | (refine ⟨?_, ?_⟩ <;> omega))
      · skip
        refine ⟨fun hq => ?_, fun hq => ?_⟩
        · skip
          (first | trivial | omega | (refine ⟨?_, ?_⟩ <;> omega))
        · skip
          refine ⟨⟨by omega, by omega⟩, ?_⟩
          have t3 := ty_lw2 g_m_12.1 h_a (Int.toNat x2_12)
          try have q4 : rmI (rd m_12 (a + 2) (Int.toNat x2_12)) 8 = (rd m_12 (a + 2) (Int.toNat x2_12)) % 8 := rm_eq (by omega) (by omega) (by omega) (by omega)
          intro z5_38 e_z5_38
          have r_z5_38 : rg z5_38 := by rw [e_z5_38]; exact (io_rg _ _ _)
          refine ⟨⟨by omega, by omega⟩, ?_⟩
          try have q5 : dvI (rd m_12 (a + 2) (Int.toNat x2_12)) 8 = (rd m_12 (a + 2) (Int.toNat x2_12)) / 8 := dv_eq (by omega) (by omega) (by omega) (by omega)
          intro z6_49 e_z6_49
          have r_z6_49 : rg z6_49 := by rw [e_z6_49]; exact (io_rg _ _ _)
          try have w6 : wr (x2_12 + 1) = x2_12 + 1 := wr_id (by omega) (by omega)
          intro z2_51 e_z2_51
          have r_z2_51 : rg z2_51 := by rw [e_z2_51]; exact wr_rg _
          refine ⟨fun hq => ?_, fun hq => ?_⟩
          · skip
            refine ⟨fun y2_244 y3_244 m_244 => GX s15 m m_244 ∧ (((0 ≤ y2_244 ∧ y2_244 ≤ 10000) ∧ 0 ≤ y3_244 ∧ y3_244 ≤ 24) ∧ (x4_12 + 1 ≤ y2_244 ∧ ∀ E, LSd m 11 E → lvI (vaC m) m_244 (lval (vaC m) (E x1).1 (E x1).2) y2_244 y3_244)), ?_, ?_⟩
            · skip
              refine ⟨fun hq => ?_, fun hq => ?_⟩
              · skip
                refine ⟨fun hq => ?_, fun hq => ?_⟩
                · skip
                  try have w7 : wr (x3_12 + (-1)) = x3_12 + (-1) := wr_id (by omega) (by omega)
                  intro z3_127 e_z3_127
                  have r_z3_127 : rg z3_127 := by rw [e_z3_127]; exact wr_rg _
                  try have w8 : wr (z3_127 - 1) = z3_127 - 1 := wr_id (by omega) (by omega)
                  refine ⟨⟨by omega, by omega⟩, ?_⟩
                  intro z7_138 e_z7_138
                  have r_z7_138 : rg z7_138 := by rw [e_z7_138]; exact (rd_rg _ _ _)
                  refine ⟨⟨by omega, by omega⟩, ?_⟩
                  intro z8_146 e_z8_146
                  have r_z8_146 : rg z8_146 := by rw [e_z8_146]; exact (rd_rg _ _ _)
                  refine ⟨fun hq => ?_, fun hq => ?_⟩
                  · skip
                    refine ⟨¬ z5_38 = 7 ∨ ¬ z8_146 = 0, ?_, ?_⟩
                    · skip
                      refine ⟨fun hq => ?_, fun hq => ?_⟩
                      · skip
                        (first | trivial | omega | (refine ⟨?_, ?_⟩ <;> omega))
                      · skip
                        refine ⟨fun hq => ?_, fun hq => ?_⟩
                        · skip
                          (first | trivial | omega | (refine ⟨?_, ?_⟩ <;> omega))
                        · skip
                          exact ⟨g_m_12, by exact ⟨by first | trivial | omega | (refine ⟨?_, ?_⟩ <;> omega), by first | exact fun E h => absurd (lv_ll (dI_12.2 E h)) (by omega) | exact fun E h => (lv_z (dI_12.2 E h) kc.symm (by omega) (z8 := z8_146) (by rw [e_z8_146, p0, show z3_127 = x3_12 - 1 by omega]) (by omega)).symm | exact fun E h => absurd (lv_h (dI_12.2 E h) kc.symm) (by omega) | exact fun E h => lv_2 (dI_12.2 E h) kc.symm (by omega) (by rcases hR_76 with q | q; exact Or.inl q; exact Or.inr ⟨q.1, by rw [q.2, p0]⟩)⟩⟩
                    · intro   hR_188
                      refine ⟨fun s2_243 => s2_243 = ap z5_38 z7_138 z8_146, ?_, ?_⟩
                      · skip
                        refine ⟨fun hq => ?_, fun hq => ?_⟩
                        · skip
                          refine ⟨fun hq => ?_, fun hq => ?_⟩
                          · skip
                            refine ⟨fun hq => ?_, fun hq => ?_⟩
                            · skip
                              refine ⟨by omega, ?_⟩
                              ((unfold ap; first | rw [if_pos (by omega)] | rw [if_neg (by omega), if_pos (by omega)] | rw [if_neg (by omega), if_neg (by omega), if_pos (by omega)] | rw [if_neg (by omega), if_neg (by omega), if_neg (by omega)]))
                            · skip
                              try have w11 : wr (z7_138 * z8_146) = z7_138 * z8_146 := wr_id (by omega) (by omega)
                              ((unfold ap; first | rw [if_pos (by omega)] | rw [if_neg (by omega), if_pos (by omega)] | rw [if_neg (by omega), if_neg (by omega), if_pos (by omega)] | rw [if_neg (by omega), if_neg (by omega), if_neg (by omega)]))
                          · skip
                            try have w12 : wr (z7_138 - z8_146) = z7_138 - z8_146 := wr_id (by omega) (by omega)
                            ((unfold ap; first | rw [if_pos (by omega)] | rw [if_neg (by omega), if_pos (by omega)] | rw [if_neg (by omega), if_neg (by omega), if_pos (by omega)] | rw [if_neg (by omega), if_neg (by omega), if_neg (by omega)]))
                        · skip
                          try have w13 : wr (z7_138 + z8_146) = z7_138 + z8_146 := wr_id (by omega) (by omega)
                          ((unfold ap; first | rw [if_pos (by omega)] | rw [if_neg (by omega), if_pos (by omega)] | rw [if_neg (by omega), if_neg (by omega), if_pos (by omega)] | rw [if_neg (by omega), if_neg (by omega), if_neg (by omega)]))
                      · intro s2_243 r_s2_243 hR_243
                        refine ⟨⟨by omega, by omega⟩, ?_⟩
                        intro m243 e_m243
                        have g_m243 : GX s15 m m243 := by rw [e_m243]; exact GX.wt g_m_12 (tw_lwr4 g_m_12.1 h_a (by first | assumption | omega)) (by rw [p0]; rfl)
                        exact ⟨g_m243, by exact ⟨by first | trivial | omega | (refine ⟨?_, ?_⟩ <;> omega), by first | exact ⟨by omega, fun E h => lv_push (dI_12.2 E h) kc.symm (by omega) (by rcases hR_113 with q | q; rw [if_pos (by omega), q.2]; omega; rw [if_neg (by omega), q.2, kv, show z6_49 = rd m_12 (a + 2) (Int.toNat x2_12) / 8 by omega]) r_s2_113 (by rw [e_m113, p0]) (by omega) (by omega)⟩ | exact ⟨by obtain ⟨E, h⟩ := p3; have l := lv_jump (dI_12.2 E h) kc.symm (by omega) (z7 := z7_138) (z8 := z8_146) (by rw [e_z7_138, p0, show wr (z3_127 - 1) = x3_12 - 2 by omega]) (by rw [e_z8_146, p0, show z3_127 = x3_12 - 1 by omega]) (s := s0_170) (by omega) (h2 := z3_154) (by omega) (by rw [← kz]; exact ts.2); have := l.2; omega, fun E h => (lv_jump (dI_12.2 E h) kc.symm (by omega) (z7 := z7_138) (z8 := z8_146) (by rw [e_z7_138, p0, show wr (z3_127 - 1) = x3_12 - 2 by omega]) (by rw [e_z8_146, p0, show z3_127 = x3_12 - 1 by omega]) (s := s0_170) (by omega) (h2 := z3_154) (by omega) (by rw [← kz]; exact ts.2)).1⟩ | exact ⟨by omega, fun E h => lv_op (dI_12.2 E h) kc.symm (c := z5_38) (by omega) (by omega) (z7 := z7_138) (z8 := z8_146) (by rw [e_z7_138, p0, show wr (z3_127 - 1) = x3_12 - 2 by omega]) (by rw [e_z8_146, p0, show z3_127 = x3_12 - 1 by omega]) (by omega) hR_243 r_s2_243 (by rw [e_m243, p0, show wr (z3_127 - 1) = x3_12 - 2 by omega]) (by omega) (by omega)⟩⟩⟩
                  · skip
                    try have w14 : wr (z3_127 + (-1)) = z3_127 + (-1) := wr_id (by omega) (by omega)
                    intro z3_154 e_z3_154
                    have r_z3_154 : rg z3_154 := by rw [e_z3_154]; exact wr_rg _
                    refine ⟨fun s0_170 => (0 ≤ s0_170 ∧ s0_170 ≤ 10000) ∧ ((z8_146 ≤ z7_138 ∧ s0_170 = z6_49) ∨ (¬ z8_146 ≤ z7_138 ∧ s0_170 = z2_51)), ?_, ?_⟩
                    · skip
                      refine ⟨fun hq => ?_, fun hq => ?_⟩
                      · skip
                        (first | trivial | omega | (refine ⟨?_, ?_⟩ <;> omega))
                      · skip
                        (first | trivial | omega | (refine ⟨?_, ?_⟩ <;> omega))
                    · intro s0_170 r_s0_170 hR_170
                      exact ⟨g_m_12, by exact ⟨by first | trivial | omega | (refine ⟨?_, ?_⟩ <;> omega), by first | exact ⟨by omega, fun E h => lv_push (dI_12.2 E h) kc.symm (by omega) (by rcases hR_113 with q | q; rw [if_pos (by omega), q.2]; omega; rw [if_neg (by omega), q.2, kv, show z6_49 = rd m_12 (a + 2) (Int.toNat x2_12) / 8 by omega]) r_s2_113 (by rw [e_m113, p0]) (by omega) (by omega)⟩ | exact ⟨by obtain ⟨E, h⟩ := p3; have l := lv_jump (dI_12.2 E h) kc.symm (by omega) (z7 := z7_138) (z8 := z8_146) (by rw [e_z7_138, p0, show wr (z3_127 - 1) = x3_12 - 2 by omega]) (by rw [e_z8_146, p0, show z3_127 = x3_12 - 1 by omega]) (s := s0_170) (by omega) (h2 := z3_154) (by omega) (by rw [← kz]; exact ts.2); have := l.2; omega, fun E h => (lv_jump (dI_12.2 E h) kc.symm (by omega) (z7 := z7_138) (z8 := z8_146) (by rw [e_z7_138, p0, show wr (z3_127 - 1) = x3_12 - 2 by omega]) (by rw [e_z8_146, p0, show z3_127 = x3_12 - 1 by omega]) (s := s0_170) (by omega) (h2 := z3_154) (by omega) (by rw [← kz]; exact ts.2)).1⟩ | exact ⟨by omega, fun E h => lv_op (dI_12.2 E h) kc.symm (c := z5_38) (by omega) (by omega) (z7 := z7_138) (z8 := z8_146) (by rw [e_z7_138, p0, show wr (z3_127 - 1) = x3_12 - 2 by omega]) (by rw [e_z8_146, p0, show z3_127 = x3_12 - 1 by omega]) (by omega) hR_243 r_s2_243 (by rw [e_m243, p0, show wr (z3_127 - 1) = x3_12 - 2 by omega]) (by omega) (by omega)⟩⟩⟩
                · skip
                  exact ⟨g_m_12, by exact ⟨by first | trivial | omega | (refine ⟨?_, ?_⟩ <;> omega), by first | exact fun E h => absurd (lv_ll (dI_12.2 E h)) (by omega) | exact fun E h => (lv_z (dI_12.2 E h) kc.symm (by omega) (z8 := z8_146) (by rw [e_z8_146, p0, show z3_127 = x3_12 - 1 by omega]) (by omega)).symm | exact fun E h => absurd (lv_h (dI_12.2 E h) kc.symm) (by omega) | exact fun E h => lv_2 (dI_12.2 E h) kc.symm (by omega) (by rcases hR_76 with q | q; exact Or.inl q; exact Or.inr ⟨q.1, by rw [q.2, p0]⟩)⟩⟩
              · skip
                refine ⟨fun hq => ?_, fun hq => ?_⟩
                · skip
                  refine ⟨fun s2_113 => (z5_38 = 0 ∧ s2_113 = z6_49) ∨ (¬ z5_38 = 0 ∧ s2_113 = rd m_12 (a + 1) (Int.toNat z6_49)), ?_, ?_⟩
                  · skip
                    refine ⟨fun hq => ?_, fun hq => ?_⟩
                    · skip
                      refine ⟨⟨by omega, by omega⟩, ?_⟩
                      (first | exact Or.inl ⟨by omega, rfl⟩ | exact Or.inr ⟨by omega, rfl⟩)
                    · skip
                      (first | exact Or.inl ⟨by omega, rfl⟩ | exact Or.inr ⟨by omega, rfl⟩)
                  · intro s2_113 r_s2_113 hR_113
                    refine ⟨⟨by omega, by omega⟩, ?_⟩
                    intro m113 e_m113
                    have g_m113 : GX s15 m m113 := by rw [e_m113]; exact GX.wt g_m_12 (tw_lwr4 g_m_12.1 h_a (by first | assumption | omega)) (by rw [p0]; rfl)
                    try have w16 : wr (x3_12 + 1) = x3_12 + 1 := wr_id (by omega) (by omega)
                    intro z3_114 e_z3_114
                    have r_z3_114 : rg z3_114 := by rw [e_z3_114]; exact wr_rg _
                    exact ⟨g_m113, by exact ⟨by first | trivial | omega | (refine ⟨?_, ?_⟩ <;> omega), by first | exact ⟨by omega, fun E h => lv_push (dI_12.2 E h) kc.symm (by omega) (by rcases hR_113 with q | q; rw [if_pos (by omega), q.2]; omega; rw [if_neg (by omega), q.2, kv, show z6_49 = rd m_12 (a + 2) (Int.toNat x2_12) / 8 by omega]) r_s2_113 (by rw [e_m113, p0]) (by omega) (by omega)⟩ | exact ⟨by obtain ⟨E, h⟩ := p3; have l := lv_jump (dI_12.2 E h) kc.symm (by omega) (z7 := z7_138) (z8 := z8_146) (by rw [e_z7_138, p0, show wr (z3_127 - 1) = x3_12 - 2 by omega]) (by rw [e_z8_146, p0, show z3_127 = x3_12 - 1 by omega]) (s := s0_170) (by omega) (h2 := z3_154) (by omega) (by rw [← kz]; exact ts.2); have := l.2; omega, fun E h => (lv_jump (dI_12.2 E h) kc.symm (by omega) (z7 := z7_138) (z8 := z8_146) (by rw [e_z7_138, p0, show wr (z3_127 - 1) = x3_12 - 2 by omega]) (by rw [e_z8_146, p0, show z3_127 = x3_12 - 1 by omega]) (s := s0_170) (by omega) (h2 := z3_154) (by omega) (by rw [← kz]; exact ts.2)).1⟩ | exact ⟨by omega, fun E h => lv_op (dI_12.2 E h) kc.symm (c := z5_38) (by omega) (by omega) (z7 := z7_138) (z8 := z8_146) (by rw [e_z7_138, p0, show wr (z3_127 - 1) = x3_12 - 2 by omega]) (by rw [e_z8_146, p0, show z3_127 = x3_12 - 1 by omega]) (by omega) hR_243 r_s2_243 (by rw [e_m243, p0, show wr (z3_127 - 1) = x3_12 - 2 by omega]) (by omega) (by omega)⟩⟩⟩
                · skip
                  exact ⟨g_m_12, by exact ⟨by first | trivial | omega | (refine ⟨?_, ?_⟩ <;> omega), by first | exact fun E h => absurd (lv_ll (dI_12.2 E h)) (by omega) | exact fun E h => (lv_z (dI_12.2 E h) kc.symm (by omega) (z8 := z8_146) (by rw [e_z8_146, p0, show z3_127 = x3_12 - 1 by omega]) (by omega)).symm | exact fun E h => absurd (lv_h (dI_12.2 E h) kc.symm) (by omega) | exact fun E h => lv_2 (dI_12.2 E h) kc.symm (by omega) (by rcases hR_76 with q | q; exact Or.inl q; exact Or.inr ⟨q.1, by rw [q.2, p0]⟩)⟩⟩
            · intro y2_244 y3_244 m_244 r_y2_244 r_y3_244 hR_244
              obtain ⟨g_m_244, hR_244⟩ := hR_244
              obtain ⟨hR_244, dR_244⟩ := hR_244
              try have w17 : wr (x4_12 + 1) = x4_12 + 1 := wr_id (by omega) (by omega)
              intro z4_244 e_z4_244
              have r_z4_244 : rg z4_244 := by rw [e_z4_244]; exact wr_rg _
              exact ⟨⟨g_m_244, by exact ⟨by first | omega | (refine ⟨?_, ?_⟩ <;> omega) | trivial, by exact ⟨by omega, dR_244.2⟩⟩⟩, by (try dsimp only); omega⟩
          · skip
            refine ⟨fun s0_76 => (x3_12 ≤ 0 ∧ s0_76 = 0) ∨ (0 < x3_12 ∧ s0_76 = rd m_12 (a + 4) (Int.toNat (x3_12 - 1))), ?_, ?_⟩
            · skip
              refine ⟨fun hq => ?_, fun hq => ?_⟩
              · skip
                (first | exact Or.inl ⟨by omega, rfl⟩ | exact Or.inr ⟨by omega, by rw [wr_id (by omega) (by omega)]⟩)
              · skip
                try have w18 : wr (x3_12 - 1) = x3_12 - 1 := wr_id (by omega) (by omega)
                refine ⟨⟨by omega, by omega⟩, ?_⟩
                (first | exact Or.inl ⟨by omega, rfl⟩ | exact Or.inr ⟨by omega, by rw [wr_id (by omega) (by omega)]⟩)
            · intro s0_76 r_s0_76 hR_76
              exact ⟨g_m_12, by exact ⟨by first | trivial | omega | (refine ⟨?_, ?_⟩ <;> omega), by first | exact fun E h => absurd (lv_ll (dI_12.2 E h)) (by omega) | exact fun E h => (lv_z (dI_12.2 E h) kc.symm (by omega) (z8 := z8_146) (by rw [e_z8_146, p0, show z3_127 = x3_12 - 1 by omega]) (by omega)).symm | exact fun E h => absurd (lv_h (dI_12.2 E h) kc.symm) (by omega) | exact fun E h => lv_2 (dI_12.2 E h) kc.symm (by omega) (by rcases hR_76 with q | q; exact Or.inl q; exact Or.inr ⟨q.1, by rw [q.2, p0]⟩)⟩⟩
    · intro   hR_250
      exact ⟨g_m_12, by exact ⟨by first | trivial | omega | (refine ⟨?_, ?_⟩ <;> omega), by first | exact fun E h => absurd (lv_ll (dI_12.2 E h)) (by omega) | exact fun E h => (lv_z (dI_12.2 E h) kc.symm (by omega) (z8 := z8_146) (by rw [e_z8_146, p0, show z3_127 = x3_12 - 1 by omega]) (by omega)).symm | exact fun E h => absurd (lv_h (dI_12.2 E h) kc.symm) (by omega) | exact fun E h => lv_2 (dI_12.2 E h) kc.symm (by omega) (by rcases hR_76 with q | q; exact Or.inl q; exact Or.inr ⟨q.1, by rw [q.2, p0]⟩)⟩⟩
