def vaM (m : Mm) (w : Int) : Int := rd m 317 (Int.toNat w)
def stkM (m : Mm) : List Int → Prop
  | [] => True
  | x :: st => rd m 318 st.length = x ∧ stkM m st
theorem stkM_fr {m m2 : Mm} : ∀ {st : List Int}, (∀ j : Nat, j < st.length → rd m2 318 j = rd m 318 j) → stkM m st → stkM m2 st
  | [], _, _ => trivial
  | x :: st, f, h => ⟨(f st.length (by simp)).trans h.1, stkM_fr (fun j q => f j (by simp; omega)) h.2⟩
theorem stkM_2 {m : Mm} {st : List Int} {h z7 z8 : Int} (hk : stkM m st) (eh : h = (st.length : Int)) (h2 : 2 ≤ h) (e7 : z7 = rd m 318 (Int.toNat (h - 2))) (e8 : z8 = rd m 318 (Int.toNat (h - 1))) : ∃ t : List Int, st = z8 :: z7 :: t ∧ h = (t.length : Int) + 2 ∧ stkM m t := by
  match st, hk, eh with
  | [], _, eh => exact absurd eh (by simp; omega)
  | [_], _, eh => exact absurd eh (by simp; omega)
  | b :: a :: t, hk, eh =>
    have n : ((b :: a :: t).length : Int) = t.length + 2 := by simp; omega
    have k1 : rd m 318 (a :: t).length = b := hk.1
    have k2 : rd m 318 t.length = a := hk.2.1
    have n2 : (a :: t).length = t.length + 1 := by simp
    refine ⟨t, ?_, by omega, hk.2.2⟩
    rw [e7, e8, show Int.toNat (h - 2) = t.length by omega, show Int.toNat (h - 1) = t.length + 1 by omega, ← n2, k1, k2]
/-- a term under way, done -/
def ptI (va : Int → Int) (m0 m : Mm) (L : Rp) (h c x2 : Int) : Prop := ∃ (L1 : Rp) (st : List Int), 0 ≤ c ∧ sgM m c L1 ∧ x2 = c + (L1.length : Int) ∧ h = (st.length : Int) ∧ stkM m st ∧ wf 15 (st.length : Int) L1 1 ∧ ev va L [] = ev va L1 st ∧ rd m 284 51 = rd m0 284 51
def tmE (m m2 : Mm) (v : Int) (L : Rp) : Prop := (ev (vaM m) L [] = none ∧ rd m2 284 51 = 1) ∨ ∃ u, ev (vaM m) L [] = some [u] ∧ v = u ∧ rd m2 284 51 = rd m 284 51
theorem pt_0 {va : Int → Int} {m : Mm} {L : Rp} {x1 x2 : Int} (g : sgM m x1 L) (e : x2 = x1 + (L.length : Int)) (w : wf 15 0 L 1) (h0 : 0 ≤ x1) : ptI va m m L 0 x1 x2 := ⟨L, [], h0, g, e, rfl, trivial, w, rfl, rfl⟩
theorem mkc_lt {c : Int} (h : (c < 2 ∧ 0 ≤ c) ∨ (4 ≤ c ∧ c ≤ 7)) : (mkc c < 2 ↔ c < 2) ∧ (c < 2 → mkc c = c) ∧ (¬ c < 2 → mkc c = c - 2) := by
  unfold mkc
  split <;> omega
theorem pt_push {va : Int → Int} {m0 m m2 : Mm} {L : Rp} {h c x2 s h2 : Int} (H : ptI va m0 m L h c x2) (lt : c < x2) (k : rd m 314 (Int.toNat c) < 2) (hs : s = if rd m 314 (Int.toNat c) = 0 then rd m 315 (Int.toNat c) else va (rd m 315 (Int.toNat c))) (rs : rg s) (e : m2 = wt m 318 (Int.toNat h) s) (e2 : h2 = h + 1) : ptI va m0 m2 L h2 (c + 1) x2 := by
  obtain ⟨L1, st, h0, g, ex, eh, hk, w, eV, b⟩ := H
  have f : ∀ i j : Nat, ¬ i = 318 → rd m2 i j = rd m i j := fun i j q => by rw [e, rd_wt, if_neg (by omega)]
  cases L1 with
  | nil => exact absurd ex (by simp; omega)
  | cons x L1 =>
    obtain ⟨g1, g2, g3⟩ := g
    have nl : ((x :: L1).length : Int) = L1.length + 1 := by simp
    have n1 : ((s :: st).length : Int) = st.length + 1 := by simp
    rcases (wf_c w).2 with ⟨c2, c0, hh, -, w2⟩ | ⟨c2, -⟩
    · have mk := mkc_lt (Or.inl ⟨c2, c0⟩)
      have sv : s = (if x.1 = 0 then x.2 else va x.2) := by rw [hs, g1, g2, mk.2.1 c2]
      refine ⟨L1, s :: st, by omega, sgM_fr (by omega) (fun i j q _ _ => f i j (by omega)) g3, by omega, by omega, ⟨by rw [e, show Int.toNat h = st.length by omega, rd_wt, if_pos ⟨rfl, rfl⟩, wr_i rs], stkM_fr (fun j q => by rw [e, rd_wt, if_neg (by omega)]) hk⟩, by rw [n1]; exact w2, ?_, (f 284 51 (by decide)).trans b⟩
      rw [eV, ev_p c2, sv]
    · have mk := mkc_lt (Or.inr c2)
      omega
theorem pt_op {va : Int → Int} {m0 m m2 : Mm} {L : Rp} {h c x2 k z7 z8 s h2 : Int} (H : ptI va m0 m L h c x2) (lt : c < x2) (ek : k = rd m 314 (Int.toNat c)) (k2 : 2 ≤ k) (e7 : z7 = rd m 318 (Int.toNat (h - 2))) (e8 : z8 = rd m 318 (Int.toNat (h - 1))) (nz_ : ¬ (k = 5 ∧ z8 = 0)) (hs : s = ap (k + 2) z7 z8) (rs : rg s) (e : m2 = wt m 318 (Int.toNat (h - 2)) s) (e2 : h2 = h - 1) : ptI va m0 m2 L h2 (c + 1) x2 := by
  obtain ⟨L1, st, h0, g, ex, eh, hk, w, eV, b⟩ := H
  have f : ∀ i j : Nat, ¬ i = 318 → rd m2 i j = rd m i j := fun i j q => by rw [e, rd_wt, if_neg (by omega)]
  cases L1 with
  | nil => exact absurd ex (by simp; omega)
  | cons x L1 =>
    obtain ⟨g1, g2, g3⟩ := g
    have nl : ((x :: L1).length : Int) = L1.length + 1 := by simp
    rcases (wf_c w).2 with ⟨c2, c0, -⟩ | ⟨c2, x0, hh, w2⟩
    · have mk := mkc_lt (Or.inl ⟨c2, c0⟩)
      omega
    · have mk := mkc_lt (Or.inr c2)
      have xc : x.1 = k + 2 := by have := mk.2.2 (by omega); omega
      obtain ⟨t, est, et, kt⟩ := stkM_2 hk eh (by omega) e7 e8
      subst est
      have n1 : ((s :: t).length : Int) = t.length + 1 := by simp
      have n2 : ((z8 :: z7 :: t).length : Int) - 1 = t.length + 1 := by simp
      refine ⟨L1, s :: t, by omega, sgM_fr (by omega) (fun i j q _ _ => f i j (by omega)) g3, by omega, by omega, ⟨by rw [e, show Int.toNat (h - 2) = t.length by omega, rd_wt, if_pos ⟨rfl, rfl⟩, wr_i rs], stkM_fr (fun j q => by rw [e, rd_wt, if_neg (by omega)]) kt⟩, by rw [n1, ← n2]; exact w2, ?_, (f 284 51 (by decide)).trans b⟩
      rw [eV, ev_o (by omega) (by rw [xc]; omega), xc, hs]
theorem pt_z {m m5 m99 : Mm} {L : Rp} {h c x2 k z8 v : Int} (H : ptI (vaM m) m m5 L h c x2) (lt : c < x2) (ek : k = rd m5 314 (Int.toNat c)) (k5 : k = 5) (e8 : z8 = rd m5 318 (Int.toNat (h - 1))) (z0 : z8 = 0) (e : m99 = wt m5 284 51 1) : tmE m m99 v L := by
  obtain ⟨L1, st, h0, g, ex, eh, hk, w, eV, b⟩ := H
  cases L1 with
  | nil => exact absurd ex (by simp; omega)
  | cons x L1 =>
    obtain ⟨g1, g2, g3⟩ := g
    rcases (wf_c w).2 with ⟨c2, c0, -⟩ | ⟨c2, x0, hh, w2⟩
    · have mk := mkc_lt (Or.inl ⟨c2, c0⟩)
      omega
    · have mk := mkc_lt (Or.inr c2)
      have xc : x.1 = 7 := by have := mk.2.2 (by omega); omega
      obtain ⟨t, est, et, kt⟩ := stkM_2 hk eh (by omega) rfl e8
      exact Or.inl ⟨by rw [eV, est, ev_z (by omega) ⟨xc, z0⟩], by rw [e, rd_wt, if_pos ⟨rfl, rfl⟩]; rfl⟩
theorem pt_e {m m5 : Mm} {L : Rp} {h c x2 : Int} (H : ptI (vaM m) m m5 L h c x2) (ge : x2 ≤ c) : tmE m m5 (rd m5 318 0) L := by
  obtain ⟨L1, st, h0, g, ex, eh, hk, w, eV, b⟩ := H
  cases L1 with
  | cons x L1 => exact absurd ex (by simp; omega)
  | nil =>
    have e3 : (1 : Int) = (st.length : Int) := w
    match st, hk, e3, eV with
    | [], _, e3, _ => exact absurd e3 (by simp)
    | [u], hk, _, eV => exact Or.inr ⟨u, eV, hk.1, b⟩
    | _ :: _ :: _, _, e3, _ => exact absurd e3 (by simp; omega)
/-- the model's live laws are those of E -/
def LM (m : Mm) (E : Int → List (Rp × Rp × Rp) × Rp) : Prop := ∀ k : Int, 0 ≤ k → k < 4 → wfE (E k) ∧ ((rd m 307 (Int.toNat (4 * rd m 284 18 + k)) = rd m 308 (Int.toNat (4 * rd m 284 18 + k)) ∧ E k = dE k) ∨ (brL m (420 * rd m 284 18) (420 * rd m 284 18 + 420) (rd m 307 (Int.toNat (4 * rd m 284 18 + k))) (E k).1 (E k).2 (rd m 308 (Int.toNat (4 * rd m 284 18 + k))) ∧ (130 * rd m 284 18 ≤ rd m 307 (Int.toNat (4 * rd m 284 18 + k)) ∧ rd m 308 (Int.toNat (4 * rd m 284 18 + k)) ≤ 130 * rd m 284 18 + 130)))
def brI (m : Mm) (E : List (Rp × Rp × Rp) × Rp) (V b e : Int) : Prop := ∃ R : List (Rp × Rp × Rp), brL m (420 * rd m 284 18) (420 * rd m 284 18 + 420) b R E.2 e ∧ 0 ≤ b ∧ (∀ x, x ∈ R → wfT x) ∧ wf 15 0 E.2 1 ∧ V = lval (vaM m) R E.2
theorem br_0 {m : Mm} {E : Int → List (Rp × Rp × Rp) × Rp} {x1 b z : Int} (h : LM m E) (p : 0 ≤ x1 ∧ x1 ≤ 3) (ez : Int.toNat (4 * rd m 284 18 + x1) = Int.toNat z) (ne : ¬ rd m 307 (Int.toNat z) = rd m 308 (Int.toNat z)) (eb : b = rd m 307 (Int.toNat z)) (l : 0 ≤ rd m 284 18 ∧ rd m 284 18 ≤ 1) : brI m (E x1) (lval (vaM m) (E x1).1 (E x1).2) b (rd m 308 (Int.toNat z)) := by
  obtain ⟨w, q⟩ := h x1 p.1 (by omega)
  rw [ez] at q
  rcases q with q | ⟨q, r⟩
  · exact absurd q.1 ne
  · exact ⟨(E x1).1, by rw [eb]; exact q, by omega, w.1, w.2, rfl⟩
theorem br_n {m : Mm} {E : List (Rp × Rp × Rp) × Rp} {V b e : Int} (h : brI m E V b e) (le : e ≤ b) : 0 = V := by
  obtain ⟨R, B, -⟩ := h
  have := brL_lt B
  omega
theorem br_d {m : Mm} {E : Int → List (Rp × Rp × Rp) × Rp} {x1 : Int} (h : LM m E) (p : 0 ≤ x1 ∧ x1 ≤ 3) (eq : rd m 307 (Int.toNat (4 * rd m 284 18 + x1)) = rd m 308 (Int.toNat (4 * rd m 284 18 + x1))) : lval (vaM m) (E x1).1 (E x1).2 = dfl x1 := by
  obtain ⟨w, q⟩ := h x1 p.1 (by omega)
  rcases q with ⟨-, q⟩ | ⟨q, r⟩
  · rw [q]; rfl
  · have := brL_lt q
    omega
theorem br_l {m : Mm} {E : List (Rp × Rp × Rp) × Rp} {V b e : Int} (h : brI m E V b e) (z : rd m 309 (Int.toNat b) = 0) : ∃ C : Rp, sgM m (rd m 312 (Int.toNat b)) C ∧ rd m 313 (Int.toNat b) = rd m 312 (Int.toNat b) + (C.length : Int) ∧ wf 15 0 C 1 ∧ V = rvC (vaM m) C [] := by
  obtain ⟨R, B, -, wR, w2, eV⟩ := h
  cases R with
  | nil => exact ⟨E.2, B.2.2.2.1, B.2.2.2.2.1, w2, eV⟩
  | cons x r =>
    have := B.1.1
    omega
theorem sgM_V {S : Nat → Nat → Bool} {m m2 : Mm} {a : Int} {L : Rp} (g : GX S m m2) (h4 : ∀ j, S 314 j = false) (h5 : ∀ j, S 315 j = false) (ha : 0 ≤ a) (h : sgM m a L) : sgM m2 a L := sgM_fr ha (fun i j q _ _ => by
  rcases q with rfl | rfl
  · exact g.2.1 314 j (h4 j)
  · exact g.2.1 315 j (h5 j)) h
theorem ev_va {m m2 : Mm} (h : ∀ j, rd m2 317 j = rd m 317 j) : vaM m2 = vaM m := funext fun w => h _
theorem bq_t {m m39 m75 m95 : Mm} {E : List (Rp × Rp × Rp) × Rp} {V b e v75 v95 : Int} (h : brI m E V b e) (z : ¬ rd m 309 (Int.toNat b) = 0) (g39 : GX sV m m39) (z51 : rd m39 284 51 = 0) (k39 : ∀ j : Nat, rd m39 317 j = rd m 317 j) (h75 : ∀ L, sgM m39 (rd m39 310 (Int.toNat b)) L → rd m39 311 (Int.toNat b) = rd m39 310 (Int.toNat b) + (L.length : Int) → wf 15 0 L 1 → tmE m39 m75 v75 L) (g75 : GX sV m m75) (k75 : ∀ j : Nat, rd m75 317 j = rd m39 317 j) (h95 : ∀ L, sgM m75 (rd m75 311 (Int.toNat b)) L → rd m75 312 (Int.toNat b) = rd m75 311 (Int.toNat b) + (L.length : Int) → wf 15 0 L 1 → tmE m75 m95 v95 L) (lo : 0 ≤ rd m 310 (Int.toNat b) ∧ 0 ≤ rd m 311 (Int.toNat b)) :
    (rd m95 284 51 = 0 → v75 < v95 → ∃ C : Rp, sgM m (rd m 312 (Int.toNat b)) C ∧ rd m 313 (Int.toNat b) = rd m 312 (Int.toNat b) + (C.length : Int) ∧ wf 15 0 C 1 ∧ V = rvC (vaM m) C []) ∧ (rd m95 284 51 = 0 → ¬ v75 < v95 → brI m E V (b + 1) e) ∧ (¬ rd m95 284 51 = 0 → V = 0) := by
  obtain ⟨R, B, b0, wR, w2, eV⟩ := h
  cases R with
  | nil =>
    have := B.2.1
    omega
  | cons x r =>
    obtain ⟨⟨a1, a2, a3, a4, a5, a6, a7, a8, a9⟩, B2⟩ := B
    have wx := wR x List.mem_cons_self
    have ea := ev_va k39
    have eb : vaM m75 = vaM m := (ev_va k75).trans ea
    have t1 := h75 x.1 (by rw [g39.2.1 310 _ rfl]; exact sgM_V g39 (fun _ => rfl) (fun _ => rfl) (by omega) a3) (by rw [g39.2.1 310 _ rfl, g39.2.1 311 _ rfl]; exact a4) wx.1
    have t2 := h95 x.2.1 (by rw [g75.2.1 311 _ rfl]; exact sgM_V g75 (fun _ => rfl) (fun _ => rfl) (by omega) a5) (by rw [g75.2.1 311 _ rfl, g75.2.1 312 _ rfl]; exact a6) wx.2.1
    unfold tmE at t1 t2
    rw [ea] at t1
    rw [eb] at t2
    have two := ev_two (va := vaM m) wx.1 wx.2.1
    have V0 : ev (vaM m) (x.1 ++ x.2.1) [] = none → V = 0 := fun q => by
      rw [eV]
      show (match ev (vaM m) (x.1 ++ x.2.1) [] with | some [v, u] => if u < v then rvC (vaM m) x.2.2 [] else lval (vaM m) r E.2 | _ => 0) = 0
      rw [q]
    rcases two with ⟨two, or1⟩ | ⟨u, v, two, eA, eB⟩
    · have broke : ¬ rd m95 284 51 = 0 := by
        rcases or1 with q | q
        · rcases t1 with ⟨-, t1⟩ | ⟨u, t1, -⟩
          · rcases t2 with ⟨-, t2⟩ | ⟨u, -, -, t2⟩ <;> omega
          · rw [q] at t1; exact absurd t1 (by simp)
        · rcases t2 with ⟨-, t2⟩ | ⟨u, t2, -⟩
          · omega
          · rw [q] at t2; exact absurd t2 (by simp)
      exact ⟨fun q => absurd q broke, fun q => absurd q broke, fun _ => V0 two⟩
    · rcases t1 with ⟨t1, -⟩ | ⟨u1, t1, e1, f1⟩
      · rw [eA] at t1; exact absurd t1 (by simp)
      · rcases t2 with ⟨t2, -⟩ | ⟨u2, t2, e2, f2⟩
        · rw [eB] at t2; exact absurd t2 (by simp)
        · rw [eA] at t1
          rw [eB] at t2
          have q1 : u = u1 := by simpa using t1
          have q2 : v = u2 := by simpa using t2
          have V1 : V = if u < v then rvC (vaM m) x.2.2 [] else lval (vaM m) r E.2 := by
            rw [eV]
            show (match ev (vaM m) (x.1 ++ x.2.1) [] with | some [v, u] => if u < v then rvC (vaM m) x.2.2 [] else lval (vaM m) r E.2 | _ => 0) = _
            rw [two]
          refine ⟨fun _ c => ⟨x.2.2, a7, a8, wx.2.2, ?_⟩, fun _ c => ⟨r, B2, by omega, fun y hy => wR y (List.mem_cons_of_mem _ hy), w2, ?_⟩, fun q => absurd (by omega) q⟩
          · rw [V1, if_pos (by omega)]
          · rw [V1, if_neg (by omega)]
theorem bq_f {m m119 m134 : Mm} {V b v s : Int} (h : ∃ C : Rp, sgM m (rd m 312 (Int.toNat b)) C ∧ rd m 313 (Int.toNat b) = rd m 312 (Int.toNat b) + (C.length : Int) ∧ wf 15 0 C 1 ∧ V = rvC (vaM m) C []) (g : GX sV m m119) (z51 : rd m119 284 51 = 0) (k : ∀ j : Nat, rd m119 317 j = rd m 317 j) (h134 : ∀ L, sgM m119 (rd m119 312 (Int.toNat b)) L → rd m119 313 (Int.toNat b) = rd m119 312 (Int.toNat b) + (L.length : Int) → wf 15 0 L 1 → tmE m119 m134 v L) (hs : (rd m134 284 51 = 0 ∧ s = v) ∨ (¬ rd m134 284 51 = 0 ∧ s = 0)) (lo : 0 ≤ rd m 312 (Int.toNat b)) : s = V := by
  obtain ⟨C, c1, c2, c3, c4⟩ := h
  have t := h134 C (by rw [g.2.1 312 _ rfl]; exact sgM_V g (fun _ => rfl) (fun _ => rfl) lo c1) (by rw [g.2.1 312 _ rfl, g.2.1 313 _ rfl]; exact c2) c3
  unfold tmE at t
  rw [ev_va k] at t
  rw [c4]
  unfold rvC
  rcases t with ⟨t, f⟩ | ⟨u, t, e, f⟩
  · rw [t]
    show s = 0
    omega
  · rw [t]
    show s = u
    omega
-- TippedCratesModel.termOf(II)I
set_option maxRecDepth 20000 in
theorem mz_201 {m : Mm} {x1 : Int} {x2 : Int}  (T_m : Ty m) (r_x1 : rg x1) (r_x2 : rg x2) (p0 : segOk m x1 x2) : CK 1 201 [.ref 284, iv x1, iv x2] m (fun m2 v => GX sV m m2 ∧ ((True) ∧ ((∀ L, sgM m x1 L → x2 = x1 + (L.length : Int) → wf 15 0 L 1 → tmE m m2 v L) ∧ ∀ j : Nat, rd m2 317 j = rd m 317 j))) := by
  refine br_201 r_x1 r_x2 ?_
  unfold P_201
  have g_m : GX sV m m := ⟨T_m, fun _ _ _ => rfl, fun _ _ => rfl⟩
  obtain ⟨hb, H, h0, h1, hs⟩ := p0
  refine ⟨fun x3_5 x4_5 m_5 => GX sV m m_5 ∧ (((x1 ≤ x4_5 ∧ x4_5 ≤ x2) ∧ x3_5 = H (Int.toNat x4_5) ∧ 0 ≤ x3_5 ∧ x3_5 ≤ x4_5 - x1) ∧ ((∀ L, sgM m x1 L → x2 = x1 + (L.length : Int) → wf 15 0 L 1 → ptI (vaM m) m m_5 L x3_5 x4_5 x2) ∧ ∀ j : Nat, rd m_5 317 j = rd m 317 j)), fun x3_5 x4_5 m_5 => Int.toNat (x2 - x4_5), ?_, ?_⟩
  · exact ⟨g_m, by exact ⟨by first | omega | (refine ⟨?_, ?_⟩ <;> omega) | trivial, by exact ⟨fun L g e w => pt_0 g e w hb.1, fun _ => rfl⟩⟩⟩
  · intro x3_5 x4_5 m_5 r_x3_5 r_x4_5 hI_5
    obtain ⟨g_m_5, hI_5⟩ := hI_5
    obtain ⟨hI_5, dI_5⟩ := hI_5
    have hc := hs (Int.toNat x4_5)
    have f14 : rd m_5 314 (Int.toNat x4_5) = rd m 314 (Int.toNat x4_5) := g_m_5.2.1 314 _ rfl
    have f15 : rd m_5 315 (Int.toNat x4_5) = rd m 315 (Int.toNat x4_5) := g_m_5.2.1 315 _ rfl
    have e1 : x4_5 < x2 → Int.toNat (x4_5 + 1) = Int.toNat x4_5 + 1 := fun _ => by omega
    refine ⟨fun hq => ?_, fun hq => ?_⟩
    · skip
      exact ⟨g_m_5, by exact ⟨by first | trivial | omega | (refine ⟨?_, ?_⟩ <;> omega), by first | exact ⟨fun L g e w => pt_e (dI_5.1 L g e w) (by omega), dI_5.2⟩ | exact ⟨fun L g e w => pt_z (dI_5.1 L g e w) (by omega) e_z5_18 (by omega) (z8 := z7_84) (by rw [e_z7_84, show z3_65 = x3_5 - 1 by omega]) (by omega) e_m99, fun j => by rw [e_m99, rd_wt, if_neg (by omega)]; exact dI_5.2 j⟩⟩⟩
    · skip
      refine ⟨⟨by omega, by omega⟩, ?_⟩
      have t2 := ty_314 g_m_5.1 (Int.toNat x4_5)
      intro z5_18 e_z5_18
      have r_z5_18 : rg z5_18 := by rw [e_z5_18]; exact (rd_rg _ _ _)
      refine ⟨fun y3_159 m_159 => GX sV m m_159 ∧ ((y3_159 = H (Int.toNat x4_5 + 1) ∧ 0 ≤ y3_159 ∧ y3_159 ≤ x4_5 + 1 - x1) ∧ ((∀ L, sgM m x1 L → x2 = x1 + (L.length : Int) → wf 15 0 L 1 → ptI (vaM m) m m_159 L y3_159 (x4_5 + 1) x2) ∧ ∀ j : Nat, rd m_159 317 j = rd m 317 j)), ?_, ?_⟩
      · skip
        refine ⟨fun hq => ?_, fun hq => ?_⟩
        · skip
          try have w3 : wr (x3_5 + (-1)) = x3_5 + (-1) := wr_id (by omega) (by omega)
          intro z3_65 e_z3_65
          have r_z3_65 : rg z3_65 := by rw [e_z3_65]; exact wr_rg _
          try have w4 : wr (z3_65 - 1) = z3_65 - 1 := wr_id (by omega) (by omega)
          refine ⟨⟨by omega, by omega⟩, ?_⟩
          intro z6_76 e_z6_76
          have r_z6_76 : rg z6_76 := by rw [e_z6_76]; exact (rd_rg _ _ _)
          refine ⟨⟨by omega, by omega⟩, ?_⟩
          intro z7_84 e_z7_84
          have r_z7_84 : rg z7_84 := by rw [e_z7_84]; exact (rd_rg _ _ _)
          refine ⟨¬ z5_18 = 5 ∨ ¬ z7_84 = 0, ?_, ?_⟩
          · skip
            refine ⟨fun hq => ?_, fun hq => ?_⟩
            · skip
              (first | trivial | omega | (refine ⟨?_, ?_⟩ <;> omega))
            · skip
              refine ⟨fun hq => ?_, fun hq => ?_⟩
              · skip
                (first | trivial | omega | (refine ⟨?_, ?_⟩ <;> omega))
              · skip
                intro m99 e_m99
                have g_m99 : GX sV m m99 := by rw [e_m99]; exact GX.wt g_m_5 (tw_284_51 g_m_5.1 (by first | assumption | omega)) (Eq.refl true)
                exact ⟨g_m99, by exact ⟨by first | trivial | omega | (refine ⟨?_, ?_⟩ <;> omega), by first | exact ⟨fun L g e w => pt_e (dI_5.1 L g e w) (by omega), dI_5.2⟩ | exact ⟨fun L g e w => pt_z (dI_5.1 L g e w) (by omega) e_z5_18 (by omega) (z8 := z7_84) (by rw [e_z7_84, show z3_65 = x3_5 - 1 by omega]) (by omega) e_m99, fun j => by rw [e_m99, rd_wt, if_neg (by omega)]; exact dI_5.2 j⟩⟩⟩
          · intro   hR_104
            refine ⟨fun s2_158 => s2_158 = ap (z5_18 + 2) z6_76 z7_84, ?_, ?_⟩
            · skip
              refine ⟨fun hq => ?_, fun hq => ?_⟩
              · skip
                refine ⟨fun hq => ?_, fun hq => ?_⟩
                · skip
                  refine ⟨fun hq => ?_, fun hq => ?_⟩
                  · skip
                    refine ⟨by omega, ?_⟩
                    ((unfold ap; first | rw [if_pos (by omega)] | rw [if_neg (by omega), if_pos (by omega)] | rw [if_neg (by omega), if_neg (by omega), if_pos (by omega)] | rw [if_neg (by omega), if_neg (by omega), if_neg (by omega)]))
                  · skip
                    try have w7 : wr (z6_76 * z7_84) = z6_76 * z7_84 := wr_id (by omega) (by omega)
                    ((unfold ap; first | rw [if_pos (by omega)] | rw [if_neg (by omega), if_pos (by omega)] | rw [if_neg (by omega), if_neg (by omega), if_pos (by omega)] | rw [if_neg (by omega), if_neg (by omega), if_neg (by omega)]))
                · skip
                  try have w8 : wr (z6_76 - z7_84) = z6_76 - z7_84 := wr_id (by omega) (by omega)
                  ((unfold ap; first | rw [if_pos (by omega)] | rw [if_neg (by omega), if_pos (by omega)] | rw [if_neg (by omega), if_neg (by omega), if_pos (by omega)] | rw [if_neg (by omega), if_neg (by omega), if_neg (by omega)]))
              · skip
                try have w9 : wr (z6_76 + z7_84) = z6_76 + z7_84 := wr_id (by omega) (by omega)
                ((unfold ap; first | rw [if_pos (by omega)] | rw [if_neg (by omega), if_pos (by omega)] | rw [if_neg (by omega), if_neg (by omega), if_pos (by omega)] | rw [if_neg (by omega), if_neg (by omega), if_neg (by omega)]))
            · intro s2_158 r_s2_158 hR_158
              refine ⟨⟨by omega, by omega⟩, ?_⟩
              intro m158 e_m158
              have g_m158 : GX sV m m158 := by rw [e_m158]; exact GX.wt g_m_5 (tw_318 g_m_5.1 (by first | assumption | omega)) (Eq.refl true)
              exact ⟨g_m158, by exact ⟨by first | trivial | omega | (refine ⟨?_, ?_⟩ <;> omega), by first | exact ⟨fun L g e w => pt_push (dI_5.1 L g e w) (by omega) (by rw [← e_z5_18]; omega) (by rw [hR_58, e_z5_18, dI_5.2]; rfl) r_s2_58 e_m58 (by omega), fun j => by rw [e_m58, rd_wt, if_neg (by omega)]; exact dI_5.2 j⟩ | exact ⟨fun L g e w => pt_op (dI_5.1 L g e w) (by omega) e_z5_18 (by omega) (z7 := z6_76) (z8 := z7_84) (by rw [e_z6_76, show wr (z3_65 - 1) = x3_5 - 2 by omega]) (by rw [e_z7_84, show z3_65 = x3_5 - 1 by omega]) (by omega) hR_158 r_s2_158 (by rw [e_m158, show wr (z3_65 - 1) = x3_5 - 2 by omega]) (by omega), fun j => by rw [e_m158, rd_wt, if_neg (by omega)]; exact dI_5.2 j⟩⟩⟩
        · skip
          refine ⟨fun s2_58 => s2_58 = if z5_18 = 0 then rd m_5 315 (Int.toNat x4_5) else rd m_5 317 (Int.toNat (rd m_5 315 (Int.toNat x4_5))), ?_, ?_⟩
          · skip
            refine ⟨fun hq => ?_, fun hq => ?_⟩
            · skip
              refine ⟨⟨by omega, by omega⟩, ?_⟩
              have t10 := ty_315 g_m_5.1 (Int.toNat x4_5)
              refine ⟨⟨by omega, by omega⟩, ?_⟩
              (first | rw [if_neg (by omega)] | rw [if_pos (by omega)])
            · skip
              refine ⟨⟨by omega, by omega⟩, ?_⟩
              have t12 := ty_315 g_m_5.1 (Int.toNat x4_5)
              (first | rw [if_neg (by omega)] | rw [if_pos (by omega)])
          · intro s2_58 r_s2_58 hR_58
            refine ⟨⟨by omega, by omega⟩, ?_⟩
            intro m58 e_m58
            have g_m58 : GX sV m m58 := by rw [e_m58]; exact GX.wt g_m_5 (tw_318 g_m_5.1 (by first | assumption | omega)) (Eq.refl true)
            try have w13 : wr (x3_5 + 1) = x3_5 + 1 := wr_id (by omega) (by omega)
            intro z3_59 e_z3_59
            have r_z3_59 : rg z3_59 := by rw [e_z3_59]; exact wr_rg _
            exact ⟨g_m58, by exact ⟨by first | trivial | omega | (refine ⟨?_, ?_⟩ <;> omega), by first | exact ⟨fun L g e w => pt_push (dI_5.1 L g e w) (by omega) (by rw [← e_z5_18]; omega) (by rw [hR_58, e_z5_18, dI_5.2]; rfl) r_s2_58 e_m58 (by omega), fun j => by rw [e_m58, rd_wt, if_neg (by omega)]; exact dI_5.2 j⟩ | exact ⟨fun L g e w => pt_op (dI_5.1 L g e w) (by omega) e_z5_18 (by omega) (z7 := z6_76) (z8 := z7_84) (by rw [e_z6_76, show wr (z3_65 - 1) = x3_5 - 2 by omega]) (by rw [e_z7_84, show z3_65 = x3_5 - 1 by omega]) (by omega) hR_158 r_s2_158 (by rw [e_m158, show wr (z3_65 - 1) = x3_5 - 2 by omega]) (by omega), fun j => by rw [e_m158, rd_wt, if_neg (by omega)]; exact dI_5.2 j⟩⟩⟩
      · intro y3_159 m_159 r_y3_159 hR_159
        obtain ⟨g_m_159, hR_159⟩ := hR_159
        obtain ⟨hR_159, dR_159⟩ := hR_159
        try have w14 : wr (x4_5 + 1) = x4_5 + 1 := wr_id (by omega) (by omega)
        intro z4_159 e_z4_159
        have r_z4_159 : rg z4_159 := by rw [e_z4_159]; exact wr_rg _
        exact ⟨⟨g_m_159, by exact ⟨by exact ⟨by omega, by rw [e_z4_159, wr_id (by omega) (by omega), e1 (by omega)]; exact hR_159.1, by omega, by omega⟩, by exact ⟨fun L g e w => by rw [show z4_159 = x4_5 + 1 by omega]; exact dR_159.1 L g e w, dR_159.2⟩⟩⟩, by (try dsimp only); omega⟩
-- TippedCratesModel.lawTells(II)I
set_option maxRecDepth 20000 in
theorem mz_225 {m : Mm} {x1 : Int} {x2 : Int}  (T_m : Ty m) (r_x1 : rg x1) (r_x2 : rg x2) (p0 : 0 ≤ x1 ∧ x1 ≤ 3) (p1 : lawsM m) (p2 : x2 = dfl x1) : CK 2 225 [.ref 284, iv x1, iv x2] m (fun m2 v => GX sV m m2 ∧ ((True) ∧ (∀ E, LM m E → v = (lval (vaM m) (E x1).1 (E x1).2)))) := by
  refine br_225 r_x1 r_x2 ?_
  unfold P_225
  have g_m : GX sV m m := ⟨T_m, fun _ _ _ => rfl, fun _ _ => rfl⟩
  have tl := ty_284_18 T_m
  have t1 := ty_284_18 T_m
  try have w2 : wr (4 * (rd m 284 18)) = 4 * (rd m 284 18) := wr_id (by omega) (by omega)
  try have w3 : wr ((wr (4 * (rd m 284 18))) + x1) = (wr (4 * (rd m 284 18))) + x1 := wr_id (by omega) (by omega)
  intro z3_8 e_z3_8
  have r_z3_8 : rg z3_8 := by rw [e_z3_8]; exact (wr_rg _)
  refine ⟨⟨by omega, by omega⟩, ?_⟩
  refine ⟨⟨by omega, by omega⟩, ?_⟩
  have t4 := ty_307 T_m (Int.toNat z3_8)
  have t5 := ty_308 T_m (Int.toNat z3_8)
  refine ⟨fun hq => ?_, fun hq => ?_⟩
  · skip
    intro m28 e_m28
    have g_m28 : GX sV m m28 := by rw [e_m28]; exact GX.wt g_m (tw_284_51 T_m (by first | assumption | omega)) (Eq.refl true)
    have a28 : rd m28 307 (Int.toNat z3_8) = rd m 307 (Int.toNat z3_8) := by rw [e_m28, rd_wt, if_neg (by omega)]
    refine ⟨⟨by omega, by omega⟩, ?_⟩
    have t6 := ty_307 g_m28.1 (Int.toNat z3_8)
    intro z4_37 e_z4_37
    have r_z4_37 : rg z4_37 := by rw [e_z4_37]; exact (rd_rg _ _ _)
    refine ⟨fun x4_39 m_39 => GX sV m m_39 ∧ ((x4_39 ≤ 260 ∧ rd m 307 (Int.toNat z3_8) ≤ x4_39) ∧ ((∀ E, LM m E → brI m (E x1) (lval (vaM m) (E x1).1 (E x1).2) x4_39 (rd m 308 (Int.toNat z3_8))) ∧ rd m_39 284 51 = 0 ∧ ∀ j : Nat, rd m_39 317 j = rd m 317 j)), fun x4_39 m_39 => Int.toNat (260 - x4_39), ?_, ?_⟩
    · exact ⟨g_m28, by exact ⟨by first | omega | (refine ⟨?_, ?_⟩ <;> omega) | trivial, by exact ⟨fun E h => br_0 h p0 (by rw [show 4 * rd m 284 18 + x1 = z3_8 by omega]) (by omega) (by rw [e_z4_37, a28]) tl, by rw [e_m28, rd_wt, if_pos ⟨rfl, rfl⟩]; exact nz0, fun j => by rw [e_m28, rd_wt, if_neg (by omega)]⟩⟩⟩
    · intro x4_39 m_39 r_x4_39 hI_39
      obtain ⟨g_m_39, hI_39⟩ := hI_39
      obtain ⟨hI_39, dI_39⟩ := hI_39
      have a8 : rd m_39 308 (Int.toNat z3_8) = rd m 308 (Int.toNat z3_8) := g_m_39.2.1 308 _ rfl
      have a9 : rd m_39 309 (Int.toNat x4_39) = rd m 309 (Int.toNat x4_39) := g_m_39.2.1 309 _ rfl
      have lw := p1 x1 p0 (Int.toNat x4_39)
      rw [show Int.toNat (4 * rd m 284 18 + x1) = Int.toNat z3_8 by omega] at lw
      refine ⟨⟨by omega, by omega⟩, ?_⟩
      have t7 := ty_308 g_m_39.1 (Int.toNat z3_8)
      refine ⟨fun hq => ?_, fun hq => ?_⟩
      · skip
        exact ⟨g_m_39, by exact ⟨by first | trivial | omega | (refine ⟨?_, ?_⟩ <;> omega), by first | exact fun E h => by rw [br_d h p0 (by rw [show 4 * rd m 284 18 + x1 = z3_8 by omega]; omega)]; exact p2 | exact fun E h => br_n (dI_39.1 E h) (by omega) | exact fun E h => ((w95 E h).2.2 (by omega)).symm | exact fun E h => bq_f (dR_119.1 E h) g_m_119 dR_119.2.1 dR_119.2.2 h_m134 dR_152 (ty_312 T_m _).1⟩⟩
      · skip
        refine ⟨⟨by omega, by omega⟩, ?_⟩
        refine ⟨fun m_119 => GX sV m m_119 ∧ ((True) ∧ ((∀ E, LM m E → ∃ C : Rp, sgM m (rd m 312 (Int.toNat x4_39)) C ∧ rd m 313 (Int.toNat x4_39) = rd m 312 (Int.toNat x4_39) + (C.length : Int) ∧ wf 15 0 C 1 ∧ (lval (vaM m) (E x1).1 (E x1).2) = rvC (vaM m) C []) ∧ rd m_119 284 51 = 0 ∧ ∀ j : Nat, rd m_119 317 j = rd m 317 j)), ?_, ?_⟩
        · skip
          refine ⟨fun hq => ?_, fun hq => ?_⟩
          · skip
            exact ⟨g_m_39, by exact ⟨by first | trivial | omega | (refine ⟨?_, ?_⟩ <;> omega), by first | exact ⟨fun E h => br_l (dI_39.1 E h) (by rw [← a9]; omega), dI_39.2⟩ | exact ⟨fun E h => (w95 E h).1 (by omega) (by omega), by omega, v95k⟩⟩⟩
          · skip
            refine ⟨⟨by omega, by omega⟩, ?_⟩
            refine ⟨⟨by omega, by omega⟩, ?_⟩
            have t9 := ty_310 g_m_39.1 (Int.toNat x4_39)
            have t10 := ty_311 g_m_39.1 (Int.toNat x4_39)
            refine CK.mono (mz_201   g_m_39.1 (rd_rg _ _ _) (rd_rg _ _ _) (seg_V ((lw (by omega) (by omega)).1 (by omega)).1 g_m_39 (g_m_39.2.1 310 _ rfl) (g_m_39.2.1 311 _ rfl))) (by decide) ?_
            rintro m75 v75 r_v75 ⟨hx_m75, h_m75⟩
            have g_m75 : GX sV m m75 := gx_in g_m_39 hx_m75 in_sV_sV
            obtain ⟨-, h_m75, k_m75⟩ := h_m75
            have hq39 : ¬ rd m 309 (Int.toNat x4_39) = 0 := by rw [← a9]; omega
            refine ⟨⟨by omega, by omega⟩, ?_⟩
            refine ⟨⟨by omega, by omega⟩, ?_⟩
            have t11 := ty_311 g_m75.1 (Int.toNat x4_39)
            have t12 := ty_312 g_m75.1 (Int.toNat x4_39)
            refine CK.mono (mz_201   g_m75.1 (rd_rg _ _ _) (rd_rg _ _ _) (seg_V ((lw (by omega) (by omega)).1 (by omega)).2 g_m75 (g_m75.2.1 311 _ rfl) (g_m75.2.1 312 _ rfl))) (by decide) ?_
            rintro m95 v95 r_v95 ⟨hx_m95, h_m95⟩
            have g_m95 : GX sV m m95 := gx_in g_m75 hx_m95 in_sV_sV
            obtain ⟨-, h_m95, k_m95⟩ := h_m95
            have v95k : ∀ j, rd m95 317 j = rd m 317 j := fun j => (k_m95 j).trans ((k_m75 j).trans (dI_39.2.2 j))
            have w95 := fun E h => bq_t (dI_39.1 E h) hq39 g_m_39 dI_39.2.1 dI_39.2.2 h_m75 g_m75 k_m75 h_m95 ⟨(ty_310 T_m _).1, (ty_311 T_m _).1⟩
            refine ⟨fun hq => ?_, fun hq => ?_⟩
            · skip
              refine ⟨fun hq => ?_, fun hq => ?_⟩
              · skip
                exact ⟨g_m95, by exact ⟨by first | trivial | omega | (refine ⟨?_, ?_⟩ <;> omega), by first | exact ⟨fun E h => br_l (dI_39.1 E h) (by rw [← a9]; omega), dI_39.2⟩ | exact ⟨fun E h => (w95 E h).1 (by omega) (by omega), by omega, v95k⟩⟩⟩
              · skip
                try have w14 : wr (x4_39 + 1) = x4_39 + 1 := wr_id (by omega) (by omega)
                intro z4_153 e_z4_153
                have r_z4_153 : rg z4_153 := by rw [e_z4_153]; exact wr_rg _
                exact ⟨⟨g_m95, by exact ⟨by first | omega | (refine ⟨?_, ?_⟩ <;> omega) | trivial, by exact ⟨fun E h => by rw [show z4_153 = x4_39 + 1 by omega]; exact (w95 E h).2.1 (by omega) (by omega), by omega, v95k⟩⟩⟩, by (try dsimp only); omega⟩
            · skip
              exact ⟨g_m95, by exact ⟨by first | trivial | omega | (refine ⟨?_, ?_⟩ <;> omega), by first | exact fun E h => by rw [br_d h p0 (by rw [show 4 * rd m 284 18 + x1 = z3_8 by omega]; omega)]; exact p2 | exact fun E h => br_n (dI_39.1 E h) (by omega) | exact fun E h => ((w95 E h).2.2 (by omega)).symm | exact fun E h => bq_f (dR_119.1 E h) g_m_119 dR_119.2.1 dR_119.2.2 h_m134 dR_152 (ty_312 T_m _).1⟩⟩
        · intro m_119  hR_119
          obtain ⟨g_m_119, hR_119⟩ := hR_119
          obtain ⟨hR_119, dR_119⟩ := hR_119
          refine ⟨⟨by omega, by omega⟩, ?_⟩
          refine ⟨⟨by omega, by omega⟩, ?_⟩
          have t15 := ty_312 g_m_119.1 (Int.toNat x4_39)
          have t16 := ty_313 g_m_119.1 (Int.toNat x4_39)
          refine CK.mono (mz_201   g_m_119.1 (rd_rg _ _ _) (rd_rg _ _ _) (seg_V (lw (by omega) (by omega)).2 g_m_119 (g_m_119.2.1 312 _ rfl) (g_m_119.2.1 313 _ rfl))) (by decide) ?_
          rintro m134 v134 r_v134 ⟨hx_m134, h_m134⟩
          have g_m134 : GX sV m m134 := gx_in g_m_119 hx_m134 in_sV_sV
          obtain ⟨-, h_m134, k_m134⟩ := h_m134
          refine ⟨fun s0_152 => (True) ∧ ((rd m134 284 51 = 0 ∧ s0_152 = v134) ∨ (¬ rd m134 284 51 = 0 ∧ s0_152 = 0)), ?_, ?_⟩
          · skip
            refine ⟨fun hq => ?_, fun hq => ?_⟩
            · skip
              (exact ⟨by first | trivial | omega | (refine ⟨?_, ?_⟩ <;> omega), by first | exact Or.inl ⟨by omega, rfl⟩ | exact Or.inr ⟨by omega, rfl⟩⟩)
            · skip
              (exact ⟨by first | trivial | omega | (refine ⟨?_, ?_⟩ <;> omega), by first | exact Or.inl ⟨by omega, rfl⟩ | exact Or.inr ⟨by omega, rfl⟩⟩)
          · intro s0_152 r_s0_152 hR_152
            obtain ⟨hR_152, dR_152⟩ := hR_152
            exact ⟨g_m134, by exact ⟨by first | trivial | omega | (refine ⟨?_, ?_⟩ <;> omega), by first | exact fun E h => by rw [br_d h p0 (by rw [show 4 * rd m 284 18 + x1 = z3_8 by omega]; omega)]; exact p2 | exact fun E h => br_n (dI_39.1 E h) (by omega) | exact fun E h => ((w95 E h).2.2 (by omega)).symm | exact fun E h => bq_f (dR_119.1 E h) g_m_119 dR_119.2.1 dR_119.2.2 h_m134 dR_152 (ty_312 T_m _).1⟩⟩
  · skip
    exact ⟨g_m, by exact ⟨by first | trivial | omega | (refine ⟨?_, ?_⟩ <;> omega), by first | exact fun E h => by rw [br_d h p0 (by rw [show 4 * rd m 284 18 + x1 = z3_8 by omega]; omega)]; exact p2 | exact fun E h => br_n (dI_39.1 E h) (by omega) | exact fun E h => ((w95 E h).2.2 (by omega)).symm | exact fun E h => bq_f (dR_119.1 E h) g_m_119 dR_119.2.1 dR_119.2.2 h_m134 dR_152 (ty_312 T_m _).1⟩⟩
