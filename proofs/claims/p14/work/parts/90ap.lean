def pC4 (X : Tk) (s : Ps) : Ps := pI X 0 4 (pI X 0 4 (pN X s))
def pCr (X : Tk) (s : Ps) : Ps := ps_c (pIs X (pC4 X s) 6) (Int.toNat (s 0 10)) (X 2 (pN X s 0 0)) (X 2 (pI X 0 4 (pN X s) 0 0)) (X 2 (s 0 0)) (fun j => X 2 (pIs X (pC4 X s) j 0 0))
theorem km_n (n : Int) (hn : 0 ≤ n ∧ n ≤ 8) {c x k : Int} (h : kmR c x) (ek : k = n + 20) : x = k ↔ c = n := by
  have q := (km_v h).2.2.2.2.2.2.2.2.2
  omega
section CTL
variable {X : Tk} {N S : Int} {A B : Ps} {m m2 : Mm}
theorem pT_ct {k : Int} (c : ∀ j : Nat, j ≤ 4 → B 0 j = A 0 j) : ∀ j : Nat, j ≤ 4 → pT X k B 0 j = pT X k A 0 j := by
  intro j hj
  unfold pT
  rw [c 0 (by omega), c 1 (by omega)]
  have u : ∀ (i : Nat) (v : Int) (P Q : Ps), P 0 j = Q 0 j → ps_u P 0 i v 0 j = ps_u Q 0 i v 0 j := fun i v P Q e => by
    unfold ps_u
    split
    · rfl
    · exact e
  split
  · split
    · split
      · exact u _ _ _ _ (c j hj)
      · exact u _ _ _ _ (u _ _ _ _ (c j hj))
    · exact u _ _ _ _ (u _ _ _ _ (c j hj))
  · exact c j hj
theorem cR_ct {f p t w q : Int} (h : cR A f p t w q) (c : ∀ j : Nat, j ≤ 4 → B 0 j = A 0 j) : cR B f p t w q := by
  unfold cR
  rw [c 0 (by omega), c 1 (by omega), c 2 (by omega), c 3 (by omega), c 4 (by omega)]
  exact h
theorem pV_ct (h : pV X N A) (c : ∀ j : Nat, j ≤ 4 → B 0 j = A 0 j) : pV X N B := by
  unfold pV
  rw [c 0 (by omega), c 1 (by omega), c 3 (by omega), c 4 (by omega)]
  exact h
theorem rm_cf (h : RM X N S A m) (z : ¬ A 0 1 = 0) (c : ∀ j : Nat, j ≤ 4 → B 0 j = A 0 j) : RM X N S B m :=
  ⟨cR_ct h.1 c, pV_ct h.2.1 c, fun y => absurd ((c 1 (by omega)).symm.trans y) z⟩
theorem rm_fin (h : RM X N S A m) (c : ∀ j : Nat, j ≤ 4 → B 0 j = A 0 j) (e : ∀ j : Nat, (j = 11 ∨ j = 13 ∨ j = 14 ∨ j = 15 ∨ j = 16) → rd m2 284 j = rd m 284 j) (d : A 0 1 = 0 → dM A S m → dM B S m2) : RM X N S B m2 := by
  refine ⟨?_, pV_ct h.2.1 c, fun z => ?_⟩
  · rw [e 13 (by omega), e 14 (by omega), e 11 (by omega), e 15 (by omega), e 16 (by omega)]
    exact cR_ct h.1 c
  · have z0 : A 0 1 = 0 := (c 1 (by omega)).symm.trans z
    exact d z0 (h.2.2 z0)
theorem rm_wd {i j : Nat} {v : Int} (h : RM X N S A m) (hi : ¬ i = 284) (e : m2 = wt m i j v) (d : A 0 1 = 0 → dM A S m → dM A S m2) : RM X N S A m2 :=
  rm_fin h (fun _ _ => rfl) (fun b _ => by rw [e, rd_wt, if_neg (fun w => hi w.1.symm)]) d
theorem dM_wb {i j : Nat} {v : Int} (d : dM A S m) (e : m2 = wt m i j v) (c : ((i = 296 ∨ i = 297) ∧ 8 * ((Int.toNat S : Nat) : Int) + A 0 8 ≤ j) ∨ ((i = 299 ∨ i = 300 ∨ i = 301) ∧ 10 * ((Int.toNat S : Nat) : Int) + A 0 9 ≤ j) ∨ ((i = 303 ∨ i = 304) ∧ 3 * ((Int.toNat S : Nat) : Int) + A 0 10 ≤ j) ∨ (i = 305 ∧ 18 * ((Int.toNat S : Nat) : Int) + 6 * A 0 10 ≤ j)) : dM A S m2 := by
  have F : ∀ a b : Nat, ¬ (a = i ∧ b = j) → rd m2 a b = rd m a b := fun a b q => by rw [e, rd_wt, if_neg q]
  obtain ⟨h1, h2, h3, h4, h5⟩ := d
  unfold dM
  rw [F 293 _ (by omega), F 294 _ (by omega), F 306 _ (by omega), F 295 _ (by omega), F 298 _ (by omega), F 302 _ (by omega), F 284 20 (by omega)]
  refine ⟨h1, fun q hq => ?_, fun q hq => ?_, fun q hq => ?_, fun q hq => ?_⟩
  · rw [F 296 _ (by omega), F 297 _ (by omega)]; exact h2 q hq
  · rw [F 299 _ (by omega), F 300 _ (by omega), F 301 _ (by omega)]; exact h3 q hq
  · rw [F 303 _ (by omega), F 304 _ (by omega), e, ld_wt]; exact h4 q hq
  · rw [F 305 _ (by omega)]; exact h5 q hq
theorem rm_f5 {v x : Int} (h : RM X N S A m) (e : m2 = wt m 293 (Int.toNat S) v) (r : rg v) (hx : A 0 1 = 0 → v = x) : RM X N S (ps_u A 0 5 x) m2 := by
  have F : ∀ a b : Nat, ¬ a = 293 → rd m2 a b = rd m a b := fun a b q => by rw [e, rd_wt, if_neg (fun w => q w.1)]
  refine rm_fin h (fun j hj => ps_ne (by omega)) (fun j _ => F 284 j (by omega)) (fun z d => ?_)
  obtain ⟨⟨-, a2, a3, a4, a5, a6, a7⟩, h2, h3, h4, h5⟩ := d
  refine ⟨⟨?_, (F 294 _ (by omega)).trans a2, (F 306 _ (by omega)).trans a3, (F 295 _ (by omega)).trans a4, (F 298 _ (by omega)).trans a5, (F 302 _ (by omega)).trans a6, (F 284 20 (by omega)).trans a7⟩, fun q hq => ?_, fun q hq => ?_, fun q hq => ?_, fun q hq => ?_⟩
  · rw [ps_eq, e, rd_wt, if_pos ⟨rfl, rfl⟩, wr_i r]; exact hx z
  · rw [F 296 _ (by omega), F 297 _ (by omega)]; exact h2 q hq
  · rw [F 299 _ (by omega), F 300 _ (by omega), F 301 _ (by omega)]; exact h3 q hq
  · rw [F 303 _ (by omega), F 304 _ (by omega), e, ld_wt]; exact h4 q hq
  · rw [F 305 _ (by omega)]; exact h5 q hq
theorem rm_f6 {v x : Int} (h : RM X N S A m) (e : m2 = wt m 294 (Int.toNat S) v) (r : rg v) (hx : A 0 1 = 0 → v = x) : RM X N S (ps_u A 0 6 x) m2 := by
  have F : ∀ a b : Nat, ¬ a = 294 → rd m2 a b = rd m a b := fun a b q => by rw [e, rd_wt, if_neg (fun w => q w.1)]
  refine rm_fin h (fun j hj => ps_ne (by omega)) (fun j _ => F 284 j (by omega)) (fun z d => ?_)
  obtain ⟨⟨a1, -, a3, a4, a5, a6, a7⟩, h2, h3, h4, h5⟩ := d
  refine ⟨⟨(F 293 _ (by omega)).trans a1, ?_, (F 306 _ (by omega)).trans a3, (F 295 _ (by omega)).trans a4, (F 298 _ (by omega)).trans a5, (F 302 _ (by omega)).trans a6, (F 284 20 (by omega)).trans a7⟩, fun q hq => ?_, fun q hq => ?_, fun q hq => ?_, fun q hq => ?_⟩
  · rw [ps_eq, e, rd_wt, if_pos ⟨rfl, rfl⟩, wr_i r]; exact hx z
  · rw [F 296 _ (by omega), F 297 _ (by omega)]; exact h2 q hq
  · rw [F 299 _ (by omega), F 300 _ (by omega), F 301 _ (by omega)]; exact h3 q hq
  · rw [F 303 _ (by omega), F 304 _ (by omega), e, ld_wt]; exact h4 q hq
  · rw [F 305 _ (by omega)]; exact h5 q hq
theorem rm_f7 {v x : Int} (h : RM X N S A m) (e : m2 = wt m 306 (Int.toNat S) v) (r : rg v) (hx : A 0 1 = 0 → v = x) : RM X N S (ps_u A 0 7 x) m2 := by
  have F : ∀ a b : Nat, ¬ a = 306 → rd m2 a b = rd m a b := fun a b q => by rw [e, rd_wt, if_neg (fun w => q w.1)]
  refine rm_fin h (fun j hj => ps_ne (by omega)) (fun j _ => F 284 j (by omega)) (fun z d => ?_)
  obtain ⟨⟨a1, a2, -, a4, a5, a6, a7⟩, h2, h3, h4, h5⟩ := d
  refine ⟨⟨(F 293 _ (by omega)).trans a1, (F 294 _ (by omega)).trans a2, ?_, (F 295 _ (by omega)).trans a4, (F 298 _ (by omega)).trans a5, (F 302 _ (by omega)).trans a6, (F 284 20 (by omega)).trans a7⟩, fun q hq => ?_, fun q hq => ?_, fun q hq => ?_, fun q hq => ?_⟩
  · rw [ps_eq, e, rd_wt, if_pos ⟨rfl, rfl⟩, wr_i r]; exact hx z
  · rw [F 296 _ (by omega), F 297 _ (by omega)]; exact h2 q hq
  · rw [F 299 _ (by omega), F 300 _ (by omega), F 301 _ (by omega)]; exact h3 q hq
  · rw [F 303 _ (by omega), F 304 _ (by omega), e, ld_wt]; exact h4 q hq
  · rw [F 305 _ (by omega)]; exact h5 q hq
end CTL
/-- hidden from omega, which would compare what stands in it with all else -/
def vI (A : Ps) (v x : Int) : Prop := A 0 1 = 0 → v = x
section RMT
variable {m0 m m2 : Mm} {N S : Int} {s : Ps}
theorem rm_I {lo hi v : Int} (h : RM (tX m0) N S s m) (tk : tkN m0 N) (g : PX m0 m) (gf : GX sFt m m2) (b : boP m m2 lo hi v) : RM (tX m0) N S (pI (tX m0) lo hi s) m2 ∧ vI (pI (tX m0) lo hi s) v (tX m0 2 (s 0 0)) := by
  have st : stI lo hi (tX m0 0 (rd m 284 11)) (tX m0 1 (rd m 284 11)) (tX m0 2 (rd m 284 11)) v (rd m 284 13) (rd m 284 14) (rd m 284 11) (rd m 284 15) (rd m 284 16) (rd m2 284 13) (rd m2 284 14) (rd m2 284 11) (rd m2 284 15) (rd m2 284 16) := by
    by_cases z : rd m 284 13 = 0
    · have a := rm_k h tk g z
      have c := (km_v a.1).2.2.2.2.2.2.2.1
      have z0 : s 0 1 = 0 := h.1.1.symm.trans z
      have e := h.1.2.2 z0
      have pv := (h.2.1 z0).2.2.2
      rw [← e.1] at pv
      unfold boP at b
      rw [a.2.1] at b
      rcases b with ⟨n, -, -, -, -, ⟨-, f2, p2⟩ | ⟨w, -⟩⟩ | ⟨-, k2, ev, rgs, tl⟩
      · exact Or.inr (Or.inr ⟨z, Or.inr ⟨fun w => n ⟨z, c.mpr w⟩, f2⟩, p2⟩)
      · exact absurd z w
      · rcases tl with ⟨l, f2, -, t2⟩ | ⟨e4, f2, p2, -⟩
        · refine Or.inr (Or.inl ⟨z, c.mp k2, l, f2, t2, ev.trans (a.2.2.1 (c.mp k2)), ?_⟩)
          rcases rgs with ⟨l1, l2, w15, w16⟩ | ⟨n, wg⟩
          · exact Or.inl ⟨l1, l2, w15, w16⟩
          · refine Or.inr ⟨n, ?_⟩
            have q : ¬ rd m 284 15 = 0 → rd m 284 16 < tX m0 1 (rd m 284 11) := fun w => by
              have w0 : ¬ s 0 3 = 0 := fun y => w (e.2.1.trans y)
              rw [e.2.2 w0]
              exact pv w0
            rcases wg with ⟨g1, g2, -, g4⟩ | ⟨g1, g2, g3⟩
            · refine Or.inl ⟨?_, g1, g2⟩
              by_cases w : rd m 284 15 = 0
              · exact w
              · have := q w; omega
            · exact Or.inr ⟨by omega, g1, g2⟩
        · exact Or.inr (Or.inr ⟨z, Or.inl ⟨c.mp k2, e4, f2⟩, p2⟩)
    · rcases b with ⟨-, -, -, -, -, ⟨w, -⟩ | ⟨-, f2, p2⟩⟩ | ⟨w, -⟩
      · exact absurd w z
      · exact Or.inl ⟨z, f2, p2⟩
      · exact absurd w z
  have c := c_I (X := tX m0) h.1 (fun _ => Iff.rfl) (fun _ => rfl) (fun _ _ => rfl) st
  exact ⟨⟨c.1, pV_I (tkQ_of tk) h.2.1, fun z => dM_sd (dM_fr (h.2.2 (pI_z z)) (mF_ft gf)) sd_I⟩, c.2⟩
theorem pT_s {X : Tk} {k : Int} (h : pT X k s 0 1 = 0) : s 0 1 = 0 ∧ X 0 (s 0 0) = k ∧ s 0 0 < 400 ∧ pT X k s = ps_g s (s 0 0 + 1) := by
  have z := pT_z h
  refine ⟨z, ?_⟩
  unfold pT at h ⊢
  rw [if_pos z] at h ⊢
  by_cases k1 : X 0 (s 0 0) = k
  · rw [if_pos k1] at h ⊢
    by_cases k2 : s 0 0 < 400
    · rw [if_pos k2]
      exact ⟨k1, k2, rfl⟩
    · rw [if_neg k2] at h
      exact absurd h (show ¬ (2 : Int) = 0 by decide)
  · rw [if_neg k1] at h
    exact absurd h (show ¬ (1 : Int) = 0 by decide)
theorem nm_i {X : Tk} {n : Nat} : nmI X s n 0 1 = pT X 21 s 0 1 := by
  unfold nmI
  split
  · rfl
  · exact pl_1
theorem nn_a {n : Nat} {z2 : Int} (h : RM (tX m0) N S (nmI (tX m0) s n) m) (tk : tkN m0 N) (g : PX m0 m) (z : rd m 284 13 = 0) (pv : pV (tX m0) N s) (e2 : z2 = s 0 0) : pT (tX m0) 21 s 0 1 = 0 ∧ ld m 290 (Int.toNat z2) = tX m0 2 (s 0 0) ∧ rd m 288 (Int.toNat z2) = tX m0 1 (s 0 0) := by
  subst e2
  have z0 : pT (tX m0) 21 s 0 1 = 0 := nm_i.symm.trans (h.1.1.symm.trans z)
  have q := pT_s z0
  have a := pv q.1
  have t := tkN_m tk a.1 a.2.1 a.2.2.1
  refine ⟨z0, ?_, ?_⟩
  · rw [g.2.2 290 _ (by decide)]
    exact t.2.2.2 q.2.1
  · rw [g.2.1 288 _ (inP_no (by omega) (by omega))]
    exact t.1
theorem nn_n {x z2 : Int} (h : RM (tX m0) N S (nmI (tX m0) s (Int.toNat x)) m) (pv : pV (tX m0) N s) (tk : tkN m0 N) (g : PX m0 m) (z : rd m 284 13 = 0) (s1z : s 0 1 = 0) (e2 : z2 = s 0 0) (x0 : 0 ≤ x) (xl : x < s 0 10) (ne : ¬ ld m 292 (Int.toNat x) = ld m 290 (Int.toNat z2)) : RM (tX m0) N S (nmI (tX m0) s (Int.toNat x + 1)) m := by
  have a := nn_a h tk g z pv e2
  have d := h.2.2 (nm_i.trans a.1)
  have el : ld m 292 (Int.toNat x) = s 9 (Int.toNat x) := (d.2.2.2.1 (Int.toNat x) (by rw [sd_nm 0 10 (by omega)]; omega)).2.2.trans (sd_nm 9 _ (by omega))
  have e : nmI (tX m0) s (Int.toNat x + 1) = nmI (tX m0) s (Int.toNat x) := by
    unfold nmI
    rw [show dupC (s 9) (tX m0 2 (s 0 0)) (Int.toNat x + 1) = dupC (s 9) (tX m0 2 (s 0 0)) (Int.toNat x) from if_neg (fun w => ne (el.trans (w.trans a.2.1.symm)))]
  rw [e]
  exact h
theorem nn_y {x z2 : Int} {m63 : Mm} (h : RM (tX m0) N S (nmI (tX m0) s (Int.toNat x)) m) (pv : pV (tX m0) N s) (tk : tkN m0 N) (g : PX m0 m) (z : rd m 284 13 = 0) (s1z : s 0 1 = 0) (e2 : z2 = s 0 0) (x0 : 0 ≤ x) (xl : x < s 0 10) (eq : ld m 292 (Int.toNat x) = ld m 290 (Int.toNat z2)) (gf : GX sFt m m63) (fr : rd m63 284 11 = rd m 284 11 ∧ rd m63 284 13 = rd m 284 13 ∧ rd m63 284 14 = rd m 284 14) (wg : wgP m m63 3 (rd m 288 (Int.toNat z2))) : RM (tX m0) N S (nmI (tX m0) s (Int.toNat x + 1)) m63 := by
  have a := nn_a h tk g z pv e2
  have q := pT_s a.1
  have d := h.2.2 (nm_i.trans a.1)
  have el : ld m 292 (Int.toNat x) = s 9 (Int.toNat x) := (d.2.2.2.1 (Int.toNat x) (by rw [sd_nm 0 10 (by omega)]; omega)).2.2.trans (sd_nm 9 _ (by omega))
  have e : nmI (tX m0) s (Int.toNat x + 1) = ps_l (pT (tX m0) 21 s) 3 (tX m0 1 (s 0 0)) := by
    unfold nmI
    rw [show dupC (s 9) (tX m0 2 (s 0 0)) (Int.toNat x + 1) = 1 from if_pos (el.symm.trans (eq.trans a.2.1))]
    exact if_neg (by decide)
  have e3 : ps_l (nmI (tX m0) s (Int.toNat x)) 3 (tX m0 1 (s 0 0)) = ps_l (pT (tX m0) 21 s) 3 (tX m0 1 (s 0 0)) := by
    unfold nmI
    split
    · rfl
    · exact pl_pl (by decide)
  have p0 := pv q.1
  have g3 : s 0 3 = pT (tX m0) 21 s 0 3 ∧ s 0 4 = pT (tX m0) 21 s 0 4 := by
    rw [q.2.2.2]
    exact ⟨rfl, rfl⟩
  have un : ¬ nmI (tX m0) s (Int.toNat x) 0 3 = 0 → nmI (tX m0) s (Int.toNat x) 0 4 < tX m0 1 (s 0 0) ∨ (nmI (tX m0) s (Int.toNat x) 0 4 = tX m0 1 (s 0 0) ∧ nmI (tX m0) s (Int.toNat x) 0 3 = 3) := by
    unfold nmI
    split
    · rw [← g3.1, ← g3.2]
      exact fun w => Or.inl (p0.2.2.2 w)
    · unfold ps_l
      split
      · exact fun _ => Or.inr ⟨rfl, rfl⟩
      · rw [← g3.1, ← g3.2]
        exact fun w => Or.inl (p0.2.2.2 w)
  have cz := h.1.2.2 (nm_i.trans a.1)
  rw [a.2.2] at wg
  have c3 : (rd m 284 15 = 0 ∧ rd m63 284 15 = 3 ∧ rd m63 284 16 = tX m0 1 (s 0 0)) ∨ (¬ rd m 284 15 = 0 ∧ rd m63 284 15 = rd m 284 15 ∧ rd m63 284 16 = rd m 284 16) := by
    have u2 : ¬ rd m 284 15 = 0 → rd m 284 16 < tX m0 1 (s 0 0) ∨ (rd m 284 16 = tX m0 1 (s 0 0) ∧ rd m 284 15 = 3) := fun w => by
      have w0 : ¬ nmI (tX m0) s (Int.toNat x) 0 3 = 0 := fun y => w (cz.2.1.trans y)
      rw [cz.2.2 w0, cz.2.1]
      exact un w0
    rcases wg with ⟨g1, g2, -, g4⟩ | ⟨g1, g2, gg3⟩
    · by_cases w : rd m 284 15 = 0
      · exact Or.inl ⟨w, g1, g2⟩
      · have := u2 w
        exact Or.inr ⟨w, by omega, by omega⟩
    · exact Or.inr ⟨by omega, g1, g2⟩
  rw [e]
  refine ⟨?_, pV_l (pV_T (tkQ_of tk) pv (by decide)) (fun _ => ?_), fun y => ?_⟩
  · rw [fr.1, fr.2.1, fr.2.2, ← e3]
    exact cR_la h.1 (by decide) (nm_i.trans a.1) c3
  · rw [q.2.2.2]
    have lt := (tkQ_of tk).1 _ p0.1 p0.2.1 p0.2.2.1 (by rw [q.2.1]; decide)
    exact (tkQ_of tk).2 _ p0.1 lt (by have := q.2.2.1; omega)
  · rw [← e3]
    exact dM_sd (dM_fr d (mF_ft gf)) sd_l
theorem nn_e {x : Int} (h : RM (tX m0) N S (nmI (tX m0) s (Int.toNat x)) m) (s1z : s 0 1 = 0) (c : x = s 0 10 ∨ ¬ rd m 284 13 = 0) : RM (tX m0) N S (pN (tX m0) s) m := by
  by_cases z : rd m 284 13 = 0
  · have ex : x = s 0 10 := by
      rcases c with c | c
      · exact c
      · exact absurd z c
    have zz : pT (tX m0) 21 s 0 1 = 0 := nm_i.symm.trans (h.1.1.symm.trans z)
    have e : nmI (tX m0) s (Int.toNat x) = pN (tX m0) s := by
      unfold nmI pN
      rw [ex]
      by_cases q : dupC (s 9) (tX m0 2 (s 0 0)) (Int.toNat (s 0 10)) = 0
      · rw [if_pos q, if_neg (fun w => w.2 q)]
      · rw [if_neg q, if_pos ⟨zz, q⟩]
    rw [← e]
    exact h
  · have zz : ¬ pT (tX m0) 21 s 0 1 = 0 := fun w => z (h.1.1.trans (nm_i.trans w))
    have e : pN (tX m0) s = pT (tX m0) 21 s := if_neg (fun w => zz w.1)
    rw [e]
    refine ⟨⟨h.1.1.trans nm_i, fun _ => ?_, fun y => absurd y zz⟩, fun y => absurd y zz, fun y => absurd y zz⟩
    rw [h.1.2.1 (fun y => zz (nm_i.symm.trans y))]
    unfold nmI
    split
    · rfl
    · unfold ps_l
      split
      · rfl
      · rfl
/-- what a crate's sentence has laid, k faces of it -/
def cmV (X : Tk) (s : Ps) (S n : Nat) (m : Mm) (k : Nat) : Prop := rd m 303 (3 * S + n) = X 2 (pN X s 0 0) ∧ rd m 304 (3 * S + n) = X 2 (pI X 0 4 (pN X s) 0 0) ∧ ∀ j : Nat, j < k → rd m 305 (18 * S + 6 * n + j) = X 2 (pIs X (pC4 X s) j 0 0)
def cmW (X : Tk) (s : Ps) (S n : Nat) (m : Mm) (k : Nat) : Prop := pIs X (pC4 X s) k 0 1 = 0 → cmV X s S n m k
theorem cw_s {X : Tk} {m98 m118 m121 : Mm} {S n k i : Nat} {v : Int} (h : cmV X s S n m98 k) (g : GX sFt m98 m118) (e : m121 = wt m118 305 i v) (ei : i = 18 * S + 6 * n + k) (r : rg v) (ev : v = X 2 (pIs X (pC4 X s) k 0 0)) : cmV X s S n m121 (k + 1) := by
  obtain ⟨h1, h2, h4⟩ := h
  refine ⟨?_, ?_, fun j hj => ?_⟩
  · rw [e, rd_wt, if_neg (by omega), g.2.1 303 _ rfl]; exact h1
  · rw [e, rd_wt, if_neg (by omega), g.2.1 304 _ rfl]; exact h2
  · by_cases q : j = k
    · subst q
      rw [e, rd_wt, if_pos ⟨rfl, ei.symm⟩, wr_i r]; exact ev
    · rw [e, rd_wt, if_neg (by omega), g.2.1 305 _ rfl]; exact h4 j (by omega)
theorem psc_c {n : Nat} {x y nm : Int} {g : Nat → Int} : ∀ j : Nat, j ≤ 4 → ps_c s n x y nm g 0 j = s 0 j := fun j hj => by
  unfold ps_c
  rw [if_neg (by omega), if_neg (by omega), if_neg (by omega), if_neg (by omega), if_neg (by omega)]
theorem cr_f (h : RM (tX m0) N S (pT (tX m0) 59 (pIs (tX m0) (pC4 (tX m0) s) 6)) m) (z : ¬ rd m 284 13 = 0) : RM (tX m0) N S (pT (tX m0) 59 (pCr (tX m0) s)) m :=
  rm_cf h (fun w => z (h.1.1.trans w)) (pT_ct psc_c)
theorem cr_e {m98 m155 m163 m178 : Mm} {z2 v : Int} (h : RM (tX m0) N S (pT (tX m0) 59 (pIs (tX m0) (pC4 (tX m0) s) 6)) m) (cv : cmW (tX m0) s (Int.toNat S) (Int.toNat (s 0 10)) m98 6) (tk : tkN m0 N) (g : PX m0 m) (gf : GX sFt m98 m) (z : rd m 284 13 = 0) (s1z : s 0 1 = 0) (e2 : z2 = s 0 0) (n0 : 0 ≤ s 0 10 ∧ s 0 10 ≤ 2) (S0 : 0 ≤ S) (e155 : m155 = wl m 292 (Int.toNat (rd m 284 20)) (ld m 290 (Int.toNat z2))) (e163 : m163 = wt m155 284 20 (wr ((rd m155 284 20) + 1))) (e178 : m178 = wt m163 302 (Int.toNat (rd m163 284 19)) (wr ((rd m163 302 (Int.toNat (rd m163 284 19))) + 1))) (n130 : rd m 284 20 = v) (s163 : rd m163 284 19 = S) (ev : v = s 0 10) (pv : pV (tX m0) N s) : RM (tX m0) N S (pT (tX m0) 59 (pCr (tX m0) s)) m178 := by
  have zz : pT (tX m0) 59 (pIs (tX m0) (pC4 (tX m0) s) 6) 0 1 = 0 := h.1.1.symm.trans z
  have z6 := pT_z zz
  have zN : pN (tX m0) s 0 1 = 0 := pI_z (pI_z (pIs_z z6))
  have q := pT_s (pN_z zN)
  have a := pv q.1
  have t := tkN_m tk a.1 a.2.1 a.2.2.1
  have nm : ld m 290 (Int.toNat z2) = tX m0 2 (s 0 0) := by
    rw [e2, g.2.2 290 _ (by decide)]
    exact t.2.2.2 q.2.1
  have k : sd s (pIs (tX m0) (pC4 (tX m0) s) 6) := sd_t (sd_t (sd_t sd_N sd_I) sd_I) (sd_Is 6)
  have c302 : rd m 302 (Int.toNat S) = s 0 10 := (h.2.2 zz).1.2.2.2.2.2.1.trans ((sd_t k sd_T) 0 10 (by omega))
  have k163 : rd m163 302 (Int.toNat S) = s 0 10 := by rw [e163, rd_wt, if_neg (by omega), e155, rd_wl]; exact c302
  have w1 : wr (s 0 10 + 1) = s 0 10 + 1 := wr_id (by omega) (by omega)
  have n155 : rd m155 284 20 = s 0 10 := by rw [e155, rd_wl, n130]; exact ev
  rw [s163, k163, w1] at e178
  rw [n155, w1] at e163
  rw [n130, ev, nm] at e155
  have F : ∀ i j : Nat, ¬ (i = 284 ∧ j = 20) → ¬ (i = 302 ∧ j = Int.toNat S) → rd m178 i j = rd m i j := fun i j a b => by rw [e178, rd_wt, if_neg b, e163, rd_wt, if_neg a, e155, rd_wl]
  have L : ∀ j : Nat, ld m178 292 j = if j = Int.toNat (s 0 10) then tX m0 2 (s 0 0) else ld m 292 j := fun j => by
    rw [e178, ld_wt, e163, ld_wt, e155, ld_wl]
    by_cases w : j = Int.toNat (s 0 10)
    · rw [if_pos ⟨rfl, w⟩, if_pos w, ← nm, wrl_id (ld_rg _ _ _).1 (ld_rg _ _ _).2]
    · rw [if_neg (fun y => w y.2), if_neg w]
  have e302 : rd m178 302 (Int.toNat S) = s 0 10 + 1 := by rw [e178, rd_wt, if_pos ⟨rfl, rfl⟩, w1]
  have e20 : rd m178 284 20 = s 0 10 + 1 := by rw [e178, rd_wt, if_neg (by omega), e163, rd_wt, if_pos ⟨rfl, rfl⟩, w1]
  refine rm_fin h (pT_ct psc_c) (fun j hj => F 284 j (by omega) (by omega)) (fun _ d => dM_sd ?_ sd_T)
  have d2 : dM (pIs (tX m0) (pC4 (tX m0) s) 6) S m := dM_sd d (fun i j hh => (sd_T i j hh).symm)
  obtain ⟨c1, c2, c3⟩ := cv z6
  obtain ⟨⟨a1, a2, a3, a4, a5, -, -⟩, h2, h3, h4, h5⟩ := d2
  have k10 : pIs (tX m0) (pC4 (tX m0) s) 6 0 10 = s 0 10 := k 0 10 (by omega)
  have en : ((Int.toNat (s 0 10) : Nat) : Int) = s 0 10 := by omega
  rw [k10] at h4 h5
  unfold pCr
  refine ⟨⟨(F 293 _ (by omega) (by omega)).trans a1, (F 294 _ (by omega) (by omega)).trans a2, (F 306 _ (by omega) (by omega)).trans a3, (F 295 _ (by omega) (by omega)).trans a4, (F 298 _ (by omega) (by omega)).trans a5, ?_, ?_⟩, fun q hq => ?_, fun q hq => ?_, fun q hq => ?_, fun q hq => ?_⟩
  · rw [e302]
    show s 0 10 + 1 = ((Int.toNat (s 0 10) : Nat) : Int) + 1
    omega
  · rw [e20]
    show s 0 10 + 1 = ((Int.toNat (s 0 10) : Nat) : Int) + 1
    omega
  · rw [F 296 _ (by omega) (by omega), F 297 _ (by omega) (by omega)]; exact h2 q hq
  · rw [F 299 _ (by omega) (by omega), F 300 _ (by omega) (by omega), F 301 _ (by omega) (by omega)]; exact h3 q hq
  · have hq2 : (q : Int) < ((Int.toNat (s 0 10) : Nat) : Int) + 1 := hq
    rw [F 303 _ (by omega) (by omega), F 304 _ (by omega) (by omega), L]
    unfold ps_c
    by_cases w : q = Int.toNat (s 0 10)
    · subst w
      rw [if_neg (by omega), if_pos ⟨rfl, rfl⟩, if_neg (by omega), if_neg (by omega), if_pos ⟨rfl, rfl⟩, if_pos rfl, if_neg (by omega), if_neg (by omega), if_neg (by omega), if_pos ⟨rfl, rfl⟩]
      rw [gf.2.1 303 _ rfl, gf.2.1 304 _ rfl]
      exact ⟨c1, c2, rfl⟩
    · rw [if_neg (by omega), if_neg (by omega), if_neg (by omega), if_neg (by omega), if_neg (by omega), if_neg (by omega), if_neg (by omega), if_neg (by omega), if_neg (by omega), if_neg (by omega), if_neg w, if_neg (by omega), if_neg (by omega), if_neg (by omega), if_neg (by omega), if_neg (by omega)]
      exact h4 q (by omega)
  · have hq2 : (q : Int) < 6 * (((Int.toNat (s 0 10) : Nat) : Int) + 1) := hq
    rw [F 305 _ (by omega) (by omega)]
    unfold ps_c
    rw [if_neg (by omega), if_neg (by omega), if_neg (by omega), if_neg (by omega)]
    by_cases w : 6 * Int.toNat (s 0 10) ≤ q
    · rw [if_pos ⟨rfl, w, by omega⟩, gf.2.1 305 _ rfl]
      have := c3 (q - 6 * Int.toNat (s 0 10)) (by omega)
      rw [show 18 * Int.toNat S + 6 * Int.toNat (s 0 10) + (q - 6 * Int.toNat (s 0 10)) = 18 * Int.toNat S + q by omega] at this
      exact this
    · rw [if_neg (by omega)]
      exact h5 q (by omega)
/-! room for one more -/
theorem ro_s {K k a b : Int} (h : RM (tX m0) N S s m) (tk : tkN m0 N) (g : PX m0 m) (gf : GX sFt m m2) (kk : ∀ c x : Int, kmR c x → (x = k ↔ c = K)) (n23 : ¬ K = 23) (hk : rd m 287 (Int.toNat (rd m 284 11)) = k) (z : rd m 284 13 = 0) (o : roP m m2 a b) : (a = b ∧ RM (tX m0) N S (pF (tX m0) 2 s) m2) ∨ (¬ a = b ∧ RM (tX m0) N S (pT (tX m0) K s) m2) := by
  by_cases e : a = b
  · exact Or.inl ⟨e, rm_F h tk g (by decide) (o.2.1 z e)⟩
  · exact Or.inr ⟨e, rm_go h tk g gf kk n23 hk z (o.2.2 z e)⟩
theorem ro_ok {X : Tk} {K a b : Int} (h : (a = b ∧ RM X N S (pF X 2 s) m) ∨ (¬ a = b ∧ RM X N S (pT X K s) m)) (z : rd m 284 13 = 0) : ¬ a = b ∧ RM X N S (pT X K s) m := by
  rcases h with q | q
  · exact absurd (q.2.1.1.symm.trans z) (pF_n (by decide))
  · exact q
theorem ro_no {X : Tk} {K a b : Int} {B : Ps} (h : (a = b ∧ RM X N S (pF X 2 s) m) ∨ (¬ a = b ∧ RM X N S (pT X K s) m)) (z : ¬ rd m 284 13 = 0) (e1 : a = b → B = pF X 2 s) (e2 : ¬ a = b → ¬ pT X K s 0 1 = 0 → ∀ j : Nat, j ≤ 4 → B 0 j = pT X K s 0 j) : RM X N S (pT X 59 B) m := by
  rcases h with q | q
  · rw [e1 q.1, pT_fz (pF_n (by decide))]
    exact q.2
  · have y : ¬ pT X K s 0 1 = 0 := fun w => z (q.2.1.1.trans w)
    have c := e2 q.1 y
    rw [pT_fz (fun w => y ((c 1 (by omega)).symm.trans w))]
    exact rm_cf q.2 y c
theorem sh_n {a : Int} (h : (a = 8 ∧ RM (tX m0) N S (pF (tX m0) 2 s) m) ∨ (¬ a = 8 ∧ RM (tX m0) N S (pT (tX m0) 1 s) m)) (z : ¬ rd m 284 13 = 0) (ea : a = s 0 8 := by omega) (hb : a ≤ 8 := by omega) : RM (tX m0) N S (pT (tX m0) 59 (pShut (tX m0) s)) m := by
  refine ro_no h z (fun e => if_pos (by omega)) (fun e y j hj => ?_)
  unfold pShut
  rw [if_neg (by omega), ps_ne (by omega), ps_ne (by omega), ps_ne (by omega), pI_fz (by rw [pI_fz y]; exact y), pI_fz y]
theorem pa_n {a : Int} (h : (a = 10 ∧ RM (tX m0) N S (pF (tX m0) 2 s) m) ∨ (¬ a = 10 ∧ RM (tX m0) N S (pT (tX m0) 2 s) m)) (z : ¬ rd m 284 13 = 0) (ea : a = s 0 9 := by omega) (hb : a ≤ 10 := by omega) : RM (tX m0) N S (pT (tX m0) 59 (pPaint (tX m0) s)) m := by
  refine ro_no h z (fun e => if_pos (by omega)) (fun e y j hj => ?_)
  unfold pPaint
  rw [if_neg (by omega), ps_ne (by omega), ps_ne (by omega), ps_ne (by omega), ps_ne (by omega), pI_fz (by rw [pI_fz (by rw [pI_fz y]; exact y), pI_fz y]; exact y), pI_fz (by rw [pI_fz y]; exact y), pI_fz y]
theorem pCrate_cr {X : Tk} (h : ¬ 3 ≤ s 0 10) : pCrate X s = pCr X (pT X 3 s) := by
  unfold pCrate pCr
  rw [if_neg h, sd_T (X := X) (k := 3) (s := s) 0 10 (by omega)]
  rfl
theorem pCr_c {X : Tk} (y : ¬ s 0 1 = 0) : ∀ j : Nat, j ≤ 4 → pCr X s 0 j = s 0 j := fun j hj => by
  have e21 : pT X 21 s = s := pT_fz y
  have eN : pN X s = s := by
    unfold pN
    rw [e21, if_neg (fun w => y w.1)]
  have e4 : pC4 X s = s := by
    unfold pC4
    rw [eN, pI_fz y, pI_fz y]
  have e6 : ∀ n : Nat, pIs X s n = s := fun n => by
    induction n with
    | zero => rfl
    | succ n ih =>
      show pI X 0 9 (pIs X s n) = s
      rw [ih, pI_fz y]
  unfold pCr
  rw [psc_c j hj, e4, e6]
theorem cr_n {a : Int} (h : (a = 3 ∧ RM (tX m0) N S (pF (tX m0) 2 s) m) ∨ (¬ a = 3 ∧ RM (tX m0) N S (pT (tX m0) 3 s) m)) (z : ¬ rd m 284 13 = 0) (ea : a = s 0 10 := by omega) (hb : a ≤ 3 := by omega) : RM (tX m0) N S (pT (tX m0) 59 (pCrate (tX m0) s)) m := by
  refine ro_no h z (fun e => if_pos (by omega)) (fun e y j hj => ?_)
  rw [pCrate_cr (by omega)]
  exact pCr_c y j hj
theorem cr_y {a : Int} {m3 : Mm} (h : (a = 3 ∧ RM (tX m0) N S (pF (tX m0) 2 s) m) ∨ (¬ a = 3 ∧ RM (tX m0) N S (pT (tX m0) 3 s) m)) (r : RM (tX m0) N S (pT (tX m0) 59 (pCr (tX m0) (pT (tX m0) 3 s))) m3) (z : rd m 284 13 = 0 := by omega) (ea : a = s 0 10 := by omega) (hb : a ≤ 3 := by omega) : RM (tX m0) N S (pT (tX m0) 59 (pCrate (tX m0) s)) m3 := by
  have q := ro_ok h z
  rw [pCrate_cr (by have := q.1; omega)]
  exact r
theorem sh_f {a : Int} (h : RM (tX m0) N S (pT (tX m0) 59 (pI (tX m0) 0 4 (pI (tX m0) 0 4 (pT (tX m0) 1 s)))) m) (z : ¬ rd m 284 13 = 0) (na : ¬ a = 8) (ea : a = s 0 8 := by omega) (hb : a ≤ 8 := by omega) : RM (tX m0) N S (pT (tX m0) 59 (pShut (tX m0) s)) m := by
  refine rm_cf h (fun w => z (h.1.1.trans w)) (pT_ct (fun j hj => ?_))
  unfold pShut
  rw [if_neg (by omega), ps_ne (by omega), ps_ne (by omega), ps_ne (by omega)]
theorem pa_f {a : Int} (h : RM (tX m0) N S (pT (tX m0) 59 (pI (tX m0) 0 9 (pI (tX m0) 0 4 (pI (tX m0) 0 4 (pT (tX m0) 2 s))))) m) (z : ¬ rd m 284 13 = 0) (na : ¬ a = 10) (ea : a = s 0 9 := by omega) (hb : a ≤ 10 := by omega) : RM (tX m0) N S (pT (tX m0) 59 (pPaint (tX m0) s)) m := by
  refine rm_cf h (fun w => z (h.1.1.trans w)) (pT_ct (fun j hj => ?_))
  unfold pPaint
  rw [if_neg (by omega), ps_ne (by omega), ps_ne (by omega), ps_ne (by omega), ps_ne (by omega)]
theorem sh_e {a k : Int} {A : Ps} (h : RM (tX m0) N S (pT (tX m0) 59 A) m) (k8 : A 0 8 = s 0 8) (n0 : 0 ≤ s 0 8 ∧ s 0 8 ≤ 8) (na : ¬ a = 8) (ex : A 0 1 = 0 → rd m 296 (8 * Int.toNat S + Int.toNat (s 0 8)) = tX m0 2 (pT (tX m0) 1 s 0 0)) (ey : A 0 1 = 0 → rd m 297 (8 * Int.toNat S + Int.toNat (s 0 8)) = tX m0 2 (pI (tX m0) 0 4 (pT (tX m0) 1 s) 0 0)) (e : m2 = wt m 295 (Int.toNat S) k) (ek : k = s 0 8 + 1) (eA : A = pI (tX m0) 0 4 (pI (tX m0) 0 4 (pT (tX m0) 1 s)) := by rfl) (ea : a = s 0 8 := by omega) : RM (tX m0) N S (pT (tX m0) 59 (pShut (tX m0) s)) m2 := by
  subst ek
  have F : ∀ a b : Nat, ¬ a = 295 → rd m2 a b = rd m a b := fun a b q => by rw [e, rd_wt, if_neg (fun w => q w.1)]
  unfold pShut
  rw [if_neg (by omega), ← eA]
  refine rm_fin h (pT_ct (fun j hj => by rw [ps_ne (by omega), ps_ne (by omega), ps_ne (by omega)])) (fun j _ => F 284 j (by omega)) (fun z d => dM_sd ?_ sd_T)
  have zA := pT_z z
  have d2 : dM A S m := dM_sd d (fun i j hh => (sd_T i j hh).symm)
  obtain ⟨⟨a1, a2, a3, -, a5, a6, a7⟩, h2, h3, h4, h5⟩ := d2
  have e8 : ps_u (ps_u (ps_u A 0 8 (s 0 8 + 1)) 1 (Int.toNat (s 0 8)) (tX m0 2 (pT (tX m0) 1 s 0 0))) 2 (Int.toNat (s 0 8)) (tX m0 2 (pI (tX m0) 0 4 (pT (tX m0) 1 s) 0 0)) 0 8 = s 0 8 + 1 := by rw [ps_ne (by omega), ps_ne (by omega), ps_eq]
  refine ⟨⟨(F 293 _ (by omega)).trans a1, (F 294 _ (by omega)).trans a2, (F 306 _ (by omega)).trans a3, ?_, (F 298 _ (by omega)).trans a5, (F 302 _ (by omega)).trans a6, (F 284 20 (by omega)).trans a7⟩, fun q hq => ?_, fun q hq => ?_, fun q hq => ?_, fun q hq => ?_⟩
  · rw [e8, e, rd_wt, if_pos ⟨rfl, rfl⟩, wr_id (by omega) (by omega)]
  · rw [e8] at hq
    rw [F 296 _ (by omega), F 297 _ (by omega), ps_ne (a := 1) (i := 2) (by omega)]
    by_cases w : q = Int.toNat (s 0 8)
    · subst w
      rw [ps_eq, ps_eq]
      exact ⟨ex zA, ey zA⟩
    · rw [ps_ne (a := 1) (by omega), ps_ne (a := 1) (by omega), ps_ne (a := 2) (by omega), ps_ne (a := 2) (by omega), ps_ne (a := 2) (by omega)]
      exact h2 q (by omega)
  · rw [F 299 _ (by omega), F 300 _ (by omega), F 301 _ (by omega)]; exact h3 q hq
  · rw [F 303 _ (by omega), F 304 _ (by omega), e, ld_wt]; exact h4 q hq
  · rw [F 305 _ (by omega)]; exact h5 q hq
theorem pa_e {a k : Int} {A : Ps} (h : RM (tX m0) N S (pT (tX m0) 59 A) m) (k9 : A 0 9 = s 0 9) (n0 : 0 ≤ s 0 9 ∧ s 0 9 ≤ 10) (na : ¬ a = 10) (ex : A 0 1 = 0 → rd m 299 (10 * Int.toNat S + Int.toNat (s 0 9)) = tX m0 2 (pT (tX m0) 2 s 0 0)) (ey : A 0 1 = 0 → rd m 300 (10 * Int.toNat S + Int.toNat (s 0 9)) = tX m0 2 (pI (tX m0) 0 4 (pT (tX m0) 2 s) 0 0)) (ew : A 0 1 = 0 → rd m 301 (10 * Int.toNat S + Int.toNat (s 0 9)) = tX m0 2 (pI (tX m0) 0 4 (pI (tX m0) 0 4 (pT (tX m0) 2 s)) 0 0)) (e : m2 = wt m 298 (Int.toNat S) k) (ek : k = s 0 9 + 1) (eA : A = pI (tX m0) 0 9 (pI (tX m0) 0 4 (pI (tX m0) 0 4 (pT (tX m0) 2 s))) := by rfl) (ea : a = s 0 9 := by omega) : RM (tX m0) N S (pT (tX m0) 59 (pPaint (tX m0) s)) m2 := by
  subst ek
  have F : ∀ a b : Nat, ¬ a = 298 → rd m2 a b = rd m a b := fun a b q => by rw [e, rd_wt, if_neg (fun w => q w.1)]
  unfold pPaint
  rw [if_neg (by omega), ← eA]
  refine rm_fin h (pT_ct (fun j hj => by rw [ps_ne (by omega), ps_ne (by omega), ps_ne (by omega), ps_ne (by omega)])) (fun j _ => F 284 j (by omega)) (fun z d => dM_sd ?_ sd_T)
  have zA := pT_z z
  have d2 : dM A S m := dM_sd d (fun i j hh => (sd_T i j hh).symm)
  obtain ⟨⟨a1, a2, a3, a4, -, a6, a7⟩, h2, h3, h4, h5⟩ := d2
  have e9 : ps_u (ps_u (ps_u (ps_u A 0 9 (s 0 9 + 1)) 3 (Int.toNat (s 0 9)) (tX m0 2 (pT (tX m0) 2 s 0 0))) 4 (Int.toNat (s 0 9)) (tX m0 2 (pI (tX m0) 0 4 (pT (tX m0) 2 s) 0 0))) 5 (Int.toNat (s 0 9)) (tX m0 2 (pI (tX m0) 0 4 (pI (tX m0) 0 4 (pT (tX m0) 2 s)) 0 0)) 0 9 = s 0 9 + 1 := by rw [ps_ne (by omega), ps_ne (by omega), ps_ne (by omega), ps_eq]
  refine ⟨⟨(F 293 _ (by omega)).trans a1, (F 294 _ (by omega)).trans a2, (F 306 _ (by omega)).trans a3, (F 295 _ (by omega)).trans a4, ?_, (F 302 _ (by omega)).trans a6, (F 284 20 (by omega)).trans a7⟩, fun q hq => ?_, fun q hq => ?_, fun q hq => ?_, fun q hq => ?_⟩
  · rw [e9, e, rd_wt, if_pos ⟨rfl, rfl⟩, wr_id (by omega) (by omega)]
  · rw [F 296 _ (by omega), F 297 _ (by omega)]; exact h2 q hq
  · rw [e9] at hq
    rw [F 299 _ (by omega), F 300 _ (by omega), F 301 _ (by omega), ps_ne (a := 3) (i := 5) (by omega), ps_ne (a := 3) (i := 4) (by omega), ps_ne (a := 4) (i := 5) (by omega)]
    by_cases w : q = Int.toNat (s 0 9)
    · subst w
      rw [ps_eq, ps_eq, ps_eq]
      exact ⟨ex zA, ey zA, ew zA⟩
    · rw [ps_ne (a := 3) (by omega), ps_ne (a := 3) (by omega), ps_ne (a := 4) (by omega), ps_ne (a := 4) (by omega), ps_ne (a := 4) (by omega), ps_ne (a := 5) (by omega), ps_ne (a := 5) (by omega), ps_ne (a := 5) (by omega), ps_ne (a := 5) (by omega)]
      exact h3 q (by omega)
  · rw [F 303 _ (by omega), F 304 _ (by omega), e, ld_wt]; exact h4 q hq
  · rw [F 305 _ (by omega)]; exact h5 q hq
theorem sz_0 {X : Tk} (k : X 0 (s 0 0) = 0) (r : RM X N S (pT X 59 (pYard X s)) m) : RM X N S (pStep X s) m := by unfold pStep; rw [tell_0 k]; exact r
theorem sz_1 {X : Tk} (k : X 0 (s 0 0) = 1) (r : RM X N S (pT X 59 (pShut X s)) m) : RM X N S (pStep X s) m := by unfold pStep; rw [tell_1 k]; exact r
theorem sz_2 {X : Tk} (k : X 0 (s 0 0) = 2) (r : RM X N S (pT X 59 (pPaint X s)) m) : RM X N S (pStep X s) m := by unfold pStep; rw [tell_2 k]; exact r
theorem sz_3 {X : Tk} (k : X 0 (s 0 0) = 3) (r : RM X N S (pT X 59 (pCrate X s)) m) : RM X N S (pStep X s) m := by unfold pStep; rw [tell_3 k]; exact r
theorem sz_8 {X : Tk} (k : X 0 (s 0 0) = 8) (r : RM X N S (pT X 59 (pSeed X s)) m) : RM X N S (pStep X s) m := by unfold pStep; rw [tell_8 k]; exact r
theorem sz_d {X : Tk} (k : 4 ≤ X 0 (s 0 0) ∧ X 0 (s 0 0) ≤ 7) (r : RM X N S (pT X 59 (pS X (pRm X (pIfs X 4 (pT X 61 (pT X (X 0 (s 0 0)) s)))))) m) : RM X N S (pStep X s) m := by
  unfold pStep
  rw [tell_d (by omega)]
  unfold pL
  rw [if_pos k]
  exact r
theorem sz_x {m394 : Mm} (kx : kmR (tX m0 0 (s 0 0)) (rd m 287 (Int.toNat (rd m 284 11)))) (h : m394 = m ∨ (¬ (24 ≤ rd m 287 (Int.toNat (rd m 284 11)) ∧ rd m 287 (Int.toNat (rd m 284 11)) ≤ 27) ∧ RM (tX m0) N S (pF (tX m0) 1 s) m394)) (z : ¬ rd m394 284 13 = 0) (p1 : rd m 284 13 = 0) (nk : ¬ (20 ≤ rd m 287 (Int.toNat (rd m 284 11)) ∧ rd m 287 (Int.toNat (rd m 284 11)) ≤ 23) ∧ ¬ rd m 287 (Int.toNat (rd m 284 11)) = 28) : RM (tX m0) N S (pStep (tX m0) s) m394 := by
  have kv := (km_v kx).2.2.2.2.2.2.2.2.2
  rcases h with q | q
  · rw [q] at z
    exact absurd p1 z
  · unfold pStep
    rw [tell_d (by omega)]
    unfold pL
    rw [if_neg (by have := q.1; omega), pT_fz (pF_n (by decide))]
    exact q.2
end RMT
