section RCT
variable {X : Tk} {s : Ps} {m m2 : Mm}
theorem rc_k (h : RC s m) (z : s 0 1 = 0) (hX : tX m = X) : X 0 (s 0 0) = rd m 2 (Int.toNat (rd m 19 4)) := by
  subst hX
  rw [(h.1.2.2 z).1]
  rfl
theorem rc_la {k p : Int} (h : RC s m) (hk : ¬ k = 0) (z : s 0 1 = 0) (g : GX sTk m m2) (t : ((rd m 19 6 = 0 ∧ rd m2 19 6 = k ∧ rd m2 19 7 = p) ∨ (¬ rd m 19 6 = 0 ∧ rd m2 19 6 = rd m 19 6 ∧ rd m2 19 7 = rd m 19 7)) ∧ rd m2 19 0 = rd m 19 0 ∧ rd m2 19 4 = rd m 19 4 ∧ rd m2 19 5 = rd m 19 5) : RC (ps_l s k p) m2 := by
  obtain ⟨t1, t2, t3, t4⟩ := t
  have c := cR_la h.1 hk z t1
  refine ⟨?_, fun _ => ?_⟩
  · rw [t2, t3, t4]; exact c
  · rw [t2]
    exact ⟨(h.2 z).1, dC_sd (dC_fr (h.2 z).2 (suF_tk g)) sd_l⟩
theorem pl_3 {k p : Int} (hk : ¬ k = 0) : ¬ ps_l s k p 0 3 = 0 := by
  unfold ps_l
  split
  · exact hk
  · assumption
theorem pl_pl {k p : Int} (hk : ¬ k = 0) : ps_l (ps_l s k p) k p = ps_l s k p := if_neg (pl_3 hk)
/-- the name, compared with n others -/
def nmI (X : Tk) (s : Ps) (n : Nat) : Ps := if dupC (s 9) (X 2 (s 0 0)) n = 0 then pT X 21 s else ps_l (pT X 21 s) 3 (X 1 (s 0 0))
theorem sd_nm {n : Nat} : sd s (nmI X s n) := by
  unfold nmI
  split
  · exact sd_T
  · exact sd_t sd_T sd_l
theorem nm_1 {n : Nat} (z : pT X 21 s 0 1 = 0) : nmI X s n 0 1 = 0 := by
  unfold nmI
  split
  · exact z
  · rw [pl_1]; exact z
theorem nm_0 {m29 : Mm} {v : Int} (h : RC s m) (c : RC (pT X 21 s) m29) (t : tkP m m29 21 v) (hv : ¬ v = 0) : (s 0 1 = 0 ∧ pT X 21 s 0 1 = 0) ∧ RC (nmI X s (Int.toNat 0)) m29 := by
  have y := t.1
  have z5 : rd m 19 5 = 0 ∧ rd m29 19 5 = 0 := by omega
  exact ⟨⟨h.1.1.symm.trans z5.1, c.1.1.symm.trans z5.2⟩, c⟩
theorem nm_f {m29 : Mm} {v : Int} (c : RC (pT X 21 s) m29) (t : tkP m m29 21 v) (hv : v = 0) {j : Nat} {y : Int} : RC (pN X s) m29 ∧ (pN X s 0 1 = 0 → ld m29 29 j = y) := by
  have q := t.1
  have z5 : ¬ rd m29 19 5 = 0 := by omega
  have z : ¬ pT X 21 s 0 1 = 0 := fun w => z5 (c.1.1.trans w)
  have e : pN X s = pT X 21 s := if_neg (fun w => z w.1)
  rw [e]
  exact ⟨c, fun w => absurd w z⟩
theorem nm_n {m39 : Mm} {x z1 : Int} (h : RC s m) (hX : tX m = X) (z : s 0 1 = 0 ∧ pT X 21 s 0 1 = 0) (c : RC (nmI X s (Int.toNat x)) m39) (x0 : 0 ≤ x) (xl : x < rd m39 19 13) (e1 : z1 = ld m 4 (Int.toNat (rd m 19 4))) (ne : ¬ ld m39 29 (Int.toNat x) = z1) : RC (nmI X s (Int.toNat x + 1)) m39 := by
  have d := (c.2 (nm_1 z.2)).2
  have en : rd m39 19 13 = s 0 10 := d.1.2.2.2.2.2.trans (sd_nm 0 10 (by omega))
  have el : ld m39 29 (Int.toNat x) = s 9 (Int.toNat x) := (d.2.2.2.1 (Int.toNat x) (by rw [sd_nm 0 10 (by omega)]; omega)).2.2.trans (sd_nm 9 _ (by omega))
  have ex : X 2 (s 0 0) = z1 := by subst hX; rw [e1, (h.1.2.2 z.1).1]; rfl
  have e : nmI X s (Int.toNat x + 1) = nmI X s (Int.toNat x) := by
    unfold nmI
    rw [show dupC (s 9) (X 2 (s 0 0)) (Int.toNat x + 1) = dupC (s 9) (X 2 (s 0 0)) (Int.toNat x) from if_neg (fun w => ne (el.trans (w.trans ex)))]
  rw [e]
  exact c
theorem nm_y {m39 m63 : Mm} {x z1 z3 : Int} (h : RC s m) (hX : tX m = X) (z : s 0 1 = 0 ∧ pT X 21 s 0 1 = 0) (c : RC (nmI X s (Int.toNat x)) m39) (x0 : 0 ≤ x) (xl : x < rd m39 19 13) (e1 : z1 = ld m 4 (Int.toNat (rd m 19 4))) (eq : ld m39 29 (Int.toNat x) = z1) (e3 : z3 = rd m 3 (Int.toNat (rd m 19 4))) (g : GX sTk m39 m63) (t : ((rd m39 19 6 = 0 ∧ rd m63 19 6 = 3 ∧ rd m63 19 7 = z3) ∨ (¬ rd m39 19 6 = 0 ∧ rd m63 19 6 = rd m39 19 6 ∧ rd m63 19 7 = rd m39 19 7)) ∧ rd m63 19 0 = rd m39 19 0 ∧ rd m63 19 4 = rd m39 19 4 ∧ rd m63 19 5 = rd m39 19 5) : RC (nmI X s (Int.toNat x + 1)) m63 := by
  have d := (c.2 (nm_1 z.2)).2
  have el : ld m39 29 (Int.toNat x) = s 9 (Int.toNat x) := (d.2.2.2.1 (Int.toNat x) (by have en : rd m39 19 13 = s 0 10 := d.1.2.2.2.2.2.trans (sd_nm 0 10 (by omega)); rw [sd_nm 0 10 (by omega)]; omega)).2.2.trans (sd_nm 9 _ (by omega))
  have ex : X 2 (s 0 0) = z1 := by subst hX; rw [e1, (h.1.2.2 z.1).1]; rfl
  have ep : X 1 (s 0 0) = z3 := by subst hX; rw [e3, (h.1.2.2 z.1).1]; rfl
  have e : nmI X s (Int.toNat x + 1) = ps_l (pT X 21 s) 3 (X 1 (s 0 0)) := by
    unfold nmI
    rw [show dupC (s 9) (X 2 (s 0 0)) (Int.toNat x + 1) = 1 from if_pos (el.symm.trans (eq.trans ex.symm))]
    exact if_neg (by decide)
  have r := rc_la c (k := 3) (p := z3) (by decide) (nm_1 z.2) g t
  rw [e, ep]
  have e2 : ps_l (nmI X s (Int.toNat x)) 3 z3 = ps_l (pT X 21 s) 3 z3 := by
    unfold nmI
    rw [ep]
    split
    · rfl
    · exact pl_pl (by decide)
  rw [e2] at r
  exact r
theorem nc_e {m39 m81 : Mm} {x z1 : Int} (h : RC s m) (hX : tX m = X) (z : s 0 1 = 0 ∧ pT X 21 s 0 1 = 0) (c : RC (nmI X s (Int.toNat x)) m39) (ex : x = rd m39 19 13) (en0 : rd m39 19 13 = rd m 19 13) (e1 : z1 = ld m 4 (Int.toNat (rd m 19 4))) (e81 : m81 = wl m39 29 (Int.toNat (rd m39 19 13)) z1) : RC (pN X s) m81 ∧ (pN X s 0 1 = 0 → ld m81 29 (Int.toNat (rd m 19 13)) = X 2 (s 0 0)) := by
  have d := (c.2 (nm_1 z.2)).2
  have en : rd m39 19 13 = s 0 10 := d.1.2.2.2.2.2.trans (sd_nm 0 10 (by omega))
  have e : nmI X s (Int.toNat x) = pN X s := by
    unfold nmI pN
    rw [ex, en]
    by_cases q : dupC (s 9) (X 2 (s 0 0)) (Int.toNat (s 0 10)) = 0
    · rw [if_pos q, if_neg (fun w => w.2 q)]
    · rw [if_neg q, if_pos ⟨z.2, q⟩]
  rw [e] at c
  refine ⟨rc_w29 c e81 (fun _ => by rw [sd_N 0 10 (by omega)]; omega), fun _ => ?_⟩
  rw [e81, en0, ld_wl, if_pos ⟨rfl, rfl⟩, e1, wrl_id (ld_rg _ _ _).1 (ld_rg _ _ _).2]
  subst hX
  rw [(h.1.2.2 z.1).1]
  rfl
theorem rc_ct {m56 m64 : Mm} {s2 : Ps} {j : Nat} {v : Int} (h : RC s m56) (e : m64 = wt m56 19 j v) (hj : 8 ≤ j) (c : ∀ k : Nat, k ≤ 4 → s2 0 k = s 0 k) (d : s 0 1 = 0 → dC s m56 → dC s2 m64) : RC s2 m64 := by
  have F : ∀ k, k ≤ 7 → rd m64 19 k = rd m56 19 k := fun k hk => by rw [e, rd_wt, if_neg (by omega)]
  unfold RC cR
  rw [F 5 (by omega), F 0 (by omega), F 4 (by omega), F 6 (by omega), F 7 (by omega), c 0 (by omega), c 1 (by omega), c 2 (by omega), c 3 (by omega), c 4 (by omega)]
  exact ⟨h.1, fun z => ⟨(h.2 z).1, d z (h.2 z).2⟩⟩
theorem rc_f8 {v x : Int} (h : RC s m) (e : m2 = wt m 19 8 v) (r : rg v) (hx : s 0 1 = 0 → v = x) : RC (ps_u s 0 5 x) m2 := by
  refine rc_ct h e (by decide) (fun k hk => ps_ne (by omega)) (fun z d => ?_)
  have F : ∀ a b : Nat, ¬ (a = 19 ∧ b = 8) → rd m2 a b = rd m a b := fun a b q => by rw [e, rd_wt, if_neg q]
  obtain ⟨⟨-, a2, a3, a4, a5, a6⟩, h2, h3, h4, h5⟩ := d
  refine ⟨⟨?_, (F 19 9 (by omega)).trans a2, (F 19 10 (by omega)).trans a3, (F 19 11 (by omega)).trans a4, (F 19 12 (by omega)).trans a5, (F 19 13 (by omega)).trans a6⟩, fun q hq => ?_, fun q hq => ?_, fun q hq => ?_, fun q hq => ?_⟩
  · rw [ps_eq, e, rd_wt, if_pos ⟨rfl, rfl⟩, wr_i r]; exact hx z
  · rw [F 25 _ (by omega), F 25 _ (by omega)]; exact h2 q hq
  · rw [F 26 _ (by omega), F 26 _ (by omega), F 26 _ (by omega)]; exact h3 q hq
  · rw [F 27 _ (by omega), F 27 _ (by omega), e, ld_wt]; exact h4 q hq
  · rw [F 28 _ (by omega)]; exact h5 q hq
theorem rc_f9 {v x : Int} (h : RC s m) (e : m2 = wt m 19 9 v) (r : rg v) (hx : s 0 1 = 0 → v = x) : RC (ps_u s 0 6 x) m2 := by
  refine rc_ct h e (by decide) (fun k hk => ps_ne (by omega)) (fun z d => ?_)
  have F : ∀ a b : Nat, ¬ (a = 19 ∧ b = 9) → rd m2 a b = rd m a b := fun a b q => by rw [e, rd_wt, if_neg q]
  obtain ⟨⟨a1, -, a3, a4, a5, a6⟩, h2, h3, h4, h5⟩ := d
  refine ⟨⟨(F 19 8 (by omega)).trans a1, ?_, (F 19 10 (by omega)).trans a3, (F 19 11 (by omega)).trans a4, (F 19 12 (by omega)).trans a5, (F 19 13 (by omega)).trans a6⟩, fun q hq => ?_, fun q hq => ?_, fun q hq => ?_, fun q hq => ?_⟩
  · rw [ps_eq, e, rd_wt, if_pos ⟨rfl, rfl⟩, wr_i r]; exact hx z
  · rw [F 25 _ (by omega), F 25 _ (by omega)]; exact h2 q hq
  · rw [F 26 _ (by omega), F 26 _ (by omega), F 26 _ (by omega)]; exact h3 q hq
  · rw [F 27 _ (by omega), F 27 _ (by omega), e, ld_wt]; exact h4 q hq
  · rw [F 28 _ (by omega)]; exact h5 q hq
theorem rc_f10 {v x : Int} (h : RC s m) (e : m2 = wt m 19 10 v) (r : rg v) (hx : s 0 1 = 0 → v = x) : RC (ps_u s 0 7 x) m2 := by
  refine rc_ct h e (by decide) (fun k hk => ps_ne (by omega)) (fun z d => ?_)
  have F : ∀ a b : Nat, ¬ (a = 19 ∧ b = 10) → rd m2 a b = rd m a b := fun a b q => by rw [e, rd_wt, if_neg q]
  obtain ⟨⟨a1, a2, -, a4, a5, a6⟩, h2, h3, h4, h5⟩ := d
  refine ⟨⟨(F 19 8 (by omega)).trans a1, (F 19 9 (by omega)).trans a2, ?_, (F 19 11 (by omega)).trans a4, (F 19 12 (by omega)).trans a5, (F 19 13 (by omega)).trans a6⟩, fun q hq => ?_, fun q hq => ?_, fun q hq => ?_, fun q hq => ?_⟩
  · rw [ps_eq, e, rd_wt, if_pos ⟨rfl, rfl⟩, wr_i r]; exact hx z
  · rw [F 25 _ (by omega), F 25 _ (by omega)]; exact h2 q hq
  · rw [F 26 _ (by omega), F 26 _ (by omega), F 26 _ (by omega)]; exact h3 q hq
  · rw [F 27 _ (by omega), F 27 _ (by omega), e, ld_wt]; exact h4 q hq
  · rw [F 28 _ (by omega)]; exact h5 q hq
theorem rc_sh {m56 m64 : Mm} {n x y k : Int} (h : RC s m56) (hn : s 0 8 = n) (h0 : 0 ≤ n ∧ n ≤ 7) (ex : s 0 1 = 0 → rd m56 25 (2 * Int.toNat n) = x) (ey : s 0 1 = 0 → rd m56 25 (2 * Int.toNat n + 1) = y) (e : m64 = wt m56 19 11 k) (ek : k = n + 1) : RC (ps_u (ps_u (ps_u s 0 8 (n + 1)) 1 (Int.toNat n) x) 2 (Int.toNat n) y) m64 := by
  subst ek
  refine rc_ct h e (by decide) (fun k hk => by rw [ps_ne (by omega), ps_ne (by omega), ps_ne (by omega)]) (fun z d => ?_)
  have F : ∀ a b : Nat, ¬ (a = 19 ∧ b = 11) → rd m64 a b = rd m56 a b := fun a b q => by rw [e, rd_wt, if_neg q]
  have e8 : ps_u (ps_u (ps_u s 0 8 (n + 1)) 1 (Int.toNat n) x) 2 (Int.toNat n) y 0 8 = n + 1 := by rw [ps_ne (by omega), ps_ne (by omega), ps_eq]
  obtain ⟨⟨a1, a2, a3, a4, a5, a6⟩, h2, h3, h4, h5⟩ := d
  refine ⟨⟨(F 19 8 (by omega)).trans a1, (F 19 9 (by omega)).trans a2, (F 19 10 (by omega)).trans a3, ?_, (F 19 12 (by omega)).trans a5, (F 19 13 (by omega)).trans a6⟩, fun q hq => ?_, fun q hq => ?_, fun q hq => ?_, fun q hq => ?_⟩
  · rw [e8, e, rd_wt, if_pos ⟨rfl, rfl⟩, wr_id (by omega) (by omega)]
  · rw [e8] at hq
    rw [F 25 _ (by omega), F 25 _ (by omega), ps_ne (a := 1) (i := 2) (by omega)]
    by_cases w : q = Int.toNat n
    · subst w
      rw [ps_eq, ps_eq]
      exact ⟨ex z, ey z⟩
    · rw [ps_ne (by omega), ps_ne (by omega), ps_ne (by omega), ps_ne (by omega), ps_ne (by omega)]
      exact h2 q (by omega)
  · rw [F 26 _ (by omega), F 26 _ (by omega), F 26 _ (by omega)]; exact h3 q hq
  · rw [F 27 _ (by omega), F 27 _ (by omega), e, ld_wt]; exact h4 q hq
  · rw [F 28 _ (by omega)]; exact h5 q hq
theorem rc_pa {m56 m64 : Mm} {n x y w k : Int} (h : RC s m56) (hn : s 0 9 = n) (h0 : 0 ≤ n ∧ n ≤ 9) (ex : s 0 1 = 0 → rd m56 26 (3 * Int.toNat n) = x) (ey : s 0 1 = 0 → rd m56 26 (3 * Int.toNat n + 1) = y) (ew : s 0 1 = 0 → rd m56 26 (3 * Int.toNat n + 2) = w) (e : m64 = wt m56 19 12 k) (ek : k = n + 1) : RC (ps_u (ps_u (ps_u (ps_u s 0 9 (n + 1)) 3 (Int.toNat n) x) 4 (Int.toNat n) y) 5 (Int.toNat n) w) m64 := by
  subst ek
  refine rc_ct h e (by decide) (fun k hk => by rw [ps_ne (by omega), ps_ne (by omega), ps_ne (by omega), ps_ne (by omega)]) (fun z d => ?_)
  have F : ∀ a b : Nat, ¬ (a = 19 ∧ b = 12) → rd m64 a b = rd m56 a b := fun a b q => by rw [e, rd_wt, if_neg q]
  have e9 : ps_u (ps_u (ps_u (ps_u s 0 9 (n + 1)) 3 (Int.toNat n) x) 4 (Int.toNat n) y) 5 (Int.toNat n) w 0 9 = n + 1 := by rw [ps_ne (by omega), ps_ne (by omega), ps_ne (by omega), ps_eq]
  obtain ⟨⟨a1, a2, a3, a4, a5, a6⟩, h2, h3, h4, h5⟩ := d
  refine ⟨⟨(F 19 8 (by omega)).trans a1, (F 19 9 (by omega)).trans a2, (F 19 10 (by omega)).trans a3, (F 19 11 (by omega)).trans a4, ?_, (F 19 13 (by omega)).trans a6⟩, fun q hq => ?_, fun q hq => ?_, fun q hq => ?_, fun q hq => ?_⟩
  · rw [e9, e, rd_wt, if_pos ⟨rfl, rfl⟩, wr_id (by omega) (by omega)]
  · rw [F 25 _ (by omega), F 25 _ (by omega)]; exact h2 q hq
  · rw [e9] at hq
    rw [F 26 _ (by omega), F 26 _ (by omega), F 26 _ (by omega), ps_ne (a := 3) (i := 5) (by omega), ps_ne (a := 3) (i := 4) (by omega), ps_ne (a := 4) (i := 5) (by omega)]
    by_cases w : q = Int.toNat n
    · subst w
      rw [ps_eq, ps_eq, ps_eq]
      exact ⟨ex z, ey z, ew z⟩
    · rw [ps_ne (a := 3) (by omega), ps_ne (a := 3) (by omega), ps_ne (a := 4) (by omega), ps_ne (a := 4) (by omega), ps_ne (a := 4) (by omega), ps_ne (a := 5) (by omega), ps_ne (a := 5) (by omega), ps_ne (a := 5) (by omega), ps_ne (a := 5) (by omega)]
      exact h3 q (by omega)
  · rw [F 27 _ (by omega), F 27 _ (by omega), e, ld_wt]; exact h4 q hq
  · rw [F 28 _ (by omega)]; exact h5 q hq
/-- what a crate's sentence has laid, k faces of it -/
def crV (X : Tk) (s : Ps) (n : Nat) (m : Mm) (k : Nat) : Prop := rd m 27 (2 * n) = X 2 (pN X (pT X 3 s) 0 0) ∧ rd m 27 (2 * n + 1) = X 2 (pI X 0 4 (pN X (pT X 3 s)) 0 0) ∧ ld m 29 n = X 2 (pT X 3 s 0 0) ∧ ∀ j : Nat, j < k → rd m 28 (6 * n + j) = X 2 (pIs X (pC3 X s) j 0 0)
theorem cv_s {m62 m85 m88 : Mm} {n k i : Nat} {v : Int} (h : crV X s n m62 k) (g : GX sTk m62 m85) (e : m88 = wt m85 28 i v) (ei : i = 6 * n + k) (r : rg v) (ev : v = X 2 (pIs X (pC3 X s) k 0 0)) : crV X s n m88 (k + 1) := by
  obtain ⟨h1, h2, h3, h4⟩ := h
  refine ⟨?_, ?_, ?_, fun j hj => ?_⟩
  · rw [e, rd_wt, if_neg (by omega), g.2.1 27 _ rfl]; exact h1
  · rw [e, rd_wt, if_neg (by omega), g.2.1 27 _ rfl]; exact h2
  · rw [e, ld_wt, g.2.2]; exact h3
  · by_cases q : j = k
    · subst q
      rw [e, rd_wt, if_pos ⟨rfl, ei.symm⟩, wr_i r]; exact ev
    · rw [e, rd_wt, if_neg (by omega), g.2.1 28 _ rfl]; exact h4 j (by omega)
theorem rc_cr {m62 m102 : Mm} {s0 : Ps} {n k : Int} (h : RC s m62) (hn : s 0 10 = n) (h0 : 0 ≤ n ∧ n ≤ 2) (v : s 0 1 = 0 → crV X s0 (Int.toNat n) m62 6) (e : m102 = wt m62 19 13 k) (ek : k = n + 1) : RC (ps_c s (Int.toNat n) (X 2 (pN X (pT X 3 s0) 0 0)) (X 2 (pI X 0 4 (pN X (pT X 3 s0)) 0 0)) (X 2 (pT X 3 s0 0 0)) (fun j => X 2 (pIs X (pC3 X s0) j 0 0))) m102 := by
  subst ek
  refine rc_ct h e (by decide) (fun k hk => by unfold ps_c; rw [if_neg (by omega), if_neg (by omega), if_neg (by omega), if_neg (by omega), if_neg (by omega)]) (fun z d => ?_)
  have F : ∀ a b : Nat, ¬ (a = 19 ∧ b = 13) → rd m102 a b = rd m62 a b := fun a b q => by rw [e, rd_wt, if_neg q]
  obtain ⟨v1, v2, v3, v4⟩ := v z
  obtain ⟨⟨a1, a2, a3, a4, a5, a6⟩, h2, h3, h4, h5⟩ := d
  refine ⟨⟨(F 19 8 (by omega)).trans a1, (F 19 9 (by omega)).trans a2, (F 19 10 (by omega)).trans a3, (F 19 11 (by omega)).trans a4, (F 19 12 (by omega)).trans a5, ?_⟩, fun q hq => ?_, fun q hq => ?_, fun q hq => ?_, fun q hq => ?_⟩
  · rw [e, rd_wt, if_pos ⟨rfl, rfl⟩, wr_id (by omega) (by omega)]
    show n + 1 = ((Int.toNat n : Nat) : Int) + 1
    omega
  · rw [F 25 _ (by omega), F 25 _ (by omega)]; exact h2 q hq
  · rw [F 26 _ (by omega), F 26 _ (by omega), F 26 _ (by omega)]; exact h3 q hq
  · have hq2 : (q : Int) < ((Int.toNat n : Nat) : Int) + 1 := hq
    rw [F 27 _ (by omega), F 27 _ (by omega), e, ld_wt]
    unfold ps_c
    by_cases w : q = Int.toNat n
    · subst w
      rw [if_neg (by omega), if_pos ⟨rfl, rfl⟩, if_neg (by omega), if_neg (by omega), if_pos ⟨rfl, rfl⟩, if_neg (by omega), if_neg (by omega), if_neg (by omega), if_pos ⟨rfl, rfl⟩]
      exact ⟨v1, v2, v3⟩
    · rw [if_neg (by omega), if_neg (by omega), if_neg (by omega), if_neg (by omega), if_neg (by omega), if_neg (by omega), if_neg (by omega), if_neg (by omega), if_neg (by omega), if_neg (by omega), if_neg (by omega), if_neg (by omega), if_neg (by omega), if_neg (by omega), if_neg (by omega)]
      exact h4 q (by omega)
  · have hq2 : (q : Int) < 6 * (((Int.toNat n : Nat) : Int) + 1) := hq
    rw [F 28 _ (by omega)]
    unfold ps_c
    rw [if_neg (by omega), if_neg (by omega), if_neg (by omega), if_neg (by omega)]
    by_cases w : 6 * Int.toNat n ≤ q
    · rw [if_pos ⟨rfl, w, by omega⟩]
      have := v4 (q - 6 * Int.toNat n) (by omega)
      rw [show 6 * Int.toNat n + (q - 6 * Int.toNat n) = q by omega] at this
      exact this
    · rw [if_neg (by omega)]
      exact h5 q (by omega)
/-! laws -/
theorem if_B {m41 m129 : Mm} {S : Ps} {x z : Int} (h : ∃ s2 : Ps, RC s2 m41 ∧ pIfs X (Int.toNat (4 - x)) s2 = S) (hX : tX m41 = X) (ex : 0 ≤ x ∧ x < 4 ∧ z = x + 1) (f0 : rd m41 19 5 = 0) (k9 : rd m41 2 (Int.toNat (rd m41 19 4)) = 9) (c : ∀ s : Ps, RC s m41 → RC (pIf X s) m129) : ∃ s2 : Ps, RC s2 m129 ∧ pIfs X (Int.toNat (4 - z)) s2 = S := by
  obtain ⟨s2, a, b⟩ := h
  have z0 : s2 0 1 = 0 := a.1.1.symm.trans f0
  refine ⟨pIf X s2, c s2 a, ?_⟩
  rw [← b, show Int.toNat (4 - x) = Int.toNat (4 - z) + 1 by omega]
  exact (ifs_st ⟨z0, (rc_k a z0 hX).trans k9⟩).symm
theorem if_R {m41 : Mm} {S : Ps} {n : Nat} (h : ∃ s2 : Ps, RC s2 m41 ∧ pIfs X n s2 = S) (hX : tX m41 = X) (c : n = 0 ∨ ¬ rd m41 19 5 = 0 ∨ ¬ rd m41 2 (Int.toNat (rd m41 19 4)) = 9) : RC S m41 := by
  obtain ⟨s2, a, b⟩ := h
  rw [← b]
  rcases c with rfl | c | c
  · exact a
  · rw [ifs_no (fun w => c (a.1.1.trans w.1))]; exact a
  · rw [ifs_no (fun w => c ((rc_k a w.1 hX).symm.trans w.2))]; exact a
theorem rm_0 (a : RC s m) (hX : tX m = X) (c : ¬ rd m 2 (Int.toNat (rd m 19 4)) = 9) : RC (pRm X s) m := by
  unfold pRm
  rw [if_neg (fun w => c ((rc_k a w.1 hX).symm.trans w.2))]
  exact a
theorem rm_1 (a : RC s m) (hX : tX m = X) (c : rd m 2 (Int.toNat (rd m 19 4)) = 9) (f : RC (pF X 2 s) m2) : RC (pRm X s) m2 := by
  have e : pRm X s = pF X 2 s := by
    unfold pRm pF
    by_cases z : s 0 1 = 0
    · rw [if_pos ⟨z, (rc_k a z hX).trans c⟩, if_pos z]
    · rw [if_neg (fun w => z w.1), if_neg z]
  rw [e]
  exact f
theorem tell_0 {w : Int} (h : w = 0) : pTell X w s = pYard X s := if_pos h
theorem tell_1 {w : Int} (h : w = 1) : pTell X w s = pShut X s := by unfold pTell; rw [if_neg (by omega), if_pos h]
theorem tell_2 {w : Int} (h : w = 2) : pTell X w s = pPaint X s := by unfold pTell; rw [if_neg (by omega), if_neg (by omega), if_pos h]
theorem tell_3 {w : Int} (h : w = 3) : pTell X w s = pCrate X s := by unfold pTell; rw [if_neg (by omega), if_neg (by omega), if_neg (by omega), if_pos h]
theorem tell_8 {w : Int} (h : w = 8) : pTell X w s = pSeed X s := by unfold pTell; rw [if_neg (by omega), if_neg (by omega), if_neg (by omega), if_neg (by omega), if_pos h]
theorem tell_d {w : Int} (h : ¬ w = 0 ∧ ¬ w = 1 ∧ ¬ w = 2 ∧ ¬ w = 3 ∧ ¬ w = 8) : pTell X w s = pL X w s := by unfold pTell; rw [if_neg (by omega), if_neg (by omega), if_neg (by omega), if_neg (by omega), if_neg (by omega)]
end RCT
-- TippedCrates$Reader.takeName()V
set_option maxRecDepth 20000 in
theorem cx_45 {m0 m : Mm}   (g_m : RX m0 m)  (p0 : rd m 19 13 ≤ 2) : CV 2 45 [.ref 19] m (fun m2 => RX m0 m2 ∧ ((rd m2 19 13 = rd m 19 13) ∧ (∀ s : Ps, RC s m → RC (pN (tX m0) s) m2 ∧ (pN (tX m0) s 0 1 = 0 → ld m2 29 (Int.toNat (rd m 19 13)) = (tX m0) 2 (s 0 0))))) := by
  refine br_45  ?_
  unfold P_45
  have t1 := ty_19_4 g_m.1
  refine ⟨⟨by omega, by omega⟩, ?_⟩
  intro z1_12 e_z1_12
  have r_z1_12 : rgl z1_12 := by rw [e_z1_12]; exact (ld_rg _ _ _)
  refine ⟨⟨by omega, by omega⟩, ?_⟩
  intro z3_25 e_z3_25
  have r_z3_25 : rg z3_25 := by rw [e_z3_25]; exact (rd_rg _ _ _)
  refine CK.mono (ct_39   g_m.1 (by unfold rg; decide)) (by decide) ?_
  rintro m29 v29 r_v29 ⟨hx_m29, h_m29⟩
  have g_m29 : RX m0 m29 := RX.tk g_m hx_m29 (by omega) (by omega)
  have c13_m29 : rd m29 19 13 = rd m 19 13 := hx_m29.2.1 19 13 rfl
  have c29 : ∀ s : Ps, RC s m → RC (pT (tX m0) 21 s) m29 := fun s h => rc_T h hx_m29 (tX_rx g_m) h_m29
  refine ⟨fun hq => ?_, fun hq => ?_⟩
  · skip
    refine ⟨fun x4_39 m_39 => RX m0 m_39 ∧ ((0 ≤ x4_39 ∧ x4_39 ≤ 3 ∧ rd m_39 19 13 = rd m 19 13) ∧ (x4_39 ≤ rd m_39 19 13 ∧ ∀ s : Ps, RC s m → (s 0 1 = 0 ∧ pT (tX m0) 21 s 0 1 = 0) ∧ RC (nmI (tX m0) s (Int.toNat x4_39)) m_39)), fun x4_39 m_39 => Int.toNat (3 - x4_39), ?_, ?_⟩
    · exact ⟨g_m29, by exact ⟨by first | omega | (refine ⟨?_, ?_⟩ <;> omega) | trivial, by exact ⟨by have := ty_19_13 g_m29.1; omega, fun s h => nm_0 h (c29 s h) h_m29 (by omega)⟩⟩⟩
    · intro x4_39 m_39 r_x4_39 hI_39
      obtain ⟨g_m_39, hI_39⟩ := hI_39
      obtain ⟨hI_39, cI_39⟩ := hI_39
      have t3 := ty_19_13 g_m_39.1
      refine ⟨fun hq => ?_, fun hq => ?_⟩
      · skip
        refine ⟨⟨by omega, by omega⟩, ?_⟩
        intro m81 e_m81
        have g_m81 : RX m0 m81 := by rw [e_m81]; exact RX.wl g_m_39
        exact ⟨g_m81, by exact ⟨by first | omega | (rw [e_m81, rd_wl]; omega), by first | exact fun s h => nm_f (c29 s h) h_m29 (by omega) | exact fun s h => nc_e h (tX_rx g_m) (cI_39.2 s h).1 (cI_39.2 s h).2 (by omega) (by omega) e_z1_12 e_m81⟩⟩
      · skip
        refine ⟨⟨by omega, by omega⟩, ?_⟩
        refine ⟨fun m_66 => RX m0 m_66 ∧ ((rd m_66 19 13 = rd m 19 13) ∧ (∀ s : Ps, RC s m → RC (nmI (tX m0) s (Int.toNat x4_39 + 1)) m_66)), ?_, ?_⟩
        · skip
          refine ⟨fun hq => ?_, fun hq => ?_⟩
          · skip
            exact ⟨g_m_39, by exact ⟨by first | trivial | omega | (refine ⟨?_, ?_⟩ <;> omega), by first | exact fun s h => nm_n h (tX_rx g_m) (cI_39.2 s h).1 (cI_39.2 s h).2 (by omega) (by omega) e_z1_12 (fun w => hq (lcm_z.mpr w)) | exact fun s h => nm_y h (tX_rx g_m) (cI_39.2 s h).1 (cI_39.2 s h).2 (by omega) (by omega) e_z1_12 (lcm_z.mp hq) e_z3_25 hx_m63 h_m63⟩⟩
          · skip
            refine CV.mono (ct_38   g_m_39.1 (by unfold rg; decide) r_z3_25) (by decide) ?_
            rintro m63 ⟨hx_m63, h_m63⟩
            have g_m63 : RX m0 m63 := RX.tk g_m_39 hx_m63 (by omega) (by omega)
            have c13_m63 : rd m63 19 13 = rd m_39 19 13 := hx_m63.2.1 19 13 rfl
            exact ⟨g_m63, by exact ⟨by first | trivial | omega | (refine ⟨?_, ?_⟩ <;> omega), by first | exact fun s h => nm_n h (tX_rx g_m) (cI_39.2 s h).1 (cI_39.2 s h).2 (by omega) (by omega) e_z1_12 (fun w => hq (lcm_z.mpr w)) | exact fun s h => nm_y h (tX_rx g_m) (cI_39.2 s h).1 (cI_39.2 s h).2 (by omega) (by omega) e_z1_12 (lcm_z.mp hq) e_z3_25 hx_m63 h_m63⟩⟩
        · intro m_66  hR_66
          obtain ⟨g_m_66, hR_66⟩ := hR_66
          obtain ⟨hR_66, cR_66⟩ := hR_66
          try have w4 : wr (x4_39 + 1) = x4_39 + 1 := wr_id (by omega) (by omega)
          intro z4_66 e_z4_66
          have r_z4_66 : rg z4_66 := by rw [e_z4_66]; exact wr_rg _
          have xr : x4_39 + 1 ≤ rd m_66 19 13 := by omega
          exact ⟨⟨g_m_66, by exact ⟨by first | omega | (refine ⟨?_, ?_⟩ <;> omega) | trivial, by exact ⟨by omega, fun s h => by rw [show Int.toNat z4_66 = Int.toNat x4_39 + 1 by omega]; exact ⟨(cI_39.2 s h).1, cR_66 s h⟩⟩⟩⟩, by (try dsimp only); omega⟩
  · skip
    exact ⟨g_m29, by exact ⟨by first | omega | (rw [e_m81, rd_wl]; omega), by first | exact fun s h => nm_f (c29 s h) h_m29 (by omega) | exact fun s h => nc_e h (tX_rx g_m) (cI_39.2 s h).1 (cI_39.2 s h).2 (by omega) (by omega) e_z1_12 e_m81⟩⟩
-- TippedCrates$Reader.readShut()V
set_option maxRecDepth 20000 in
theorem cx_42 {m0 m : Mm}   (g_m : RX m0 m)   : CV 3 42 [.ref 19] m (fun m2 => RX m0 m2 ∧ ((True) ∧ (∀ s : Ps, RC s m → s 0 1 = 0 → RC (pShut (tX m0) s) m2))) := by
  refine br_42  ?_
  unfold P_42
  have ts := ty_19_11 g_m.1
  have t1 := ty_19_11 g_m.1
  refine ⟨fun hq => ?_, fun hq => ?_⟩
  · skip
    refine CK.mono (ct_39   g_m.1 (by unfold rg; decide)) (by decide) ?_
    rintro m17 v17 r_v17 ⟨hx_m17, h_m17⟩
    have g_m17 : RX m0 m17 := RX.tk g_m hx_m17 (by omega) (by omega)
    have c11_m17 : rd m17 19 11 = rd m 19 11 := hx_m17.2.1 19 11 rfl
    have c17 : ∀ s : Ps, RC s m → RC (pT (tX m0) 1 s) m17 := fun s h => rc_T h hx_m17 (tX_rx g_m) h_m17
    refine CK.mono (cx_40   g_m17.1 (by unfold rg; decide) (by unfold rg; decide) (by omega) g_m17.2.2.2.1) (by decide) ?_
    rintro m34 v34 r_v34 ⟨hx_m34, h_m34⟩
    have g_m34 : RX m0 m34 := RX.tk g_m17 hx_m34 (by omega) (by omega)
    have c11_m34 : rd m34 19 11 = rd m17 19 11 := hx_m34.2.1 19 11 rfl
    have c34 : ∀ s : Ps, RC s m17 → RC (pI (tX m0) 0 4 s) m34 ∧ (pI (tX m0) 0 4 s 0 1 = 0 → v34 = (tX m0) 2 (s 0 0)) := fun s h => rc_I h hx_m34 (tX_rx g_m17) h_m34.2
    have t2 := ty_19_11 g_m17.1
    try have w3 : wr ((rd m17 19 11) * 2) = (rd m17 19 11) * 2 := wr_id (by omega) (by omega)
    refine ⟨⟨by omega, by omega⟩, ?_⟩
    intro m37 e_m37
    have g_m37 : RX m0 m37 := by rw [e_m37]; exact RX.w25 g_m34 ⟨by omega, by omega⟩
    have c11_m37 : rd m37 19 11 = rd m34 19 11 := by rw [e_m37, rd_wt, if_neg (by omega)]
    refine CK.mono (cx_40   g_m37.1 (by unfold rg; decide) (by unfold rg; decide) (by omega) g_m37.2.2.2.1) (by decide) ?_
    rintro m53 v53 r_v53 ⟨hx_m53, h_m53⟩
    have g_m53 : RX m0 m53 := RX.tk g_m37 hx_m53 (by omega) (by omega)
    have c11_m53 : rd m53 19 11 = rd m37 19 11 := hx_m53.2.1 19 11 rfl
    have c53 : ∀ s : Ps, RC s m37 → RC (pI (tX m0) 0 4 s) m53 ∧ (pI (tX m0) 0 4 s 0 1 = 0 → v53 = (tX m0) 2 (s 0 0)) := fun s h => rc_I h hx_m53 (tX_rx g_m37) h_m53.2
    have t4 := ty_19_11 g_m37.1
    try have w5 : wr ((rd m37 19 11) * 2) = (rd m37 19 11) * 2 := wr_id (by omega) (by omega)
    try have w6 : wr ((wr ((rd m37 19 11) * 2)) + 1) = (wr ((rd m37 19 11) * 2)) + 1 := wr_id (by omega) (by omega)
    refine ⟨⟨by omega, by omega⟩, ?_⟩
    intro m56 e_m56
    have g_m56 : RX m0 m56 := by rw [e_m56]; exact RX.w25 g_m53 ⟨by omega, by omega⟩
    have c11_m56 : rd m56 19 11 = rd m53 19 11 := by rw [e_m56, rd_wt, if_neg (by omega)]
    have t7 := ty_19_11 g_m56.1
    try have w8 : wr ((rd m56 19 11) + 1) = (rd m56 19 11) + 1 := wr_id (by omega) (by omega)
    intro m64 e_m64
    have g_m64 : RX m0 m64 := by rw [e_m64]; exact RX.f11 g_m56 ⟨by omega, by omega⟩
    have i37 : Int.toNat (wr ((rd m17 19 11) * 2)) = 2 * Int.toNat (rd m 19 11) := by omega
    have i56 : Int.toNat (wr ((wr ((rd m37 19 11) * 2)) + 1)) = 2 * Int.toNat (rd m 19 11) + 1 := by omega
    have x56 : rd m56 25 (2 * Int.toNat (rd m 19 11)) = v34 := by rw [e_m56, i56, rd_wt, if_neg (by omega), hx_m53.2.1 25 _ rfl, e_m37, i37, rd_wt, if_pos ⟨rfl, rfl⟩, wr_i r_v34]
    have y56 : rd m56 25 (2 * Int.toNat (rd m 19 11) + 1) = v53 := by rw [e_m56, i56, rd_wt, if_pos ⟨rfl, rfl⟩, wr_i r_v53]
    have f64 : ∀ s : Ps, RC s m → s 0 1 = 0 → RC (pShut (tX m0) s) m64 := fun s h z => by
      have en := (h.2 z).2.1.2.2.2.1
      have d34 := c34 _ (c17 s h)
      have k2 : sd s (pI (tX m0) 0 4 (pT (tX m0) 1 s)) := sd_t sd_T sd_I
      have d37 : RC _ m37 := rc_w25 d34.1 e_m37 (fun _ => by rw [k2 0 8 (by omega)]; omega)
      have d53 := c53 _ d37
      have k3 := sd_t k2 (sd_I (X := tX m0) (lo := 0) (hi := 4))
      have d56 : RC _ m56 := rc_w25 d53.1 e_m56 (fun _ => by rw [k3 0 8 (by omega)]; omega)
      unfold pShut
      rw [if_neg (by omega), ← en]
      exact rc_sh d56 ((k3 0 8 (by omega)).trans en.symm) (by omega) (fun y => x56.trans (d34.2 (pI_z y))) (fun y => y56.trans (d53.2 y)) e_m64 (by omega)
    exact ⟨g_m64, by exact ⟨by first | trivial | omega | (refine ⟨?_, ?_⟩ <;> omega), by first | exact f64 | exact fun s h z => by have en := (h.2 z).2.1.2.2.2.1; unfold pShut; rw [if_pos (by omega)]; exact f11 s h⟩⟩
  · skip
    refine CV.mono (ct_37   g_m.1 (by unfold rg; decide) (by omega)) (by decide) ?_
    rintro m11 ⟨hx_m11, h_m11⟩
    have g_m11 : RX m0 m11 := RX.tk g_m hx_m11 (by omega) (by omega)
    have f11 : ∀ s : Ps, RC s m → RC (pF (tX m0) 2 s) m11 := fun s h => rc_F h (tX_rx g_m) (by decide) h_m11
    exact ⟨g_m11, by exact ⟨by first | trivial | omega | (refine ⟨?_, ?_⟩ <;> omega), by first | exact f64 | exact fun s h z => by have en := (h.2 z).2.1.2.2.2.1; unfold pShut; rw [if_pos (by omega)]; exact f11 s h⟩⟩
-- TippedCrates$Reader.readPaint()V
set_option maxRecDepth 20000 in
theorem cx_43 {m0 m : Mm}   (g_m : RX m0 m)   : CV 3 43 [.ref 19] m (fun m2 => RX m0 m2 ∧ ((True) ∧ (∀ s : Ps, RC s m → s 0 1 = 0 → RC (pPaint (tX m0) s) m2))) := by
  refine br_43  ?_
  unfold P_43
  have ts := ty_19_12 g_m.1
  have t1 := ty_19_12 g_m.1
  refine ⟨fun hq => ?_, fun hq => ?_⟩
  · skip
    refine CK.mono (ct_39   g_m.1 (by unfold rg; decide)) (by decide) ?_
    rintro m17 v17 r_v17 ⟨hx_m17, h_m17⟩
    have g_m17 : RX m0 m17 := RX.tk g_m hx_m17 (by omega) (by omega)
    have c12_m17 : rd m17 19 12 = rd m 19 12 := hx_m17.2.1 19 12 rfl
    have c17 : ∀ s : Ps, RC s m → RC (pT (tX m0) 2 s) m17 := fun s h => rc_T h hx_m17 (tX_rx g_m) h_m17
    refine CK.mono (cx_40   g_m17.1 (by unfold rg; decide) (by unfold rg; decide) (by omega) g_m17.2.2.2.1) (by decide) ?_
    rintro m34 v34 r_v34 ⟨hx_m34, h_m34⟩
    have g_m34 : RX m0 m34 := RX.tk g_m17 hx_m34 (by omega) (by omega)
    have c12_m34 : rd m34 19 12 = rd m17 19 12 := hx_m34.2.1 19 12 rfl
    have c34 : ∀ s : Ps, RC s m17 → RC (pI (tX m0) 0 4 s) m34 ∧ (pI (tX m0) 0 4 s 0 1 = 0 → v34 = (tX m0) 2 (s 0 0)) := fun s h => rc_I h hx_m34 (tX_rx g_m17) h_m34.2
    have t2 := ty_19_12 g_m17.1
    try have w3 : wr ((rd m17 19 12) * 3) = (rd m17 19 12) * 3 := wr_id (by omega) (by omega)
    refine ⟨⟨by omega, by omega⟩, ?_⟩
    intro m37 e_m37
    have g_m37 : RX m0 m37 := by rw [e_m37]; exact RX.w26 g_m34 ⟨by omega, by omega⟩ (by omega)
    have c12_m37 : rd m37 19 12 = rd m34 19 12 := by rw [e_m37, rd_wt, if_neg (by omega)]
    refine CK.mono (cx_40   g_m37.1 (by unfold rg; decide) (by unfold rg; decide) (by omega) g_m37.2.2.2.1) (by decide) ?_
    rintro m53 v53 r_v53 ⟨hx_m53, h_m53⟩
    have g_m53 : RX m0 m53 := RX.tk g_m37 hx_m53 (by omega) (by omega)
    have c12_m53 : rd m53 19 12 = rd m37 19 12 := hx_m53.2.1 19 12 rfl
    have c53 : ∀ s : Ps, RC s m37 → RC (pI (tX m0) 0 4 s) m53 ∧ (pI (tX m0) 0 4 s 0 1 = 0 → v53 = (tX m0) 2 (s 0 0)) := fun s h => rc_I h hx_m53 (tX_rx g_m37) h_m53.2
    have t4 := ty_19_12 g_m37.1
    try have w5 : wr ((rd m37 19 12) * 3) = (rd m37 19 12) * 3 := wr_id (by omega) (by omega)
    try have w6 : wr ((wr ((rd m37 19 12) * 3)) + 1) = (wr ((rd m37 19 12) * 3)) + 1 := wr_id (by omega) (by omega)
    refine ⟨⟨by omega, by omega⟩, ?_⟩
    intro m56 e_m56
    have g_m56 : RX m0 m56 := by rw [e_m56]; exact RX.w26 g_m53 ⟨by omega, by omega⟩ (by omega)
    have c12_m56 : rd m56 19 12 = rd m53 19 12 := by rw [e_m56, rd_wt, if_neg (by omega)]
    refine CK.mono (cx_40   g_m56.1 (by unfold rg; decide) (by unfold rg; decide) (by omega) g_m56.2.2.2.1) (by decide) ?_
    rintro m73 v73 r_v73 ⟨hx_m73, h_m73⟩
    have g_m73 : RX m0 m73 := RX.tk g_m56 hx_m73 (by omega) (by omega)
    have c12_m73 : rd m73 19 12 = rd m56 19 12 := hx_m73.2.1 19 12 rfl
    have c73 : ∀ s : Ps, RC s m56 → RC (pI (tX m0) 0 9 s) m73 ∧ (pI (tX m0) 0 9 s 0 1 = 0 → v73 = (tX m0) 2 (s 0 0)) := fun s h => rc_I h hx_m73 (tX_rx g_m56) h_m73.2
    have t7 := ty_19_12 g_m56.1
    try have w8 : wr ((rd m56 19 12) * 3) = (rd m56 19 12) * 3 := wr_id (by omega) (by omega)
    try have w9 : wr ((wr ((rd m56 19 12) * 3)) + 2) = (wr ((rd m56 19 12) * 3)) + 2 := wr_id (by omega) (by omega)
    refine ⟨⟨by omega, by omega⟩, ?_⟩
    intro m76 e_m76
    have g_m76 : RX m0 m76 := by rw [e_m76]; exact RX.w26 g_m73 ⟨by omega, by omega⟩ (by omega)
    have c12_m76 : rd m76 19 12 = rd m73 19 12 := by rw [e_m76, rd_wt, if_neg (by omega)]
    have c5_m76 : rd m76 19 5 = rd m73 19 5 := by rw [e_m76, rd_wt, if_neg (by omega)]
    have c6_m76 : rd m76 19 6 = rd m73 19 6 := by rw [e_m76, rd_wt, if_neg (by omega)]
    have l76 : rd m76 26 (3 * Int.toNat (rd m76 19 12) + 2) = v73 := by rw [e_m76, rd_wt, if_pos ⟨rfl, by rw [← e_m76]; omega⟩, wr_id (by omega) (by omega)]
    have t10 := ty_19_12 g_m76.1
    try have w11 : wr ((rd m76 19 12) + 1) = (rd m76 19 12) + 1 := wr_id (by omega) (by omega)
    intro m84 e_m84
    have g_m84 : RX m0 m84 := by rw [e_m84]; exact RX.f12 g_m76 (by omega) (by omega) (fun h1 h2 => by omega)
    have i37 : Int.toNat (wr ((rd m17 19 12) * 3)) = 3 * Int.toNat (rd m 19 12) := by omega
    have i56 : Int.toNat (wr ((wr ((rd m37 19 12) * 3)) + 1)) = 3 * Int.toNat (rd m 19 12) + 1 := by omega
    have i76 : Int.toNat (wr ((wr ((rd m56 19 12) * 3)) + 2)) = 3 * Int.toNat (rd m 19 12) + 2 := by omega
    have x76 : rd m76 26 (3 * Int.toNat (rd m 19 12)) = v34 := by rw [e_m76, i76, rd_wt, if_neg (by omega), hx_m73.2.1 26 _ rfl, e_m56, i56, rd_wt, if_neg (by omega), hx_m53.2.1 26 _ rfl, e_m37, i37, rd_wt, if_pos ⟨rfl, rfl⟩, wr_i r_v34]
    have y76 : rd m76 26 (3 * Int.toNat (rd m 19 12) + 1) = v53 := by rw [e_m76, i76, rd_wt, if_neg (by omega), hx_m73.2.1 26 _ rfl, e_m56, i56, rd_wt, if_pos ⟨rfl, rfl⟩, wr_i r_v53]
    have w76 : rd m76 26 (3 * Int.toNat (rd m 19 12) + 2) = v73 := by rw [e_m76, i76, rd_wt, if_pos ⟨rfl, rfl⟩, wr_i r_v73]
    have f84 : ∀ s : Ps, RC s m → s 0 1 = 0 → RC (pPaint (tX m0) s) m84 := fun s h z => by
      have en := (h.2 z).2.1.2.2.2.2.1
      have d34 := c34 _ (c17 s h)
      have k2 : sd s (pI (tX m0) 0 4 (pT (tX m0) 2 s)) := sd_t sd_T sd_I
      have d37 : RC _ m37 := rc_w26 d34.1 e_m37 (fun _ => by rw [k2 0 9 (by omega)]; omega)
      have d53 := c53 _ d37
      have k3 := sd_t k2 (sd_I (X := tX m0) (lo := 0) (hi := 4))
      have d56 : RC _ m56 := rc_w26 d53.1 e_m56 (fun _ => by rw [k3 0 9 (by omega)]; omega)
      have d73 := c73 _ d56
      have k4 := sd_t k3 (sd_I (X := tX m0) (lo := 0) (hi := 9))
      have d76 : RC _ m76 := rc_w26 d73.1 e_m76 (fun _ => by rw [k4 0 9 (by omega)]; omega)
      unfold pPaint
      rw [if_neg (by omega), ← en]
      exact rc_pa d76 ((k4 0 9 (by omega)).trans en.symm) (by omega) (fun y => x76.trans (d34.2 (pI_z (pI_z y)))) (fun y => y76.trans (d53.2 (pI_z y))) (fun y => w76.trans (d73.2 y)) e_m84 (by omega)
    exact ⟨g_m84, by exact ⟨by first | trivial | omega | (refine ⟨?_, ?_⟩ <;> omega), by first | exact f84 | exact fun s h z => by have en := (h.2 z).2.1.2.2.2.2.1; unfold pPaint; rw [if_pos (by omega)]; exact f11 s h⟩⟩
  · skip
    refine CV.mono (ct_37   g_m.1 (by unfold rg; decide) (by omega)) (by decide) ?_
    rintro m11 ⟨hx_m11, h_m11⟩
    have g_m11 : RX m0 m11 := RX.tk g_m hx_m11 (by omega) (by omega)
    have f11 : ∀ s : Ps, RC s m → RC (pF (tX m0) 2 s) m11 := fun s h => rc_F h (tX_rx g_m) (by decide) h_m11
    exact ⟨g_m11, by exact ⟨by first | trivial | omega | (refine ⟨?_, ?_⟩ <;> omega), by first | exact f84 | exact fun s h z => by have en := (h.2 z).2.1.2.2.2.2.1; unfold pPaint; rw [if_pos (by omega)]; exact f11 s h⟩⟩
-- TippedCrates$Reader.readCrate()V
set_option maxRecDepth 20000 in
theorem cx_44 {m0 m : Mm}   (g_m : RX m0 m)   : CV 3 44 [.ref 19] m (fun m2 => RX m0 m2 ∧ ((True) ∧ (∀ s : Ps, RC s m → s 0 1 = 0 → RC (pCrate (tX m0) s) m2))) := by
  refine br_44  ?_
  unfold P_44
  have ts := ty_19_13 g_m.1
  have t1 := ty_19_13 g_m.1
  refine ⟨fun hq => ?_, fun hq => ?_⟩
  · skip
    refine CK.mono (ct_39   g_m.1 (by unfold rg; decide)) (by decide) ?_
    rintro m16 v16 r_v16 ⟨hx_m16, h_m16⟩
    have g_m16 : RX m0 m16 := RX.tk g_m hx_m16 (by omega) (by omega)
    have c13_m16 : rd m16 19 13 = rd m 19 13 := hx_m16.2.1 19 13 rfl
    have c16 : ∀ s : Ps, RC s m → RC (pT (tX m0) 3 s) m16 := fun s h => rc_T h hx_m16 (tX_rx g_m) h_m16
    refine CV.mono (cx_45   g_m16 (by omega)) (by decide) ?_
    rintro m21 ⟨g_m21, h_m21⟩
    have hn21 := h_m21.2
    have hk21 : rd m21 19 13 = rd m16 19 13 := h_m21.1
    refine CK.mono (cx_40   g_m21.1 (by unfold rg; decide) (by unfold rg; decide) (by omega) g_m21.2.2.2.1) (by decide) ?_
    rintro m37 v37 r_v37 ⟨hx_m37, h_m37⟩
    have g_m37 : RX m0 m37 := RX.tk g_m21 hx_m37 (by omega) (by omega)
    have c13_m37 : rd m37 19 13 = rd m21 19 13 := hx_m37.2.1 19 13 rfl
    have c37 : ∀ s : Ps, RC s m21 → RC (pI (tX m0) 0 4 s) m37 ∧ (pI (tX m0) 0 4 s 0 1 = 0 → v37 = (tX m0) 2 (s 0 0)) := fun s h => rc_I h hx_m37 (tX_rx g_m21) h_m37.2
    have t2 := ty_19_13 g_m21.1
    try have w3 : wr ((rd m21 19 13) * 2) = (rd m21 19 13) * 2 := wr_id (by omega) (by omega)
    refine ⟨⟨by omega, by omega⟩, ?_⟩
    intro m40 e_m40
    have g_m40 : RX m0 m40 := by rw [e_m40]; exact RX.w27 g_m37 ⟨by omega, by omega⟩
    have c13_m40 : rd m40 19 13 = rd m37 19 13 := by rw [e_m40, rd_wt, if_neg (by omega)]
    refine CK.mono (cx_40   g_m40.1 (by unfold rg; decide) (by unfold rg; decide) (by omega) g_m40.2.2.2.1) (by decide) ?_
    rintro m56 v56 r_v56 ⟨hx_m56, h_m56⟩
    have g_m56 : RX m0 m56 := RX.tk g_m40 hx_m56 (by omega) (by omega)
    have c13_m56 : rd m56 19 13 = rd m40 19 13 := hx_m56.2.1 19 13 rfl
    have c56 : ∀ s : Ps, RC s m40 → RC (pI (tX m0) 0 4 s) m56 ∧ (pI (tX m0) 0 4 s 0 1 = 0 → v56 = (tX m0) 2 (s 0 0)) := fun s h => rc_I h hx_m56 (tX_rx g_m40) h_m56.2
    have t4 := ty_19_13 g_m40.1
    try have w5 : wr ((rd m40 19 13) * 2) = (rd m40 19 13) * 2 := wr_id (by omega) (by omega)
    try have w6 : wr ((wr ((rd m40 19 13) * 2)) + 1) = (wr ((rd m40 19 13) * 2)) + 1 := wr_id (by omega) (by omega)
    refine ⟨⟨by omega, by omega⟩, ?_⟩
    intro m59 e_m59
    have g_m59 : RX m0 m59 := by rw [e_m59]; exact RX.w27 g_m56 ⟨by omega, by omega⟩
    have c13_m59 : rd m59 19 13 = rd m56 19 13 := by rw [e_m59, rd_wt, if_neg (by omega)]
    have i40 : Int.toNat (wr ((rd m21 19 13) * 2)) = 2 * Int.toNat (rd m 19 13) := by omega
    have i59 : Int.toNat (wr ((wr ((rd m40 19 13) * 2)) + 1)) = 2 * Int.toNat (rd m 19 13) + 1 := by omega
    have x59 : rd m59 27 (2 * Int.toNat (rd m 19 13)) = v37 := by rw [e_m59, i59, rd_wt, if_neg (by omega), hx_m56.2.1 27 _ rfl, e_m40, i40, rd_wt, if_pos ⟨rfl, rfl⟩, wr_i r_v37]
    have y59 : rd m59 27 (2 * Int.toNat (rd m 19 13) + 1) = v56 := by rw [e_m59, i59, rd_wt, if_pos ⟨rfl, rfl⟩, wr_i r_v56]
    have n59 : ∀ j, ld m59 29 j = ld m21 29 j := fun j => by rw [e_m59, ld_wt, hx_m56.2.2, e_m40, ld_wt, hx_m37.2.2]
    have f59 : ∀ s : Ps, RC s m → s 0 1 = 0 → RC (pC3 (tX m0) s) m59 ∧ (pC3 (tX m0) s 0 1 = 0 → crV (tX m0) s (Int.toNat (rd m 19 13)) m59 0) := fun s h z => by
      have en := (h.2 z).2.1.2.2.2.2.2
      have d16 := c16 s h
      have d21 := hn21 _ d16
      have k1 : sd s (pN (tX m0) (pT (tX m0) 3 s)) := sd_t sd_T sd_N
      have d37 := c37 _ d21.1
      have k2 := sd_t k1 (sd_I (X := tX m0) (lo := 0) (hi := 4))
      have d40 : RC _ m40 := rc_w27 d37.1 e_m40 (fun _ => by rw [k2 0 10 (by omega)]; omega)
      have d56 := c56 _ d40
      have k3 := sd_t k2 (sd_I (X := tX m0) (lo := 0) (hi := 4))
      have d59 : RC _ m59 := rc_w27 d56.1 e_m59 (fun _ => by rw [k3 0 10 (by omega)]; omega)
      refine ⟨d59, fun y => ⟨x59.trans (d37.2 (pI_z y)), y59.trans (d56.2 y), ?_, fun j hj => by omega⟩⟩
      rw [n59, ← show rd m16 19 13 = rd m 19 13 by omega]
      exact d21.2 (pI_z (pI_z y))
    refine ⟨fun x1_62 m_62 => RX m0 m_62 ∧ (((0 ≤ x1_62 ∧ x1_62 ≤ 6) ∧ (rd m_62 19 13 = rd m 19 13) ∧ (rd m_62 19 5 = 0 → rd m_62 19 6 = 0 → ∀ q : Nat, (q : Int) < x1_62 → rd m_62 28 (6 * Int.toNat (rd m_62 19 13) + q) ≤ 9)) ∧ (∀ s : Ps, RC s m → s 0 1 = 0 → RC (pIs (tX m0) (pC3 (tX m0) s) (Int.toNat x1_62)) m_62 ∧ (pIs (tX m0) (pC3 (tX m0) s) (Int.toNat x1_62) 0 1 = 0 → crV (tX m0) s (Int.toNat (rd m 19 13)) m_62 (Int.toNat x1_62)))), fun x1_62 m_62 => Int.toNat (6 - x1_62), ?_, ?_⟩
    · exact ⟨g_m59, by exact ⟨by exact ⟨by omega, by omega, fun _ _ q hq => by omega⟩, by exact f59⟩⟩
    · intro x1_62 m_62 r_x1_62 hI_62
      obtain ⟨g_m_62, hI_62⟩ := hI_62
      obtain ⟨hI_62, cI_62⟩ := hI_62
      refine ⟨fun hq => ?_, fun hq => ?_⟩
      · skip
        have t7 := ty_19_13 g_m_62.1
        try have w8 : wr ((rd m_62 19 13) + 1) = (rd m_62 19 13) + 1 := wr_id (by omega) (by omega)
        intro m102 e_m102
        have g_m102 : RX m0 m102 := by rw [e_m102]; exact RX.f13 g_m_62 (by omega) (by omega) (fun h1 h2 q hq => hI_62.2.2 h1 h2 q (by omega))
        exact ⟨g_m102, by exact ⟨by first | trivial | omega | (refine ⟨?_, ?_⟩ <;> omega), by first | exact fun s h z => by have en := (h.2 z).2.1.2.2.2.2.2; have k := cI_62 s h z; rw [show Int.toNat x1_62 = 6 by omega] at k; unfold pCrate; rw [if_neg (by omega), ← en]; exact rc_cr k.1 (((sd_t (sd_t (sd_t (sd_t sd_T sd_N) sd_I) sd_I) (sd_Is 6)) 0 10 (by omega)).trans en.symm) (by omega) k.2 e_m102 (by omega) | exact fun s h z => by have en := (h.2 z).2.1.2.2.2.2.2; unfold pCrate; rw [if_pos (by omega)]; exact f10 s h⟩⟩
      · skip
        refine CK.mono (cx_40   g_m_62.1 (by unfold rg; decide) (by unfold rg; decide) (by omega) g_m_62.2.2.2.1) (by decide) ?_
        rintro m85 v85 r_v85 ⟨hx_m85, h_m85⟩
        have g_m85 : RX m0 m85 := RX.tk g_m_62 hx_m85 (by omega) (by omega)
        have c13_m85 : rd m85 19 13 = rd m_62 19 13 := hx_m85.2.1 19 13 rfl
        have f85 : ∀ q, rd m85 28 q = rd m_62 28 q := fun q => hx_m85.2.1 28 q rfl
        have c85 : ∀ s : Ps, RC s m_62 → RC (pI (tX m0) 0 9 s) m85 ∧ (pI (tX m0) 0 9 s 0 1 = 0 → v85 = (tX m0) 2 (s 0 0)) := fun s h => rc_I h hx_m85 (tX_rx g_m_62) h_m85.2
        have t9 := ty_19_13 g_m_62.1
        try have w10 : wr ((rd m_62 19 13) * 6) = (rd m_62 19 13) * 6 := wr_id (by omega) (by omega)
        try have w11 : wr ((wr ((rd m_62 19 13) * 6)) + x1_62) = (wr ((rd m_62 19 13) * 6)) + x1_62 := wr_id (by omega) (by omega)
        refine ⟨⟨by omega, by omega⟩, ?_⟩
        intro m88 e_m88
        have g_m88 : RX m0 m88 := by rw [e_m88]; exact RX.w28 g_m85 ⟨by omega, by omega⟩ (by omega)
        have c13_m88 : rd m88 19 13 = rd m85 19 13 := by rw [e_m88, rd_wt, if_neg (by omega)]
        have c5_m88 : rd m88 19 5 = rd m85 19 5 := by rw [e_m88, rd_wt, if_neg (by omega)]
        have c6_m88 : rd m88 19 6 = rd m85 19 6 := by rw [e_m88, rd_wt, if_neg (by omega)]
        have i88 : Int.toNat (wr ((wr ((rd m_62 19 13) * 6)) + x1_62)) = 6 * Int.toNat (rd m 19 13) + Int.toNat x1_62 := by omega
        have f88 : ∀ s : Ps, RC s m → s 0 1 = 0 → RC (pIs (tX m0) (pC3 (tX m0) s) (Int.toNat x1_62 + 1)) m88 ∧ (pIs (tX m0) (pC3 (tX m0) s) (Int.toNat x1_62 + 1) 0 1 = 0 → crV (tX m0) s (Int.toNat (rd m 19 13)) m88 (Int.toNat x1_62 + 1)) := fun s h z => by
          have en := (h.2 z).2.1.2.2.2.2.2
          have a := cI_62 s h z
          have d85 := c85 _ a.1
          have k : sd s (pIs (tX m0) (pC3 (tX m0) s) (Int.toNat x1_62 + 1)) := sd_t (sd_t (sd_t (sd_t sd_T sd_N) sd_I) sd_I) (sd_Is _)
          have d88 : RC (pIs (tX m0) (pC3 (tX m0) s) (Int.toNat x1_62 + 1)) m88 := rc_w28 d85.1 e_m88 (fun _ => by rw [k 0 10 (by omega)]; omega)
          exact ⟨d88, fun y => cv_s (a.2 (pI_z y)) hx_m85 e_m88 i88 r_v85 (d85.2 y)⟩
        try have w12 : wr (x1_62 + 1) = x1_62 + 1 := wr_id (by omega) (by omega)
        intro z1_89 e_z1_89
        have r_z1_89 : rg z1_89 := by rw [e_z1_89]; exact wr_rg _
        have ne : rd m88 19 13 = rd m_62 19 13 := by omega
        have k88 : rd m88 19 5 = 0 → rd m88 19 6 = 0 → ∀ q : Nat, (q : Int) < z1_89 → rd m88 28 (6 * Int.toNat (rd m88 19 13) + q) ≤ 9 := by
          intro h1 h2 q hq
          rw [ne]
          by_cases e : (q : Int) = x1_62
          · rw [show 6 * Int.toNat (rd m_62 19 13) + q = Int.toNat (wr ((wr ((rd m_62 19 13) * 6)) + x1_62)) by omega, e_m88, rd_wt, if_pos ⟨rfl, rfl⟩, wr_id (by omega) (by omega)]
            omega
          · rw [e_m88, rd_wt, if_neg (by omega), f85]
            exact hI_62.2.2 (by omega) (by omega) q (by omega)
        exact ⟨⟨g_m88, by exact ⟨by exact ⟨by omega, by omega, k88⟩, by exact fun s h z => by rw [show Int.toNat z1_89 = Int.toNat x1_62 + 1 by omega]; exact f88 s h z⟩⟩, by (try dsimp only); omega⟩
  · skip
    refine CV.mono (ct_37   g_m.1 (by unfold rg; decide) (by omega)) (by decide) ?_
    rintro m10 ⟨hx_m10, h_m10⟩
    have g_m10 : RX m0 m10 := RX.tk g_m hx_m10 (by omega) (by omega)
    have f10 : ∀ s : Ps, RC s m → RC (pF (tX m0) 2 s) m10 := fun s h => rc_F h (tX_rx g_m) (by decide) h_m10
    exact ⟨g_m10, by exact ⟨by first | trivial | omega | (refine ⟨?_, ?_⟩ <;> omega), by first | exact fun s h z => by have en := (h.2 z).2.1.2.2.2.2.2; have k := cI_62 s h z; rw [show Int.toNat x1_62 = 6 by omega] at k; unfold pCrate; rw [if_neg (by omega), ← en]; exact rc_cr k.1 (((sd_t (sd_t (sd_t (sd_t sd_T sd_N) sd_I) sd_I) (sd_Is 6)) 0 10 (by omega)).trans en.symm) (by omega) k.2 e_m102 (by omega) | exact fun s h z => by have en := (h.2 z).2.1.2.2.2.2.2; unfold pCrate; rw [if_pos (by omega)]; exact f10 s h⟩⟩
-- TippedCrates$Reader.readLaw(I)V
set_option maxRecDepth 20000 in
theorem cx_46 {m0 m : Mm} {x1 : Int}  (g_m : RX m0 m) (r_x1 : rg x1)  : CV 34 46 [.ref 19, iv x1] m (fun m2 => RX m0 m2 ∧ ((True) ∧ (∀ s : Ps, RC s m → RC (pL (tX m0) x1 s) m2))) := by
  refine br_46 r_x1 ?_
  unfold P_46
  refine CK.mono (ct_166   r_x1 (by unfold rg; decide) (by unfold rg; decide)) (by decide) ?_
  rintro m4 v4 r_v4 ⟨e_m4, h_m4⟩
  replace e_m4 := e_m4.symm
  subst e_m4
  refine ⟨fun hq => ?_, fun hq => ?_⟩
  · skip
    refine CK.mono (ct_39   g_m.1 r_x1) (by decide) ?_
    rintro m18 v18 r_v18 ⟨hx_m18, h_m18⟩
    have g_m18 : RX m0 m18 := RX.tk g_m hx_m18 (by omega) (by omega)
    refine CK.mono (ct_39   g_m18.1 (by unfold rg; decide)) (by decide) ?_
    rintro m25 v25 r_v25 ⟨hx_m25, h_m25⟩
    have g_m25 : RX m0 m25 := RX.tk g_m18 hx_m25 (by omega) (by omega)
    try have w1 : wr (x1 - 4) = x1 - 4 := wr_id (by omega) (by omega)
    refine CV.mono (ct_14   g_m25.1 lw_20 (wr_rg _) (by omega) g_m25.2.1) (by decide) ?_
    rintro m36 ⟨hx_m36, h_m36⟩
    have g_m36 : RX m0 m36 := RX.lw g_m25 hx_m36 h_m36
    have c36 : ∀ s : Ps, RC s m → RC (pT (tX m0) 61 (pT (tX m0) x1 s)) m36 := fun s h => rc_lw (rc_T (rc_T h hx_m18 (tX_rx g_m) h_m18) hx_m25 (tX_rx g_m18) h_m25) hx_m36
    refine ⟨fun x2_41 m_41 => RX m0 m_41 ∧ ((0 ≤ x2_41 ∧ x2_41 ≤ 4) ∧ (∀ s : Ps, RC s m → ∃ s2 : Ps, RC s2 m_41 ∧ pIfs (tX m0) (Int.toNat (4 - x2_41)) s2 = (pIfs (tX m0) 4 (pT (tX m0) 61 (pT (tX m0) x1 s))))), fun x2_41 m_41 => Int.toNat (4 - x2_41), ?_, ?_⟩
    · exact ⟨g_m36, by exact ⟨by first | omega | (refine ⟨?_, ?_⟩ <;> omega) | trivial, by exact fun s h => ⟨_, c36 s h, rfl⟩⟩⟩
    · intro x2_41 m_41 r_x2_41 hI_41
      obtain ⟨g_m_41, hI_41⟩ := hI_41
      obtain ⟨hI_41, cI_41⟩ := hI_41
      refine ⟨fun m_139 => RX m0 m_139 ∧ ((True) ∧ (∀ s : Ps, RC s m → RC (pIfs (tX m0) 4 (pT (tX m0) 61 (pT (tX m0) x1 s))) m_139)), ?_, ?_⟩
      · skip
        refine ⟨fun hq => ?_, fun hq => ?_⟩
        · skip
          exact ⟨g_m_41, by exact ⟨by first | trivial | omega | (refine ⟨?_, ?_⟩ <;> omega), by first | exact fun s h => if_R (cI_41 s h) (tX_rx g_m_41) (Or.inl (by omega)) | exact fun s h => if_R (cI_41 s h) (tX_rx g_m_41) (Or.inr (Or.inl (by omega))) | exact fun s h => if_R (cI_41 s h) (tX_rx g_m_41) (Or.inr (Or.inr (by omega)))⟩⟩
        · skip
          refine ⟨fun hq => ?_, fun hq => ?_⟩
          · skip
            exact ⟨g_m_41, by exact ⟨by first | trivial | omega | (refine ⟨?_, ?_⟩ <;> omega), by first | exact fun s h => if_R (cI_41 s h) (tX_rx g_m_41) (Or.inl (by omega)) | exact fun s h => if_R (cI_41 s h) (tX_rx g_m_41) (Or.inr (Or.inl (by omega))) | exact fun s h => if_R (cI_41 s h) (tX_rx g_m_41) (Or.inr (Or.inr (by omega)))⟩⟩
          · skip
            refine CK.mono (ct_36   g_m_41.1) (by decide) ?_
            rintro m54 v54 r_v54 ⟨e_m54, h_m54⟩
            replace e_m54 := e_m54.symm
            subst e_m54
            refine ⟨fun hq => ?_, fun hq => ?_⟩
            · skip
              exact ⟨g_m_41, by exact ⟨by first | trivial | omega | (refine ⟨?_, ?_⟩ <;> omega), by first | exact fun s h => if_R (cI_41 s h) (tX_rx g_m_41) (Or.inl (by omega)) | exact fun s h => if_R (cI_41 s h) (tX_rx g_m_41) (Or.inr (Or.inl (by omega))) | exact fun s h => if_R (cI_41 s h) (tX_rx g_m_41) (Or.inr (Or.inr (by omega)))⟩⟩
            · skip
              refine CK.mono (ct_39   g_m_41.1 (by unfold rg; decide)) (by decide) ?_
              rintro m65 v65 r_v65 ⟨hx_m65, h_m65⟩
              have g_m65 : RX m0 m65 := RX.tk g_m_41 hx_m65 (by omega) (by omega)
              refine CV.mono (cy_47   g_m65 (by unfold rg; decide) (by omega) (by omega)) (by decide) ?_
              rintro m71 ⟨g_m71, h_m71⟩
              refine CK.mono (ct_39   g_m71.1 (by unfold rg; decide)) (by decide) ?_
              rintro m77 v77 r_v77 ⟨hx_m77, h_m77⟩
              have g_m77 : RX m0 m77 := RX.tk g_m71 hx_m77 (by omega) (by omega)
              refine CV.mono (cy_47   g_m77 (by unfold rg; decide) (by omega) (by omega)) (by decide) ?_
              rintro m83 ⟨g_m83, h_m83⟩
              refine CK.mono (ct_15   g_m83.1 lw_20 (by unfold rg; decide) (by unfold rg; decide) (by omega) (by omega) (fun h => by omega) g_m83.2.1) (by decide) ?_
              rintro m92 v92 r_v92 ⟨hx_m92, h_m92⟩
              have g_m92 : RX m0 m92 := RX.lw g_m83 hx_m92 h_m92.1
              refine CK.mono (ct_39   g_m92.1 (by unfold rg; decide)) (by decide) ?_
              rintro m99 v99 r_v99 ⟨hx_m99, h_m99⟩
              have g_m99 : RX m0 m99 := RX.tk g_m92 hx_m99 (by omega) (by omega)
              refine CV.mono (cy_47   g_m99 (by unfold rg; decide) (by omega) (by omega)) (by decide) ?_
              rintro m105 ⟨g_m105, h_m105⟩
              refine CK.mono (ct_15   g_m105.1 lw_20 (by unfold rg; decide) (by unfold rg; decide) (by omega) (by omega) (fun h => by omega) g_m105.2.1) (by decide) ?_
              rintro m114 v114 r_v114 ⟨hx_m114, h_m114⟩
              have g_m114 : RX m0 m114 := RX.lw g_m105 hx_m114 h_m114.1
              refine CV.mono (ct_16   g_m114.1 lw_20 r_v92 (by omega) g_m114.2.1) (by decide) ?_
              rintro m123 ⟨hx_m123, h_m123⟩
              have g_m123 : RX m0 m123 := RX.lw g_m114 hx_m123 h_m123
              refine CK.mono (ct_39   g_m123.1 (by unfold rg; decide)) (by decide) ?_
              rintro m129 v129 r_v129 ⟨hx_m129, h_m129⟩
              have g_m129 : RX m0 m129 := RX.tk g_m123 hx_m129 (by omega) (by omega)
              have c129 : ∀ s : Ps, RC s m_41 → RC (pIf (tX m0) s) m129 := fun s h => by
                have a1 := rc_T h hx_m65 (tX_rx g_m_41) h_m65
                have a2 := rc_S a1 (tX_rx g_m65) h_m71.1 h_m71.2 (ty_19_4 g_m71.1).2
                have a3 := rc_T a2 hx_m77 (tX_rx g_m71) h_m77
                have a4 := rc_S a3 (tX_rx g_m77) h_m83.1 h_m83.2 (ty_19_4 g_m83.1).2
                have a5 := rc_lw a4 hx_m92
                have a6 := rc_T a5 hx_m99 (tX_rx g_m92) h_m99
                have a7 := rc_S a6 (tX_rx g_m99) h_m105.1 h_m105.2 (ty_19_4 g_m105.1).2
                have a8 := rc_lw (rc_lw a7 hx_m114) hx_m123
                exact rc_T a8 hx_m129 (tX_rx g_m123) h_m129
              try have w3 : wr (x2_41 + 1) = x2_41 + 1 := wr_id (by omega) (by omega)
              intro z2_133 e_z2_133
              have r_z2_133 : rg z2_133 := by rw [e_z2_133]; exact wr_rg _
              exact ⟨⟨g_m129, by exact ⟨by first | omega | (refine ⟨?_, ?_⟩ <;> omega) | trivial, by exact fun s h => if_B (cI_41 s h) (tX_rx g_m_41) (by omega) (by omega) (by omega) c129⟩⟩, by (try dsimp only); omega⟩
      · intro m_139  hR_139
        obtain ⟨g_m_139, hR_139⟩ := hR_139
        obtain ⟨hR_139, cR_139⟩ := hR_139
        refine CK.mono (ct_36   g_m_139.1) (by decide) ?_
        rintro m140 v140 r_v140 ⟨e_m140, h_m140⟩
        replace e_m140 := e_m140.symm
        subst e_m140
        refine ⟨fun m_153 => RX m0 m_153 ∧ ((True) ∧ (∀ s : Ps, RC s m → RC (pRm (tX m0) (pIfs (tX m0) 4 (pT (tX m0) 61 (pT (tX m0) x1 s)))) m_153)), ?_, ?_⟩
        · skip
          refine ⟨fun hq => ?_, fun hq => ?_⟩
          · skip
            exact ⟨g_m_139, by exact ⟨by first | trivial | omega | (refine ⟨?_, ?_⟩ <;> omega), by first | exact fun s h => rm_0 (cR_139 s h) (tX_rx g_m_139) (by omega) | exact fun s h => rm_1 (cR_139 s h) (tX_rx g_m_139) (by omega) (f150 _ (cR_139 s h))⟩⟩
          · skip
            refine CV.mono (ct_37   g_m_139.1 (by unfold rg; decide) (by omega)) (by decide) ?_
            rintro m150 ⟨hx_m150, h_m150⟩
            have g_m150 : RX m0 m150 := RX.tk g_m_139 hx_m150 (by omega) (by omega)
            have f150 : ∀ s : Ps, RC s m_139 → RC (pF (tX m0) 2 s) m150 := fun s h => rc_F h (tX_rx g_m_139) (by decide) h_m150
            exact ⟨g_m150, by exact ⟨by first | trivial | omega | (refine ⟨?_, ?_⟩ <;> omega), by first | exact fun s h => rm_0 (cR_139 s h) (tX_rx g_m_139) (by omega) | exact fun s h => rm_1 (cR_139 s h) (tX_rx g_m_139) (by omega) (f150 _ (cR_139 s h))⟩⟩
        · intro m_153  hR_153
          obtain ⟨g_m_153, hR_153⟩ := hR_153
          obtain ⟨hR_153, cR_153⟩ := hR_153
          refine CV.mono (cy_47   g_m_153 (by unfold rg; decide) (by omega) (by omega)) (by decide) ?_
          rintro m155 ⟨g_m155, h_m155⟩
          refine CK.mono (ct_15   g_m155.1 lw_20 (by unfold rg; decide) (by unfold rg; decide) (by omega) (by omega) (fun h => by omega) g_m155.2.1) (by decide) ?_
          rintro m164 v164 r_v164 ⟨hx_m164, h_m164⟩
          have g_m164 : RX m0 m164 := RX.lw g_m155 hx_m164 h_m164.1
          have c164 : ∀ s : Ps, RC s m_153 → RC (pS (tX m0) s) m164 := fun s h => by
            have a1 := rc_S h (tX_rx g_m_153) h_m155.1 h_m155.2 (ty_19_4 g_m155.1).2
            exact rc_lw a1 hx_m164
          exact ⟨g_m164, by exact ⟨by first | trivial | omega | (refine ⟨?_, ?_⟩ <;> omega), by first | exact fun s h => by unfold pL; rw [if_pos (by omega)]; exact c164 _ (cR_153 s h) | exact fun s h => by unfold pL; rw [if_neg (by omega)]; exact f12 s h⟩⟩
  · skip
    refine CV.mono (ct_37   g_m.1 (by unfold rg; decide) (by omega)) (by decide) ?_
    rintro m12 ⟨hx_m12, h_m12⟩
    have g_m12 : RX m0 m12 := RX.tk g_m hx_m12 (by omega) (by omega)
    have f12 : ∀ s : Ps, RC s m → RC (pF (tX m0) 1 s) m12 := fun s h => rc_F h (tX_rx g_m) (by decide) h_m12
    exact ⟨g_m12, by exact ⟨by first | trivial | omega | (refine ⟨?_, ?_⟩ <;> omega), by first | exact fun s h => by unfold pL; rw [if_pos (by omega)]; exact c164 _ (cR_153 s h) | exact fun s h => by unfold pL; rw [if_neg (by omega)]; exact f12 s h⟩⟩
-- TippedCrates$Reader.readTell()V
set_option maxRecDepth 20000 in
theorem cx_41 {m0 m : Mm}   (g_m : RX m0 m)   : CV 35 41 [.ref 19] m (fun m2 => RX m0 m2 ∧ ((True) ∧ (∀ s : Ps, RC s m → s 0 1 = 0 → RC (pStep (tX m0) s) m2))) := by
  refine br_41  ?_
  unfold P_41
  refine CK.mono (ct_36   g_m.1) (by decide) ?_
  rintro m1 v1 r_v1 ⟨e_m1, h_m1⟩
  replace e_m1 := e_m1.symm
  subst e_m1
  refine ⟨fun m_132 => RX m0 m_132 ∧ ((True) ∧ (∀ s : Ps, RC s m → s 0 1 = 0 → RC (pTell (tX m0) v1 s) m_132)), ?_, ?_⟩
  · skip
    refine ⟨fun hq => ?_, fun hq => ?_, fun hq => ?_, fun hq => ?_, fun hq => ?_, fun hq => ?_, fun hq => ?_, fun hq => ?_, fun hq => ?_, fun hq => ?_⟩
    · skip
      refine CK.mono (ct_39   g_m.1 r_v1) (by decide) ?_
      rintro m58 v58 r_v58 ⟨hx_m58, h_m58⟩
      have g_m58 : RX m0 m58 := RX.tk g_m hx_m58 (by omega) (by omega)
      refine CK.mono (cx_40   g_m58.1 (by unfold rg; decide) (by unfold rg; decide) (by omega) g_m58.2.2.2.1) (by decide) ?_
      rintro m66 v66 r_v66 ⟨hx_m66, h_m66⟩
      have g_m66 : RX m0 m66 := RX.tk g_m58 hx_m66 (by omega) (by omega)
      intro m69 e_m69
      have g_m69 : RX m0 m69 := by rw [e_m69]; exact RX.f8 g_m66 ⟨by omega, by omega⟩ (fun h1 h2 => by omega)
      have c5_m69 : rd m69 19 5 = rd m66 19 5 := by rw [e_m69, rd_wt, if_neg (by omega)]
      have c6_m69 : rd m69 19 6 = rd m66 19 6 := by rw [e_m69, rd_wt, if_neg (by omega)]
      refine CK.mono (cx_40   g_m69.1 (by unfold rg; decide) (by unfold rg; decide) (by omega) g_m69.2.2.2.1) (by decide) ?_
      rintro m76 v76 r_v76 ⟨hx_m76, h_m76⟩
      have g_m76 : RX m0 m76 := RX.tk g_m69 hx_m76 (by omega) (by omega)
      intro m79 e_m79
      have g_m79 : RX m0 m79 := by rw [e_m79]; exact RX.f9 g_m76 ⟨by omega, by omega⟩ (fun h1 h2 => by omega)
      have c79 : ∀ s : Ps, RC s m → RC (pYard (tX m0) s) m79 := fun s h => by
        have h58 : tkP m m58 0 v58 := by have q := h_m58; rw [show v1 = 0 by omega] at q; exact q
        have a1 := rc_T h hx_m58 (tX_rx g_m) h58
        have a2 := rc_I a1 hx_m66 (tX_rx g_m58) h_m66.2
        have a3 : RC (pY1 (tX m0) s) m69 := rc_f8 a2.1 e_m69 r_v66 a2.2
        have a4 := rc_I a3 hx_m76 (tX_rx g_m69) h_m76.2
        exact rc_f9 a4.1 e_m79 r_v76 a4.2
      exact ⟨g_m79, by exact ⟨by first | trivial | omega | (refine ⟨?_, ?_⟩ <;> omega), by first | exact fun s h z => by rw [tell_0 (by omega)]; exact c79 s h | exact fun s h z => by rw [tell_1 (by omega)]; exact h_m86.2 s h z | exact fun s h z => by rw [tell_2 (by omega)]; exact h_m93.2 s h z | exact fun s h z => by rw [tell_3 (by omega)]; exact h_m100.2 s h z | exact fun s h z => by rw [tell_8 (by omega)]; exact c121 s h | exact fun s h z => by rw [tell_d (by omega)]; exact h_m129.2 s h⟩⟩
    · skip
      refine CV.mono (cx_42   g_m) (by decide) ?_
      rintro m86 ⟨g_m86, h_m86⟩
      exact ⟨g_m86, by exact ⟨by first | trivial | omega | (refine ⟨?_, ?_⟩ <;> omega), by first | exact fun s h z => by rw [tell_0 (by omega)]; exact c79 s h | exact fun s h z => by rw [tell_1 (by omega)]; exact h_m86.2 s h z | exact fun s h z => by rw [tell_2 (by omega)]; exact h_m93.2 s h z | exact fun s h z => by rw [tell_3 (by omega)]; exact h_m100.2 s h z | exact fun s h z => by rw [tell_8 (by omega)]; exact c121 s h | exact fun s h z => by rw [tell_d (by omega)]; exact h_m129.2 s h⟩⟩
    · skip
      refine CV.mono (cx_43   g_m) (by decide) ?_
      rintro m93 ⟨g_m93, h_m93⟩
      exact ⟨g_m93, by exact ⟨by first | trivial | omega | (refine ⟨?_, ?_⟩ <;> omega), by first | exact fun s h z => by rw [tell_0 (by omega)]; exact c79 s h | exact fun s h z => by rw [tell_1 (by omega)]; exact h_m86.2 s h z | exact fun s h z => by rw [tell_2 (by omega)]; exact h_m93.2 s h z | exact fun s h z => by rw [tell_3 (by omega)]; exact h_m100.2 s h z | exact fun s h z => by rw [tell_8 (by omega)]; exact c121 s h | exact fun s h z => by rw [tell_d (by omega)]; exact h_m129.2 s h⟩⟩
    · skip
      refine CV.mono (cx_44   g_m) (by decide) ?_
      rintro m100 ⟨g_m100, h_m100⟩
      exact ⟨g_m100, by exact ⟨by first | trivial | omega | (refine ⟨?_, ?_⟩ <;> omega), by first | exact fun s h z => by rw [tell_0 (by omega)]; exact c79 s h | exact fun s h z => by rw [tell_1 (by omega)]; exact h_m86.2 s h z | exact fun s h z => by rw [tell_2 (by omega)]; exact h_m93.2 s h z | exact fun s h z => by rw [tell_3 (by omega)]; exact h_m100.2 s h z | exact fun s h z => by rw [tell_8 (by omega)]; exact c121 s h | exact fun s h z => by rw [tell_d (by omega)]; exact h_m129.2 s h⟩⟩
    · skip
      refine CV.mono (cx_46   g_m r_v1) (by decide) ?_
      rintro m129 ⟨g_m129, h_m129⟩
      exact ⟨g_m129, by exact ⟨by first | trivial | omega | (refine ⟨?_, ?_⟩ <;> omega), by first | exact fun s h z => by rw [tell_0 (by omega)]; exact c79 s h | exact fun s h z => by rw [tell_1 (by omega)]; exact h_m86.2 s h z | exact fun s h z => by rw [tell_2 (by omega)]; exact h_m93.2 s h z | exact fun s h z => by rw [tell_3 (by omega)]; exact h_m100.2 s h z | exact fun s h z => by rw [tell_8 (by omega)]; exact c121 s h | exact fun s h z => by rw [tell_d (by omega)]; exact h_m129.2 s h⟩⟩
    · skip
      refine CV.mono (cx_46   g_m r_v1) (by decide) ?_
      rintro m129 ⟨g_m129, h_m129⟩
      exact ⟨g_m129, by exact ⟨by first | trivial | omega | (refine ⟨?_, ?_⟩ <;> omega), by first | exact fun s h z => by rw [tell_0 (by omega)]; exact c79 s h | exact fun s h z => by rw [tell_1 (by omega)]; exact h_m86.2 s h z | exact fun s h z => by rw [tell_2 (by omega)]; exact h_m93.2 s h z | exact fun s h z => by rw [tell_3 (by omega)]; exact h_m100.2 s h z | exact fun s h z => by rw [tell_8 (by omega)]; exact c121 s h | exact fun s h z => by rw [tell_d (by omega)]; exact h_m129.2 s h⟩⟩
    · skip
      refine CV.mono (cx_46   g_m r_v1) (by decide) ?_
      rintro m129 ⟨g_m129, h_m129⟩
      exact ⟨g_m129, by exact ⟨by first | trivial | omega | (refine ⟨?_, ?_⟩ <;> omega), by first | exact fun s h z => by rw [tell_0 (by omega)]; exact c79 s h | exact fun s h z => by rw [tell_1 (by omega)]; exact h_m86.2 s h z | exact fun s h z => by rw [tell_2 (by omega)]; exact h_m93.2 s h z | exact fun s h z => by rw [tell_3 (by omega)]; exact h_m100.2 s h z | exact fun s h z => by rw [tell_8 (by omega)]; exact c121 s h | exact fun s h z => by rw [tell_d (by omega)]; exact h_m129.2 s h⟩⟩
    · skip
      refine CV.mono (cx_46   g_m r_v1) (by decide) ?_
      rintro m129 ⟨g_m129, h_m129⟩
      exact ⟨g_m129, by exact ⟨by first | trivial | omega | (refine ⟨?_, ?_⟩ <;> omega), by first | exact fun s h z => by rw [tell_0 (by omega)]; exact c79 s h | exact fun s h z => by rw [tell_1 (by omega)]; exact h_m86.2 s h z | exact fun s h z => by rw [tell_2 (by omega)]; exact h_m93.2 s h z | exact fun s h z => by rw [tell_3 (by omega)]; exact h_m100.2 s h z | exact fun s h z => by rw [tell_8 (by omega)]; exact c121 s h | exact fun s h z => by rw [tell_d (by omega)]; exact h_m129.2 s h⟩⟩
    · skip
      refine CK.mono (ct_39   g_m.1 r_v1) (by decide) ?_
      rintro m108 v108 r_v108 ⟨hx_m108, h_m108⟩
      have g_m108 : RX m0 m108 := RX.tk g_m hx_m108 (by omega) (by omega)
      refine CK.mono (cx_40   g_m108.1 (by unfold rg; decide) (by unfold rg; decide) (by omega) g_m108.2.2.2.1) (by decide) ?_
      rintro m118 v118 r_v118 ⟨hx_m118, h_m118⟩
      have g_m118 : RX m0 m118 := RX.tk g_m108 hx_m118 (by omega) (by omega)
      intro m121 e_m121
      have g_m121 : RX m0 m121 := by rw [e_m121]; exact RX.f10 g_m118 r_v118
      have c121 : ∀ s : Ps, RC s m → RC (pSeed (tX m0) s) m121 := fun s h => by
        have h108 : tkP m m108 8 v108 := by have q := h_m108; rw [show v1 = 8 by omega] at q; exact q
        have a1 := rc_T h hx_m108 (tX_rx g_m) h108
        have a2 := rc_I a1 hx_m118 (tX_rx g_m108) h_m118.2
        exact rc_f10 a2.1 e_m121 r_v118 a2.2
      exact ⟨g_m121, by exact ⟨by first | trivial | omega | (refine ⟨?_, ?_⟩ <;> omega), by first | exact fun s h z => by rw [tell_0 (by omega)]; exact c79 s h | exact fun s h z => by rw [tell_1 (by omega)]; exact h_m86.2 s h z | exact fun s h z => by rw [tell_2 (by omega)]; exact h_m93.2 s h z | exact fun s h z => by rw [tell_3 (by omega)]; exact h_m100.2 s h z | exact fun s h z => by rw [tell_8 (by omega)]; exact c121 s h | exact fun s h z => by rw [tell_d (by omega)]; exact h_m129.2 s h⟩⟩
    · skip
      refine CV.mono (cx_46   g_m r_v1) (by decide) ?_
      rintro m129 ⟨g_m129, h_m129⟩
      exact ⟨g_m129, by exact ⟨by first | trivial | omega | (refine ⟨?_, ?_⟩ <;> omega), by first | exact fun s h z => by rw [tell_0 (by omega)]; exact c79 s h | exact fun s h z => by rw [tell_1 (by omega)]; exact h_m86.2 s h z | exact fun s h z => by rw [tell_2 (by omega)]; exact h_m93.2 s h z | exact fun s h z => by rw [tell_3 (by omega)]; exact h_m100.2 s h z | exact fun s h z => by rw [tell_8 (by omega)]; exact c121 s h | exact fun s h z => by rw [tell_d (by omega)]; exact h_m129.2 s h⟩⟩
  · intro m_132  hR_132
    obtain ⟨g_m_132, hR_132⟩ := hR_132
    obtain ⟨hR_132, cR_132⟩ := hR_132
    refine CK.mono (ct_39   g_m_132.1 (by unfold rg; decide)) (by decide) ?_
    rintro m135 v135 r_v135 ⟨hx_m135, h_m135⟩
    have g_m135 : RX m0 m135 := RX.tk g_m_132 hx_m135 (by omega) (by omega)
    exact ⟨g_m135, by exact ⟨by first | trivial | omega | (refine ⟨?_, ?_⟩ <;> omega), by exact fun s h z => by unfold pStep; rw [rc_k h z (tX_rx g_m), ← h_m1]; exact rc_T (cR_132 s h z) hx_m135 (tX_rx g_m_132) h_m135⟩⟩
