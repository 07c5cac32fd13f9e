def lf (m m2 : Mm) : Prop := ∀ j : Nat, ld m2 292 j = ld m 292 j
theorem lf_r (m : Mm) : lf m m := fun _ => rfl
theorem lf.trans {a b c : Mm} (h : lf a b) (k : lf b c) : lf a c := fun j => (k j).trans (h j)
theorem lf_gx {S : Nat → Nat → Bool} {m m2 : Mm} (g : GX S m m2) : lf m m2 := fun j => g.2.2 292 j
theorem lf_wt {m m2 : Mm} {i j : Nat} {v : Int} (e : m2 = wt m i j v) : lf m m2 := fun q => by rw [e]; rfl
def flP (m m2 : Mm) (k : Int) : Prop := ((rd m 284 13 = 0 ∧ rd m2 284 13 = k ∧ rd m2 284 14 = rd m 288 (Int.toNat (rd m 284 11))) ∨ (¬ rd m 284 13 = 0 ∧ rd m2 284 13 = rd m 284 13 ∧ rd m2 284 14 = rd m 284 14)) ∧ rd m2 284 11 = rd m 284 11 ∧ rd m2 284 15 = rd m 284 15 ∧ rd m2 284 16 = rd m 284 16
def roP (m m2 : Mm) (a b : Int) : Prop := (¬ rd m 284 13 = 0 → rd m2 284 13 = rd m 284 13 ∧ rd m2 284 14 = rd m 284 14) ∧ (rd m 284 13 = 0 → a = b → flP m m2 2) ∧ (rd m 284 13 = 0 → ¬ a = b → goP m m2)
theorem ro_f {m m1 : Mm} {a b : Int} (h : (a = b ∧ flP m m1 2) ∨ (¬ a = b ∧ m1 = m)) (z : ¬ rd m1 284 13 = 0) : roP m m1 a b := by
  rcases h with ⟨e, f⟩ | ⟨e, f⟩
  · refine ⟨fun w => ?_, fun _ _ => f, fun _ w => absurd e w⟩
    rcases f.1 with q | q
    · exact absurd q.1 w
    · exact q.2
  · subst f
    exact ⟨fun _ => ⟨rfl, rfl⟩, fun w => absurd w z, fun w => absurd w z⟩
theorem ro_g {m m1 m2 : Mm} {a b : Int} (h : (a = b ∧ flP m m1 2) ∨ (¬ a = b ∧ m1 = m)) (z : rd m1 284 13 = 0) (g : goP m1 m2) : roP m m2 a b := by
  rcases h with ⟨e, f⟩ | ⟨e, f⟩
  · have := f.1
    omega
  · subst f
    exact ⟨fun w => absurd z w, fun _ w => absurd w e, fun _ _ => g⟩
/-! the model's memory tells what the function holds -/
def dM (s : Ps) (S : Int) (m : Mm) : Prop := (rd m 293 (Int.toNat S) = s 0 5 ∧ rd m 294 (Int.toNat S) = s 0 6 ∧ rd m 306 (Int.toNat S) = s 0 7 ∧ rd m 295 (Int.toNat S) = s 0 8 ∧ rd m 298 (Int.toNat S) = s 0 9 ∧ rd m 302 (Int.toNat S) = s 0 10 ∧ rd m 284 20 = s 0 10) ∧ (∀ j : Nat, (j : Int) < s 0 8 → rd m 296 (8 * Int.toNat S + j) = s 1 j ∧ rd m 297 (8 * Int.toNat S + j) = s 2 j) ∧ (∀ j : Nat, (j : Int) < s 0 9 → rd m 299 (10 * Int.toNat S + j) = s 3 j ∧ rd m 300 (10 * Int.toNat S + j) = s 4 j ∧ rd m 301 (10 * Int.toNat S + j) = s 5 j) ∧ (∀ j : Nat, (j : Int) < s 0 10 → rd m 303 (3 * Int.toNat S + j) = s 6 j ∧ rd m 304 (3 * Int.toNat S + j) = s 7 j ∧ ld m 292 j = s 9 j) ∧ ∀ j : Nat, (j : Int) < 6 * s 0 10 → rd m 305 (18 * Int.toNat S + j) = s 8 j
/-- the token is one of those there are, a later fault stands ahead of it -/
def pV (X : Tk) (N : Int) (s : Ps) : Prop := s 0 1 = 0 → 0 ≤ s 0 0 ∧ s 0 0 ≤ N ∧ s 0 0 ≤ 400 ∧ (¬ s 0 3 = 0 → s 0 4 < X 1 (s 0 0))
def RM (X : Tk) (N S : Int) (s : Ps) (m : Mm) : Prop := cR s (rd m 284 13) (rd m 284 14) (rd m 284 11) (rd m 284 15) (rd m 284 16) ∧ pV X N s ∧ (s 0 1 = 0 → dM s S m)
def mF (m m2 : Mm) : Prop := (∀ i j : Nat, (i = 284 ∧ j = 20) ∨ (293 ≤ i ∧ i ≤ 306) → rd m2 i j = rd m i j) ∧ lf m m2
theorem dM_sd {s s2 : Ps} {S : Int} {m : Mm} (h : dM s S m) (e : sd s s2) : dM s2 S m := by
  have E : ∀ i j : Nat, ¬ (i = 0 ∧ j ≤ 4) → s2 i j = s i j := e
  unfold dM
  rw [E 0 5 (by omega), E 0 6 (by omega), E 0 7 (by omega), E 0 8 (by omega), E 0 9 (by omega), E 0 10 (by omega)]
  obtain ⟨h1, h2, h3, h4, h5⟩ := h
  refine ⟨h1, fun j hj => ?_, fun j hj => ?_, fun j hj => ?_, fun j hj => ?_⟩
  · rw [E 1 j (by omega), E 2 j (by omega)]; exact h2 j hj
  · rw [E 3 j (by omega), E 4 j (by omega), E 5 j (by omega)]; exact h3 j hj
  · rw [E 6 j (by omega), E 7 j (by omega), E 9 j (by omega)]; exact h4 j hj
  · rw [E 8 j (by omega)]; exact h5 j hj
theorem dM_fr {s : Ps} {S : Int} {m m2 : Mm} (h : dM s S m) (e : mF m m2) : dM s S m2 := by
  obtain ⟨F, l⟩ := e
  unfold dM
  rw [F 293 _ (by omega), F 294 _ (by omega), F 306 _ (by omega), F 295 _ (by omega), F 298 _ (by omega), F 302 _ (by omega), F 284 20 (by omega)]
  obtain ⟨h1, h2, h3, h4, h5⟩ := h
  refine ⟨h1, fun j hj => ?_, fun j hj => ?_, fun j hj => ?_, fun j hj => ?_⟩
  · rw [F 296 _ (by omega), F 297 _ (by omega)]; exact h2 j hj
  · rw [F 299 _ (by omega), F 300 _ (by omega), F 301 _ (by omega)]; exact h3 j hj
  · rw [F 303 _ (by omega), F 304 _ (by omega), l]; exact h4 j hj
  · rw [F 305 _ (by omega)]; exact h5 j hj
theorem mF_ft {m m2 : Mm} (g : GX sFt m m2) : mF m m2 := ⟨fun i j q => g.2.1 i j (sFt_no (by omega)), lf_gx g⟩
/-! tokens of the function -/
def tkQ (X : Tk) (N : Int) : Prop := (∀ t : Int, 0 ≤ t → t ≤ N → t ≤ 400 → ¬ X 0 t = 23 → t < N) ∧ ∀ t : Int, 0 ≤ t → t < N → t + 1 ≤ 400 → X 1 t < X 1 (t + 1)
theorem tkQ_of {m : Mm} {N : Int} (h : tkN m N) : tkQ (tX m) N := by
  refine ⟨fun t h0 h1 h4 k => (tkN_k h h0 h1 h4).2 k, fun t h0 h1 h4 => ?_⟩
  have := h.2.2.2 (Int.toNat t) (by omega) (by omega)
  rw [show Int.toNat t + 1 = Int.toNat (t + 1) by omega] at this
  exact this
theorem tkQ_m {X : Tk} {N a : Int} (h : tkQ X N) (h0 : 0 ≤ a) : ∀ k : Nat, a + k ≤ N → a + k ≤ 400 → X 1 a ≤ X 1 (a + k)
  | 0, _, _ => by rw [show a + ((0 : Nat) : Int) = a by omega]; exact Int.le_refl _
  | k + 1, h1, h4 => by
    have i := tkQ_m h h0 k (by omega) (by omega)
    have := h.2 (a + k) (by omega) (by omega) (by omega)
    rw [show a + ((k + 1 : Nat) : Int) = a + k + 1 by omega]
    omega
theorem tkQ_l {X : Tk} {N a b : Int} (h : tkQ X N) (h0 : 0 ≤ a) (hb : a ≤ b) (h1 : b ≤ N) (h4 : b ≤ 400) : X 1 a ≤ X 1 b := by
  have := tkQ_m h h0 (Int.toNat (b - a)) (by omega) (by omega)
  rw [show a + ((Int.toNat (b - a) : Nat) : Int) = b by omega] at this
  exact this
theorem tkN_m {m : Mm} {N t : Int} (h : tkN m N) (h1 : 0 ≤ t) (h2 : t ≤ N) (h4 : t ≤ 400) : mat m m (Int.toNat t) := by
  by_cases z : t < N
  · exact (h.2.1 (Int.toNat t) (by omega)).1
  · have e : t = N := by omega
    subst e
    exact (h.2.2.1 (by omega)).1
theorem au_b {K : Int → Int} {N : Int} (hK : ∀ t : Int, 0 ≤ t → t ≤ N → t ≤ 400 → ¬ K t = 23 → t < N) : ∀ (n : Nat) (t d s : Int), t + n = 402 → 0 ≤ t → t ≤ N → t ≤ 400 → t ≤ (au K n t d s).2 ∧ (au K n t d s).2 ≤ N ∧ (au K n t d s).2 ≤ 400
  | 0, t, d, s, h, _, _, h4 => by omega
  | n + 1, t, d, s, h, h0, h1, h4 => by
    have B : t ≤ t ∧ t ≤ N ∧ t ≤ 400 := ⟨Int.le_refl t, h1, h4⟩
    have R : ∀ d2 s2 : Int, ¬ K t = 23 → ¬ t = 400 → t ≤ (au K n (t + 1) d2 s2).2 ∧ (au K n (t + 1) d2 s2).2 ≤ N ∧ (au K n (t + 1) d2 s2).2 ≤ 400 := fun d2 s2 k q => by
      have l := hK t h0 h1 h4 k
      have := au_b hK n (t + 1) d2 s2 (by omega) (by omega) (by omega) (by omega)
      omega
    show t ≤ (if s = 0 then (if K t = 40 then (if d = 6 ∨ t = 400 then ((2, t) : Int × Int) else au K n (t + 1) (d + 1) 0) else if isU (K t) then (if t = 400 then (2, t) else au K n (t + 1) d 1) else (1, t)) else (if K t = 41 ∧ 0 < d then (if t = 400 then (2, t) else au K n (t + 1) (d - 1) 1) else if isOp (K t) then (if t = 400 then (2, t) else au K n (t + 1) d 0) else if 0 < d then (1, t) else (0, t))).2 ∧ _ ∧ _
    by_cases c1 : s = 0
    · rw [show au K (n + 1) t d s = (if s = 0 then (if K t = 40 then (if d = 6 ∨ t = 400 then ((2, t) : Int × Int) else au K n (t + 1) (d + 1) 0) else if isU (K t) then (if t = 400 then (2, t) else au K n (t + 1) d 1) else (1, t)) else (if K t = 41 ∧ 0 < d then (if t = 400 then (2, t) else au K n (t + 1) (d - 1) 1) else if isOp (K t) then (if t = 400 then (2, t) else au K n (t + 1) d 0) else if 0 < d then (1, t) else (0, t))) from rfl, if_pos c1]
      by_cases c2 : K t = 40
      · rw [if_pos c2]
        by_cases c3 : d = 6 ∨ t = 400
        · rw [if_pos c3]; exact B
        · rw [if_neg c3]; exact R _ _ (by omega) (by omega)
      · rw [if_neg c2]
        by_cases c3 : isU (K t)
        · rw [if_pos c3]
          by_cases c4 : t = 400
          · rw [if_pos c4]; exact B
          · rw [if_neg c4]; exact R _ _ (by unfold isU at c3; omega) c4
        · rw [if_neg c3]; exact B
    · rw [show au K (n + 1) t d s = (if s = 0 then (if K t = 40 then (if d = 6 ∨ t = 400 then ((2, t) : Int × Int) else au K n (t + 1) (d + 1) 0) else if isU (K t) then (if t = 400 then (2, t) else au K n (t + 1) d 1) else (1, t)) else (if K t = 41 ∧ 0 < d then (if t = 400 then (2, t) else au K n (t + 1) (d - 1) 1) else if isOp (K t) then (if t = 400 then (2, t) else au K n (t + 1) d 0) else if 0 < d then (1, t) else (0, t))) from rfl, if_neg c1]
      by_cases c2 : K t = 41 ∧ 0 < d
      · rw [if_pos c2]
        by_cases c4 : t = 400
        · rw [if_pos c4]; exact B
        · rw [if_neg c4]; exact R _ _ (by omega) c4
      · rw [if_neg c2]
        by_cases c3 : isOp (K t)
        · rw [if_pos c3]
          by_cases c4 : t = 400
          · rw [if_pos c4]; exact B
          · rw [if_neg c4]; exact R _ _ (by unfold isOp at c3; omega) c4
        · rw [if_neg c3]
          by_cases c4 : 0 < d
          · rw [if_pos c4]; exact B
          · rw [if_neg c4]; exact B
theorem AU_b {X : Tk} {N t d s : Int} (h : tkQ X N) (h0 : 0 ≤ t) (h1 : t ≤ N) (h4 : t ≤ 400) : t ≤ (AU (X 0) t d s).2 ∧ (AU (X 0) t d s).2 ≤ N ∧ (AU (X 0) t d s).2 ≤ 400 :=
  au_b h.1 (Int.toNat (402 - t)) t d s (by omega) h0 h1 h4
section PVS
variable {X : Tk} {N : Int} {s : Ps}
theorem pV_f {k p : Int} (hk : ¬ k = 0) : pV X N (ps_f s k p) := fun z => absurd z hk
theorem pV_g (h : pV X N s) (z : s 0 1 = 0) {t : Int} (h0 : s 0 0 ≤ t) (h1 : t ≤ N) (h4 : t ≤ 400) (hx : X 1 (s 0 0) ≤ X 1 t) : pV X N (ps_g s t) := fun _ => by
  have a := h z
  exact ⟨by show (0 : Int) ≤ t; omega, h1, h4, fun w => Int.lt_of_lt_of_le (a.2.2.2 w) hx⟩
theorem pV_T {k : Int} (q : tkQ X N) (h : pV X N s) (hk : ¬ k = 23) : pV X N (pT X k s) := by
  unfold pT
  split
  · next z =>
    have a := h z
    split
    · next kk =>
      split
      · next l =>
        have lt := q.1 _ a.1 a.2.1 a.2.2.1 (by rw [kk]; exact hk)
        exact pV_g h z (by omega) (by omega) (by omega) (Int.le_of_lt (q.2 _ a.1 lt (by omega)))
      · exact pV_f (by decide)
    · exact pV_f (by decide)
  · exact h
theorem pV_F {k : Int} (h : pV X N s) (hk : ¬ k = 0) : pV X N (pF X k s) := by
  unfold pF
  split
  · exact pV_f hk
  · exact h
theorem pV_l {k p : Int} (h : pV X N s) (hp : s 0 1 = 0 → p < X 1 (s 0 0)) : pV X N (ps_l s k p) := by
  unfold ps_l
  split
  · intro z
    have z0 : s 0 1 = 0 := z
    have a := h z0
    exact ⟨a.1, a.2.1, a.2.2.1, fun _ => hp z0⟩
  · exact h
theorem pV_I {lo hi : Int} (q : tkQ X N) (h : pV X N s) : pV X N (pI X lo hi s) := by
  unfold pI
  split
  · next z =>
    have a := h z
    split
    · next kk =>
      split
      · next l =>
        have lt := q.1 _ a.1 a.2.1 a.2.2.1 (by rw [kk]; decide)
        have x := q.2 _ a.1 lt (by omega)
        have g : pV X N (ps_g s (s 0 0 + 1)) := pV_g h z (by omega) (by omega) (by omega) (Int.le_of_lt x)
        split
        · exact g
        · exact pV_l g (fun _ => x)
      · exact pV_f (by decide)
    · exact pV_f (by decide)
  · exact h
theorem pV_S (q : tkQ X N) (h : pV X N s) : pV X N (pS X s) := by
  unfold pS
  split
  · next z =>
    have a := h z
    have b := AU_b (d := 0) (s := 0) q a.1 a.2.1 a.2.2.1
    split
    · exact pV_g h z b.1 b.2.1 b.2.2 (tkQ_l q a.1 b.1 b.2.1 b.2.2)
    · next w => exact pV_f w
  · exact h
end PVS
theorem km_v {c k : Int} (h : kmR c k) : (k = 4 ↔ c = 59) ∧ (k = 5 ↔ c = 61) ∧ (k = 13 ↔ c = 60) ∧ (k = 30 ↔ c = 10) ∧ (k = 31 ↔ c = 11) ∧ (k = 1 ↔ c = 21) ∧ (k = 29 ↔ c = 9) ∧ (k = 2 ↔ c = 22) ∧ (k = 0 ↔ c = 23) ∧ ((20 ≤ k ∧ k ≤ 28 → k = c + 20) ∧ (0 ≤ c ∧ c ≤ 8 → k = c + 20)) := by
  rcases h with ⟨rfl, rfl⟩ | ⟨rfl, rfl⟩ | ⟨rfl, rfl⟩ | ⟨rfl, rfl⟩ | ⟨h1, h2, rfl⟩ | ⟨rfl, rfl⟩ | ⟨rfl, rfl⟩ | ⟨rfl, rfl⟩ | ⟨rfl, rfl⟩ | ⟨rfl, rfl⟩ | ⟨rfl, rfl⟩ | ⟨rfl, rfl⟩ | ⟨rfl, rfl⟩ | ⟨rfl, rfl⟩
  all_goals first | decide | exact ⟨by omega, by omega, by omega, by omega, by omega, by omega, by omega, by omega, by omega, by omega⟩
theorem if_C {X : Tk} {s P : Ps} {x z : Int} (e : pIfs X (Int.toNat (4 - x)) s = P) (ex : 0 ≤ x ∧ x < 4 ∧ z = x + 1) (c : s 0 1 = 0 ∧ X 0 (s 0 0) = 9) : pIfs X (Int.toNat (4 - z)) (pIf X s) = P := by
  rw [← e, show Int.toNat (4 - x) = Int.toNat (4 - z) + 1 by omega]
  exact (ifs_st c).symm
section RMS
variable {m0 m m2 : Mm} {N S : Int} {s : Ps}
theorem rn_N {X : Tk} (h : RM X N S s m) : rd m 284 13 = 0 → rd m 284 11 ≤ N := fun z => by
  have z0 : s 0 1 = 0 := h.1.1.symm.trans z
  rw [(h.1.2.2 z0).1]
  exact (h.2.1 z0).2.1
/-- the token that is looked at, for both -/
theorem rm_k (h : RM (tX m0) N S s m) (tk : tkN m0 N) (g : PX m0 m) (z : rd m 284 13 = 0) : kmR (tX m0 0 (rd m 284 11)) (rd m 287 (Int.toNat (rd m 284 11))) ∧ rd m 288 (Int.toNat (rd m 284 11)) = tX m0 1 (rd m 284 11) ∧ (tX m0 0 (rd m 284 11) = 22 → rd m 289 (Int.toNat (rd m 284 11)) = tX m0 2 (rd m 284 11)) ∧ (tX m0 0 (rd m 284 11) = 21 → ld m 290 (Int.toNat (rd m 284 11)) = tX m0 2 (rd m 284 11)) := by
  have z0 : s 0 1 = 0 := h.1.1.symm.trans z
  have a := h.2.1 z0
  have e := (h.1.2.2 z0).1
  have t := tkN_m tk (t := rd m 284 11) (by omega) (by omega) (by omega)
  rw [g.2.1 287 _ (inP_no (by omega) (by omega)), g.2.1 288 _ (inP_no (by omega) (by omega)), g.2.1 289 _ (inP_no (by omega) (by omega)), g.2.2 290 _ (by decide)]
  exact ⟨t.2.1, t.1, t.2.2.1, t.2.2.2⟩
theorem rm_T {K kd pl : Int} (h : RM (tX m0) N S s m) (tk : tkN m0 N) (f : mF m m2) (n23 : ¬ K = 23) (ek : rd m 284 13 = 0 → (kd = K ↔ tX m0 0 (rd m 284 11) = K)) (ep : rd m 284 13 = 0 → pl = tX m0 1 (rd m 284 11)) (st : stT K kd pl (rd m 284 13) (rd m 284 14) (rd m 284 11) (rd m 284 15) (rd m 284 16) (rd m2 284 13) (rd m2 284 14) (rd m2 284 11) (rd m2 284 15) (rd m2 284 16)) : RM (tX m0) N S (pT (tX m0) K s) m2 :=
  ⟨c_T h.1 ek ep st, pV_T (tkQ_of tk) h.2.1 n23, fun z => dM_sd (dM_fr (h.2.2 (pT_z z)) f) sd_T⟩
theorem rm_mu {K k : Int} (h : RM (tX m0) N S s m) (tk : tkN m0 N) (g : PX m0 m) (gf : GX sFt m m2) (kk : ∀ c x : Int, kmR c x → (x = k ↔ c = K)) (n23 : ¬ K = 23) (u : muP m m2 k) (gf15 : rd m2 284 15 = rd m 284 15 ∧ rd m2 284 16 = rd m 284 16 := by omega) : RM (tX m0) N S (pT (tX m0) K s) m2 := by
  by_cases z : rd m 284 13 = 0
  · have a := rm_k h tk g z
    have c := kk _ _ a.1
    refine rm_T (kd := tX m0 0 (rd m 284 11)) (pl := tX m0 1 (rd m 284 11)) h tk (mF_ft gf) n23 (fun _ => Iff.rfl) (fun _ => rfl) ?_
    have e15 : rd m2 284 15 = rd m 284 15 ∧ rd m2 284 16 = rd m 284 16 := ⟨by have := gf15; exact this.1, by have := gf15; exact this.2⟩
    rcases u with q | ⟨-, q1, q2, q3, -, q5⟩ | ⟨-, q1, q2, -⟩
    · exact absurd z q.1
    · exact Or.inr (Or.inl ⟨z, c.mp q1, q2, q3, q5, e15.1, e15.2⟩)
    · rw [a.2.1] at q2
      refine Or.inr (Or.inr ⟨z, ?_, q2⟩)
      rcases q1 with ⟨w1, w2, w3⟩ | ⟨w1, w2⟩
      · exact Or.inl ⟨c.mp w1, w2, w3⟩
      · exact Or.inr ⟨fun w => w1 (c.mpr w), w2⟩
  · refine rm_T (kd := 0) (pl := 0) h tk (mF_ft gf) n23 (fun w => absurd w z) (fun w => absurd w z) ?_
    rcases u with q | ⟨q, -⟩ | ⟨q, -⟩
    · exact Or.inl ⟨z, q.2.1, q.2.2.1⟩
    · exact absurd q z
    · exact absurd q z
theorem rm_go {K k : Int} (h : RM (tX m0) N S s m) (tk : tkN m0 N) (g : PX m0 m) (gf : GX sFt m m2) (kk : ∀ c x : Int, kmR c x → (x = k ↔ c = K)) (n23 : ¬ K = 23) (hk : rd m 287 (Int.toNat (rd m 284 11)) = k) (z : rd m 284 13 = 0) (go : goP m m2) : RM (tX m0) N S (pT (tX m0) K s) m2 := by
  have a := rm_k h tk g z
  have c := (kk _ _ a.1).mp hk
  refine rm_T (kd := tX m0 0 (rd m 284 11)) (pl := tX m0 1 (rd m 284 11)) h tk (mF_ft gf) n23 (fun _ => Iff.rfl) (fun _ => rfl) ?_
  rcases go.1 with ⟨q1, q2, q3, -⟩ | ⟨q1, -, ⟨-, q3, q4⟩ | ⟨q3, -⟩⟩
  · exact Or.inr (Or.inl ⟨z, c, q1, q3.trans z, q2, go.2.1, go.2.2⟩)
  · rw [a.2.1] at q4
    exact Or.inr (Or.inr ⟨z, Or.inl ⟨c, q1, q3⟩, q4⟩)
  · exact absurd z q3
theorem rm_F {k : Int} (h : RM (tX m0) N S s m) (tk : tkN m0 N) (g : PX m0 m) (hk : ¬ k = 0) (u : flP m m2 k) : RM (tX m0) N S (pF (tX m0) k s) m2 := by
  refine ⟨c_F (pl := rd m 288 (Int.toNat (rd m 284 11))) h.1 hk (fun z => (rm_k h tk g z).2.1) u.1, pV_F h.2.1 hk, fun z => absurd z (pF_n hk)⟩
theorem rm_S (h : RM (tX m0) N S s m) (tk : tkN m0 N) (x : exA m0 m m2 N) (f : exFr m m2) (l : lf m m2) : RM (tX m0) N S (pS (tX m0) s) m2 := by
  have e15 := f 284 15 (by omega) (by omega) (by omega)
  have e16 := f 284 16 (by omega) (by omega) (by omega)
  have mf : mF m m2 := ⟨fun i j q => f i j (by omega) (by omega) (by omega), l⟩
  refine ⟨c_S h.1 ?_, pV_S (tkQ_of tk) h.2.1, fun z => dM_sd (dM_fr (h.2.2 (pS_z z)) mf) sd_S⟩
  by_cases z : rd m 284 13 = 0
  · have z0 : s 0 1 = 0 := h.1.1.symm.trans z
    have a := h.2.1 z0
    have et := (h.1.2.2 z0).1
    by_cases w : rd m2 284 13 = 0
    · exact Or.inr (Or.inl ⟨z, w, ((x.2 z).1 w).1, e15, e16⟩)
    · obtain ⟨tt, x1, x2⟩ := (x.2 z).2 w
      refine Or.inr (Or.inr ⟨z, w, tt, x1, ?_⟩)
      have b := AU_b (X := tX m0) (t := rd m 284 11) (d := 0) (s := 0) (tkQ_of tk) (by omega) (by omega) (by omega)
      have x1' : AU (tX m0 0) (rd m 284 11) 0 0 = (rd m2 284 13, tt) := x1
      rw [x1'] at b
      have b2 : rd m 284 11 ≤ tt ∧ tt ≤ N ∧ tt ≤ 400 := b
      rw [x2]
      exact (tkN_m tk (t := tt) (by omega) (by omega) (by omega)).1
  · have := x.1 z
    exact Or.inl ⟨z, this.1, this.2⟩
theorem rm_S0 {X : Tk} (h : RM X N S s m) (z : ¬ rd m 284 13 = 0) : RM X N S (pS X s) m := by
  rw [pS_fz (fun w => z (h.1.1.trans w))]
  exact h
theorem rm_fr {X : Tk} (h : RM X N S s m) (e : ∀ j : Nat, (j = 11 ∨ j = 13 ∨ j = 14 ∨ j = 15 ∨ j = 16) → rd m2 284 j = rd m 284 j) (f : mF m m2) : RM X N S s m2 := by
  refine ⟨?_, h.2.1, fun z => dM_fr (h.2.2 z) f⟩
  rw [e 13 (by omega), e 14 (by omega), e 11 (by omega), e 15 (by omega), e 16 (by omega)]
  exact h.1
theorem rm_wt {X : Tk} {i j : Nat} {v : Int} (h : RM X N S s m) (hi : (i = 284 ∧ (j = 12 ∨ j = 38 ∨ j = 44 ∨ j = 48)) ∨ 307 ≤ i) (e : m2 = wt m i j v) : RM X N S s m2 := by
  have F : ∀ a b : Nat, ¬ (a = i ∧ b = j) → rd m2 a b = rd m a b := fun a b q => by rw [e, rd_wt, if_neg q]
  exact rm_fr h (fun b hb => F 284 b (by omega)) ⟨fun a b q => F a b (by omega), lf_wt e⟩
theorem m38_ok {m12 m38 : Mm} {x : Int} {s2 : Ps} (h : (¬ x = 4 ∧ m38 = m12) ∨ (x = 4 ∧ RM (tX m0) N S (pF (tX m0) 2 s2) m38 ∧ ¬ rd m38 284 13 = 0)) (z : rd m38 284 13 = 0) (r : RM (tX m0) N S s2 m12) : RM (tX m0) N S s2 m38 := by
  rcases h with q | q
  · rw [q.2]; exact r
  · exact absurd z q.2.2
theorem m38_k {A : Prop} {m12 m38 : Mm} {x k : Int} (h : (¬ x = 4 ∧ m38 = m12) ∨ (x = 4 ∧ A ∧ ¬ rd m38 284 13 = 0)) (z : rd m38 284 13 = 0) (r : rd m12 287 (Int.toNat (rd m12 284 11)) = k) : rd m38 287 (Int.toNat (rd m38 284 11)) = k := by
  rcases h with q | q
  · rw [q.2]; exact r
  · exact absurd z q.2.2
theorem m38_c (r : RM (tX m0) N S s m) (tk : tkN m0 N) (g : PX m0 m) (z : rd m 284 13 = 0) (k : rd m 287 (Int.toNat (rd m 284 11)) = 29) : s 0 1 = 0 ∧ tX m0 0 (s 0 0) = 9 := by
  have z0 : s 0 1 = 0 := r.1.1.symm.trans z
  refine ⟨z0, ?_⟩
  rw [← (r.1.2.2 z0).1]
  exact (km_v (rm_k r tk g z).1).2.2.2.2.2.2.1.mp k
theorem m38_n (r : RM (tX m0) N S s m) (tk : tkN m0 N) (g : PX m0 m) (c : ¬ rd m 284 13 = 0 ∨ ¬ rd m 287 (Int.toNat (rd m 284 11)) = 29) : ¬ (s 0 1 = 0 ∧ tX m0 0 (s 0 0) = 9) := by
  rintro ⟨w1, w2⟩
  have z : rd m 284 13 = 0 := r.1.1.trans w1
  rcases c with c | c
  · exact c z
  · rw [← (r.1.2.2 w1).1] at w2
    exact c ((km_v (rm_k r tk g z).1).2.2.2.2.2.2.1.mpr w2)
theorem tl_x {P : Ps} {n : Nat} (r : RM (tX m0) N S s m) (tk : tkN m0 N) (g : PX m0 m) (e : pIfs (tX m0) n s = P) (c : ¬ rd m 284 13 = 0 ∨ ¬ rd m 287 (Int.toNat (rd m 284 11)) = 29) : RM (tX m0) N S (pRm (tX m0) P) m := by
  have q := m38_n r tk g c
  rw [← e, ifs_no q]
  unfold pRm
  rw [if_neg q]
  exact r
theorem tl_4 {P : Ps} {m38 : Mm} {x : Int} (r : RM (tX m0) N S s m) (tk : tkN m0 N) (g : PX m0 m) (e : pIfs (tX m0) (Int.toNat (4 - x)) s = P) (h : (¬ x = 4 ∧ m38 = m) ∨ (x = 4 ∧ RM (tX m0) N S (pF (tX m0) 2 s) m38 ∧ ¬ rd m38 284 13 = 0)) (z38 : ¬ rd m38 284 13 = 0) (z : rd m 284 13 = 0) (k : rd m 287 (Int.toNat (rd m 284 11)) = 29) : RM (tX m0) N S (pT (tX m0) 59 (pS (tX m0) (pRm (tX m0) P))) m38 := by
  rcases h with q | ⟨q1, q2, q3⟩
  · rw [q.2] at z38
    exact absurd z z38
  · rw [show Int.toNat (4 - x) = 0 by omega] at e
    have e2 : s = P := e
    subst e2
    have c := m38_c r tk g z k
    have er : pRm (tX m0) s = pF (tX m0) 2 s := by
      unfold pRm pF
      rw [if_pos c, if_pos c.1]
    rw [er, pS_fz (pF_n (by decide)), pT_fz (pF_n (by decide))]
    exact q2
end RMS
-- TippedCratesModel.emit(II)V
set_option maxRecDepth 20000 in
theorem my_197 {m0 m : Mm} {x1 : Int} {x2 : Int}  (g_m : PX m0 m) (r_x1 : rg x1) (r_x2 : rg x2) (p0 : 0 ≤ x1 ∧ x1 ≤ 5) (p1 : 0 ≤ x2 ∧ x2 ≤ 9999) (p2 : 420 * rd m0 284 19 ≤ rd m 284 44 ∧ rd m 284 44 < 420 * rd m0 284 19 + 420) : CV 1 197 [.ref 284, iv x1, iv x2] m (fun m2 => PX m0 m2 ∧ ((emRel m m2 x1 x2) ∧ (lf m m2))) := by
  refine br_197 r_x1 r_x2 ?_
  unfold P_197
  have hs := PX.s g_m
  have t1 := ty_284_44 g_m.1
  refine ⟨⟨by omega, by omega⟩, ?_⟩
  intro m9 e_m9
  have g_m9 : PX m0 m9 := by rw [e_m9]; exact PX.wt g_m (tw_314 g_m.1 ⟨by omega, by omega⟩) (inP_420 (by omega) (by omega))
  have c9 : rd m9 284 44 = rd m 284 44 := by rw [e_m9, rd_wt, if_neg (by omega)]
  have t2 := ty_284_44 g_m9.1
  refine ⟨⟨by omega, by omega⟩, ?_⟩
  intro m19 e_m19
  have g_m19 : PX m0 m19 := by rw [e_m19]; exact PX.wt g_m9 (tw_315 g_m9.1 ⟨by omega, by omega⟩) (inP_420 (by omega) (by omega))
  have c19 : rd m19 284 44 = rd m 284 44 := by rw [e_m19, rd_wt, if_neg (by omega)]; exact c9
  have t3 := ty_284_44 g_m19.1
  try have w4 : wr ((rd m19 284 44) + 1) = (rd m19 284 44) + 1 := wr_id (by omega) (by omega)
  intro m27 e_m27
  have g_m27 : PX m0 m27 := by rw [e_m27]; exact PX.wt g_m19 (tw_284_44 g_m19.1 ⟨by omega, by omega⟩) (inP_284 (by omega))
  exact ⟨g_m27, by exact ⟨by exact em_of r_x1 r_x2 (by omega) e_m9 e_m19 e_m27, by exact fun j => by rw [e_m27, e_m19, e_m9]; rfl⟩⟩
-- TippedCratesModel.comesOut(Z)V
set_option maxRecDepth 20000 in
theorem my_198 {m0 m : Mm} {x1 : Int} {a : Int} (g_m : PX m0 m) (r_x1 : rg x1) (p0 : exI m (rd m0 284 19) a 1) : CV 2 198 [.ref 284, iv x1] m (fun m2 => PX m0 m2 ∧ ((coRel m m2 (rd m0 284 19) a ∧ coTop m2 x1) ∧ (lf m m2))) := by
  refine br_198 r_x1 ?_
  unfold P_198
  have hs := PX.s g_m
  refine ⟨fun m_0 => PX m0 m_0 ∧ ((coRel m m_0 (rd m0 284 19) a) ∧ (lf m m_0)), fun m_0 => Int.toNat (rd m_0 284 48), ?_, ?_⟩
  · exact ⟨g_m, by exact ⟨by exact co_refl p0, by exact lf_r _⟩⟩
  · intro m_0  hI_0
    obtain ⟨g_m_0, hI_0⟩ := hI_0
    obtain ⟨hI_0, cI_0⟩ := hI_0
    have t48 := ty_284_48 g_m_0.1
    have t11 := ty_284_11 g_m_0.1
    have eb := exI_b hI_0.1
    have t1 := ty_284_48 g_m_0.1
    refine ⟨fun hq => ?_, fun hq => ?_⟩
    · skip
      exact ⟨g_m_0, by exact ⟨by first | exact ⟨hI_0, Or.inl (by omega)⟩ | exact ⟨hI_0, Or.inr ⟨by omega, by rw [← ez]; omega⟩⟩, by exact cI_0⟩⟩
    · skip
      try have w2 : wr ((rd m_0 284 48) - 1) = (rd m_0 284 48) - 1 := wr_id (by omega) (by omega)
      refine ⟨⟨by omega, by omega⟩, ?_⟩
      intro z2_18 e_z2_18
      have r_z2_18 : rg z2_18 := by rw [e_z2_18]; exact (rd_rg _ _ _)
      have ez : z2_18 = rd m_0 316 (Int.toNat (rd m_0 284 48 - 1)) := by rw [e_z2_18, wr_id (by omega) (by omega)]
      refine ⟨0 < rd m_0 284 48 ∧ (z2_18 = 6 ∨ (¬ x1 = 0 ∧ (z2_18 = 8 ∨ z2_18 = 9))), ?_, ?_⟩
      · skip
        refine ⟨fun hq => ?_, fun hq => ?_⟩
        · skip
          (first | trivial | omega | (refine ⟨?_, ?_⟩ <;> omega))
        · skip
          refine ⟨¬ z2_18 = 6, ?_, ?_⟩
          · skip
            refine ⟨fun hq => ?_, fun hq => ?_⟩
            · skip
              (first | trivial | omega | (refine ⟨?_, ?_⟩ <;> omega))
            · skip
              refine ⟨fun hq => ?_, fun hq => ?_⟩
              · skip
                (first | trivial | omega | (refine ⟨?_, ?_⟩ <;> omega))
              · skip
                refine ⟨fun hq => ?_, fun hq => ?_⟩
                · skip
                  (first | trivial | omega | (refine ⟨?_, ?_⟩ <;> omega))
                · skip
                  (first | trivial | omega | (refine ⟨?_, ?_⟩ <;> omega))
          · intro   hR_42
            intro m49 e_m49
            have g_m49 : PX m0 m49 := by rw [e_m49]; exact PX.wt g_m_0 (tw_284_48 g_m_0.1 ⟨by omega, by omega⟩) (inP_284 (by omega))
            have c49 : rd m49 284 44 = rd m_0 284 44 := by rw [e_m49, rd_wt, if_neg (by omega)]
            refine ⟨fun s1_84 => (s1_84 = 2 ∨ s1_84 = 3 ∨ s1_84 = 4 ∨ s1_84 = 5), ?_, ?_⟩
            · skip
              refine ⟨fun hq => ?_, fun hq => ?_⟩
              · skip
                refine ⟨fun hq => ?_, fun hq => ?_⟩
                · skip
                  refine ⟨fun hq => ?_, fun hq => ?_⟩
                  · skip
                    (first | trivial | omega | (refine ⟨?_, ?_⟩ <;> omega))
                  · skip
                    (first | trivial | omega | (refine ⟨?_, ?_⟩ <;> omega))
                · skip
                  (first | trivial | omega | (refine ⟨?_, ?_⟩ <;> omega))
              · skip
                (first | trivial | omega | (refine ⟨?_, ?_⟩ <;> omega))
            · intro s1_84 r_s1_84 hR_84
              refine CV.mono (my_197   g_m49 r_s1_84 (by unfold rg; decide) (by omega) (by omega) (by omega)) (by decide) ?_
              rintro m85 ⟨g_m85, h_m85⟩
              obtain ⟨h_m85, l_m85⟩ := h_m85
              have co := co_out hI_0 (by omega) (by omega) (by omega) e_m49 h_m85 (by omega)
              have co2 := co.2
              exact ⟨⟨g_m85, by exact ⟨by exact co.1, by exact (cI_0.trans (lf_wt e_m49)).trans l_m85⟩⟩, by (try dsimp only); omega⟩
      · intro   hR_41
        exact ⟨g_m_0, by exact ⟨by first | exact ⟨hI_0, Or.inl (by omega)⟩ | exact ⟨hI_0, Or.inr ⟨by omega, by rw [← ez]; omega⟩⟩, by exact cI_0⟩⟩
-- TippedCratesModel.unit()V
set_option maxRecDepth 20000 in
theorem my_200 {m0 m : Mm}   (g_m : PX m0 m)  (p0 : 0 ≤ rd m 284 13) (p1 : rd m 284 13 = 0 → 420 * rd m0 284 19 ≤ rd m 284 44 ∧ rd m 284 44 - 420 * rd m0 284 19 ≤ rd m 284 11) : CV 3 200 [.ref 284] m (fun m2 => PX m0 m2 ∧ (((unRel m m2) ∧ (unA m m2)) ∧ (lf m m2))) := by
  refine br_200  ?_
  unfold P_200
  have hs := PX.s g_m
  have tt := ty_284_11 g_m.1
  refine CK.mono (ct_180   g_m.1 (by unfold rg; decide)) (by decide) ?_
  rintro m2 v2 r_v2 ⟨e_m2, h_m2⟩
  replace e_m2 := e_m2.symm
  subst e_m2
  refine ⟨fun m_93 => PX m0 m_93 ∧ (((unRel m m_93) ∧ (unA m m_93)) ∧ (lf m m_93)), ?_, ?_⟩
  · skip
    refine ⟨fun hq => ?_, fun hq => ?_⟩
    · skip
      refine ⟨rd m 284 13 = 0 → ¬ uM (rd m 287 (Int.toNat (rd m 284 11))), ?_, ?_⟩
      · skip
        refine ⟨fun hq => ?_, fun hq => ?_⟩
        · skip
          ((unfold uM; omega))
        · skip
          have t2 := ty_284_11 g_m.1
          refine ⟨⟨by omega, by omega⟩, ?_⟩
          have t3 := ty_287 g_m.1 (Int.toNat (rd m 284 11))
          refine ⟨fun hq => ?_, fun hq => ?_⟩
          · skip
            ((unfold uM; omega))
          · skip
            refine ⟨⟨by omega, by omega⟩, ?_⟩
            refine ⟨fun hq => ?_, fun hq => ?_⟩
            · skip
              ((unfold uM; omega))
            · skip
              refine ⟨⟨by omega, by omega⟩, ?_⟩
              try have w4 : wr ((rd m 287 (Int.toNat (rd m 284 11))) - 32) = (rd m 287 (Int.toNat (rd m 284 11))) - 32 := wr_id (by omega) (by omega)
              refine CV.mono (my_197   g_m (by unfold rg; decide) (wr_rg _) (by omega) (by omega) (by omega)) (by decide) ?_
              rintro m78 ⟨g_m78, h_m78⟩
              obtain ⟨h_m78, l_m78⟩ := h_m78
              have f78 : rd m78 284 13 = rd m 284 13 := h_m78.2.2.2 284 13 (by omega) (by omega)
              refine CV.mono (ct_183   g_m78.1 (by omega)) (by decide) ?_
              rintro m82 ⟨hx_m82, h_m82⟩
              have g_m82 : PX m0 m82 := PX.ft g_m78 hx_m82
              exact ⟨g_m82, by exact ⟨by exact ⟨by first | exact un_em (Or.inl rfl) (by omega) h_m19 hx_m23 h_m23 | exact un_em (Or.inr ⟨rfl, by omega⟩) (by omega) h_m78 hx_m82 h_m82 | exact un_fail p0 hx_m90 h_m90, by first | exact un_a1 (by omega) (Or.inl (by omega)) h_m19 h_m23 | exact un_a1 (by omega) (Or.inr (by omega)) h_m78 h_m82 | exact un_a2 p0 hR_88 h_m90⟩, by first | exact l_m19.trans (lf_gx hx_m23) | exact l_m78.trans (lf_gx hx_m82) | exact lf_gx hx_m90⟩⟩
      · intro   hR_88
        refine CV.mono (ct_181   g_m.1 (by unfold rg; decide) (by omega) (by omega)) (by decide) ?_
        rintro m90 ⟨hx_m90, h_m90⟩
        have g_m90 : PX m0 m90 := PX.ft g_m hx_m90
        exact ⟨g_m90, by exact ⟨by exact ⟨by first | exact un_em (Or.inl rfl) (by omega) h_m19 hx_m23 h_m23 | exact un_em (Or.inr ⟨rfl, by omega⟩) (by omega) h_m78 hx_m82 h_m82 | exact un_fail p0 hx_m90 h_m90, by first | exact un_a1 (by omega) (Or.inl (by omega)) h_m19 h_m23 | exact un_a1 (by omega) (Or.inr (by omega)) h_m78 h_m82 | exact un_a2 p0 hR_88 h_m90⟩, by first | exact l_m19.trans (lf_gx hx_m23) | exact l_m78.trans (lf_gx hx_m82) | exact lf_gx hx_m90⟩⟩
    · skip
      have t5 := ty_284_11 g_m.1
      refine ⟨⟨by omega, by omega⟩, ?_⟩
      have t6 := ty_289 g_m.1 (Int.toNat (rd m 284 11))
      refine CV.mono (my_197   g_m (by unfold rg; decide) (rd_rg _ _ _) (by omega) (by omega) (by omega)) (by decide) ?_
      rintro m19 ⟨g_m19, h_m19⟩
      obtain ⟨h_m19, l_m19⟩ := h_m19
      have f19 : rd m19 284 13 = rd m 284 13 := h_m19.2.2.2 284 13 (by omega) (by omega)
      refine CV.mono (ct_183   g_m19.1 (by omega)) (by decide) ?_
      rintro m23 ⟨hx_m23, h_m23⟩
      have g_m23 : PX m0 m23 := PX.ft g_m19 hx_m23
      exact ⟨g_m23, by exact ⟨by exact ⟨by first | exact un_em (Or.inl rfl) (by omega) h_m19 hx_m23 h_m23 | exact un_em (Or.inr ⟨rfl, by omega⟩) (by omega) h_m78 hx_m82 h_m82 | exact un_fail p0 hx_m90 h_m90, by first | exact un_a1 (by omega) (Or.inl (by omega)) h_m19 h_m23 | exact un_a1 (by omega) (Or.inr (by omega)) h_m78 h_m82 | exact un_a2 p0 hR_88 h_m90⟩, by first | exact l_m19.trans (lf_gx hx_m23) | exact l_m78.trans (lf_gx hx_m82) | exact lf_gx hx_m90⟩⟩
  · intro m_93  hR_93
    obtain ⟨g_m_93, hR_93⟩ := hR_93
    obtain ⟨hR_93, lR_93⟩ := hR_93
    obtain ⟨hR_93, cR_93⟩ := hR_93
    exact ⟨g_m_93, by exact ⟨by exact ⟨by exact hR_93, by exact cR_93⟩, by exact lR_93⟩⟩
-- TippedCratesModel.expression()V
set_option maxRecDepth 20000 in
theorem my_199 {m0 m : Mm}  {N : Int} (g_m : PX m0 m)  (p0 : 0 ≤ rd m 284 13) (p1 : rd m 284 13 = 0 → rd m 284 12 = 0 ∧ 420 * rd m0 284 19 ≤ rd m 284 44 ∧ rd m 284 44 - 420 * rd m0 284 19 ≤ rd m 284 11) (p2 : tkN m0 N) (p3 : rd m 284 13 = 0 → rd m 284 11 ≤ N) : CV 4 199 [.ref 284] m (fun m2 => PX m0 m2 ∧ (((exP m m2 (rd m0 284 19)) ∧ (exA m0 m m2 N)) ∧ (lf m m2))) := by
  refine br_199  ?_
  unfold P_199
  have hs := PX.s g_m
  have tt := ty_284_11 g_m.1
  have tc := ty_284_44 g_m.1
  intro m2 e_m2
  have g_m2 : PX m0 m2 := by rw [e_m2]; exact PX.wt g_m (tw_284_48 g_m.1 ⟨by omega, by omega⟩) (inP_284 (by omega))
  have n12 : rd m2 284 12 = rd m 284 12 := by rw [e_m2, rd_wt, if_neg (by omega)]
  have n13 : rd m2 284 13 = rd m 284 13 := by rw [e_m2, rd_wt, if_neg (by omega)]
  have t1 := ty_284_12 g_m2.1
  intro z1_9 e_z1_9
  have r_z1_9 : rg z1_9 := by rw [e_z1_9]; exact (rd_rg _ _ _)
  refine ⟨fun x2_12 m_12 => PX m0 m_12 ∧ ((((x2_12 = 1 ∧ exF m m_12) ∧ (rd m_12 284 13 = 0 → exI m_12 (rd m0 284 19) (rd m 284 44) 0)) ∧ ((rd m 284 13 = 0 → auI m0 m m_12 N 0) ∧ (¬ rd m 284 13 = 0 → rd m_12 284 13 = rd m 284 13 ∧ rd m_12 284 14 = rd m 284 14))) ∧ (lf m m_12)), fun x2_12 m_12 => Int.toNat (10000 - rd m_12 284 11 - 1000 * rd m_12 284 13), ?_, ?_⟩
  · exact ⟨g_m2, by exact ⟨by exact ⟨by exact ⟨⟨rfl, exF_0 p0 e_m2⟩, fun h => exI_0 (by omega) e_m2 (p1 (by omega)) (by omega)⟩, by exact ⟨fun h0 => ai_0 h0 (p3 h0) (p1 h0).1 (by omega) e_m2, fun h0 => ⟨by rw [e_m2, rd_wt, if_neg (by omega)], by rw [e_m2, rd_wt, if_neg (by omega)]⟩⟩⟩, by exact lf_wt e_m2⟩⟩
  · intro x2_12 m_12 r_x2_12 hI_12
    obtain ⟨g_m_12, hI_12⟩ := hI_12
    obtain ⟨hI_12, lI_12⟩ := hI_12
    obtain ⟨hI_12, cI_12⟩ := hI_12
    have f12 := hI_12.1.2.2.1
    have t12 := ty_284_11 g_m_12.1
    refine ⟨x2_12 = 0 ∨ ¬ rd m_12 284 13 = 0, ?_, ?_⟩
    · skip
      refine ⟨fun hq => ?_, fun hq => ?_⟩
      · skip
        (first | trivial | omega | (refine ⟨?_, ?_⟩ <;> omega))
      · skip
        refine ⟨fun hq => ?_, fun hq => ?_⟩
        · skip
          (first | trivial | omega | (refine ⟨?_, ?_⟩ <;> omega))
        · skip
          refine ⟨fun m_23 => PX m0 m_23 ∧ ((((exF m m_23 ∧ rd m_12 284 11 ≤ rd m_23 284 11) ∧ (rd m_23 284 13 = 0 → exI m_23 (rd m0 284 19) (rd m 284 44) 0)) ∧ (auI m0 m m_23 N 0)) ∧ (lf m m_23)), fun m_23 => Int.toNat (10000 - rd m_23 284 11 - 1000 * rd m_23 284 13), ?_, ?_⟩
          · exact ⟨g_m_12, by exact ⟨by exact ⟨by exact ⟨⟨hI_12.1.2, Int.le_refl _⟩, hI_12.2⟩, by exact cI_12.1 (hI_12.1.2.2.2.2.2 (by omega))⟩, by exact lI_12⟩⟩
          · intro m_23  hI_23
            obtain ⟨g_m_23, hI_23⟩ := hI_23
            obtain ⟨hI_23, lI_23⟩ := hI_23
            obtain ⟨hI_23, cI_23⟩ := hI_23
            have f23 := hI_23.1.1.2.1
            have t23 := ty_284_11 g_m_23.1
            have fm0 : rd m 284 13 = 0 := hI_12.1.2.2.2.2.2 (by omega)
            refine CK.mono (ct_180   g_m_23.1 (by unfold rg; decide)) (by decide) ?_
            rintro m26 v26 r_v26 ⟨e_m26, h_m26⟩
            replace e_m26 := e_m26.symm
            subst e_m26
            refine ⟨fun hq => ?_, fun hq => ?_⟩
            · skip
              refine CV.mono (my_200   g_m_23 f23 (fun h => by have := exI_b (hI_23.2 h); omega)) (by decide) ?_
              rintro m85 ⟨g_m85, h_m85⟩
              obtain ⟨h_m85, l_m85⟩ := h_m85
              have un := h_m85.1
              have ua := h_m85.2
              have u11 := un.2.2.1
              have u13 := un.2.1
              have xf85 : exF m m85 := exF_un hI_23.1.1 un
              refine ⟨fun hq => ?_, fun hq => ?_⟩
              · skip
                refine ⟨fun m_96 => PX m0 m_96 ∧ ((((exF m m_96 ∧ rd m_12 284 11 + 1 ≤ rd m_96 284 11) ∧ exI m_96 (rd m0 284 19) (rd m 284 44) 1) ∧ (auI m0 m m_96 N 1)) ∧ (lf m m_96)), fun m_96 => Int.toNat (10000 - rd m_96 284 11 - 1000 * rd m_96 284 13), ?_, ?_⟩
                · exact ⟨g_m85, by exact ⟨by exact ⟨by exact ⟨⟨xf85, by have := (un.1 (by omega)).2.1; omega⟩, exI_unit (hI_23.2 (un.1 (by omega)).1) un (by omega)⟩, by exact ai_un p2 cI_23 g_m_23 (by omega) un ua⟩, by exact lI_23.trans l_m85⟩⟩
                · intro m_96  hI_96
                  obtain ⟨g_m_96, hI_96⟩ := hI_96
                  obtain ⟨hI_96, lI_96⟩ := hI_96
                  obtain ⟨hI_96, cI_96⟩ := hI_96
                  have zb : z1_9 = 0 := by have := p1 (hI_12.1.2.2.2.2.2 (by omega)); omega
                  have f96 := hI_96.1.1.2.1
                  have t96 := ty_284_11 g_m_96.1
                  have eb96 := exI_b hI_96.2
                  refine CK.mono (ct_180   g_m_96.1 (by unfold rg; decide)) (by decide) ?_
                  rintro m99 v99 r_v99 ⟨e_m99, h_m99⟩
                  replace e_m99 := e_m99.symm
                  subst e_m99
                  refine ⟨(True) ∧ (rd m_96 284 13 = 0 → rd m_96 284 12 ≤ z1_9 ∨ ¬ rd m_96 287 (Int.toNat (rd m_96 284 11)) = 7), ?_, ?_⟩
                  · skip
                    refine ⟨fun hq => ?_, fun hq => ?_⟩
                    · skip
                      (exact ⟨by first | trivial | omega | (refine ⟨?_, ?_⟩ <;> omega), by omega⟩)
                    · skip
                      have t4 := ty_284_12 g_m_96.1
                      refine ⟨fun hq => ?_, fun hq => ?_⟩
                      · skip
                        (exact ⟨by first | trivial | omega | (refine ⟨?_, ?_⟩ <;> omega), by omega⟩)
                      · skip
                        refine CV.mono (my_198   g_m_96 (by unfold rg; decide) hI_96.2) (by decide) ?_
                        rintro m115 ⟨g_m115, h_m115⟩
                        obtain ⟨h_m115, l_m115⟩ := h_m115
                        have co := h_m115.1
                        have o115 : rd m115 284 12 = rd m_96 284 12 := co.2.2.2.2 284 12 (by omega) (by omega)
                        have a115 : rd m115 284 11 = rd m_96 284 11 := co.2.2.2.2 284 11 (by omega) (by omega)
                        have b115 : rd m115 284 13 = rd m_96 284 13 := co.2.2.2.2 284 13 (by omega) (by omega)
                        have pos := co_pos h_m115.1.1 h_m115.2 (by omega)
                        have eb115 := exI_b co.1
                        have t5 := ty_284_48 g_m115.1
                        try have w6 : wr ((rd m115 284 48) - 1) = (rd m115 284 48) - 1 := wr_id (by omega) (by omega)
                        intro m125 e_m125
                        have g_m125 : PX m0 m125 := by rw [e_m125]; exact PX.wt g_m115 (tw_284_48 g_m115.1 ⟨by omega, by omega⟩) (inP_284 (by omega))
                        have o125 : rd m125 284 12 = rd m_96 284 12 := by rw [e_m125, rd_wt, if_neg (by omega)]; exact o115
                        have t7 := ty_284_12 g_m125.1
                        try have w8 : wr ((rd m125 284 12) - 1) = (rd m125 284 12) - 1 := wr_id (by omega) (by omega)
                        intro m135 e_m135
                        have g_m135 : PX m0 m135 := by rw [e_m135]; exact PX.wt g_m125 (tw_284_12 g_m125.1 ⟨by omega, by omega⟩) (inP_284 (by omega))
                        have a135 : rd m135 284 11 = rd m_96 284 11 := by rw [e_m135, rd_wt, if_neg (by omega), e_m125, rd_wt, if_neg (by omega)]; exact a115
                        have b135 : rd m135 284 13 = rd m_96 284 13 := by rw [e_m135, rd_wt, if_neg (by omega), e_m125, rd_wt, if_neg (by omega)]; exact b115
                        refine CV.mono (ct_183   g_m135.1 (by omega)) (by decide) ?_
                        rintro m139 ⟨hx_m139, h_m139⟩
                        have g_m139 : PX m0 m139 := PX.ft g_m135 hx_m139
                        have ft139 := ft_go hx_m139 h_m139.2.1 h_m139.2.2
                        have FR139 : ∀ i j : Nat, ¬ (i = 284 ∧ (j = 11 ∨ j = 12 ∨ j = 13 ∨ j = 14 ∨ j = 48)) → rd m139 i j = rd m115 i j := fun i j h1 => by
                          rw [ft139 i j (by omega), e_m135, rd_wt, if_neg (by omega), e_m125, rd_wt, if_neg (by omega)]
                        have w139 : rd m139 284 48 = rd m115 284 48 - 1 := by rw [ft139 284 48 (by omega), e_m135, rd_wt, if_neg (by omega), e_m125, rd_wt, if_pos ⟨rfl, rfl⟩, wr_i (wr_rg _), wr_id (by omega) (by omega)]
                        have o139 : rd m139 284 12 = rd m115 284 12 - 1 := by rw [ft139 284 12 (by omega), e_m135, rd_wt, if_pos ⟨rfl, rfl⟩, wr_i (wr_rg _), o125, wr_id (by omega) (by omega), o115]
                        have xi139 := exI_close co.1 pos.1 pos.2 FR139 w139 o139 (by omega)
                        have xf139 : exF m m139 := exF_co (exF_step2 hI_96.1.1 co) (fun i j h1 h2 h3 => FR139 i j (by omega)) (by omega) (by omega) (by rw [FR139 284 44 (by omega)]; exact Int.le_refl _) (by omega)
                        have r135 : ∀ j, rd m135 288 j = rd m_96 288 j := fun j => (g_m135.2.1 288 j (inP_no (by omega) (by omega))).trans (g_m_96.2.1 288 j (inP_no (by omega) (by omega))).symm
                        have ai139 : auI m0 m m139 N 1 := ai_close p2 cI_96 g_m_96 (by omega) (by omega) (by omega) a135 (by omega) r135 h_m139 (by omega)
                        exact ⟨⟨g_m139, by exact ⟨by exact ⟨by exact ⟨⟨xf139, by omega⟩, xi139⟩, by exact ai139⟩, by exact (((lI_96.trans l_m115).trans (lf_wt e_m125)).trans (lf_wt e_m135)).trans (lf_gx hx_m139)⟩⟩, by (try dsimp only); omega⟩
                  · intro   hR_145
                    obtain ⟨hR_145, cR_145⟩ := hR_145
                    refine CK.mono (ct_180   g_m_96.1 (by unfold rg; decide)) (by decide) ?_
                    rintro m148 v148 r_v148 ⟨e_m148, h_m148⟩
                    replace e_m148 := e_m148.symm
                    subst e_m148
                    refine ⟨fun s0_186 m_186 => PX m0 m_186 ∧ ((m_186 = m_96 ∧ ((s0_186 = 1 ∧ rd m_96 284 13 = 0 ∧ (rd m_96 287 (Int.toNat (rd m_96 284 11)) = 8 ∨ rd m_96 287 (Int.toNat (rd m_96 284 11)) = 9 ∨ rd m_96 287 (Int.toNat (rd m_96 284 11)) = 10 ∨ rd m_96 287 (Int.toNat (rd m_96 284 11)) = 15)) ∨ s0_186 = 0)) ∧ (s0_186 = 0 → rd m_96 284 13 = 0 → ¬ oM (rd m_96 287 (Int.toNat (rd m_96 284 11))))), ?_, ?_⟩
                    · skip
                      refine ⟨fun m_181 => PX m0 m_181 ∧ (m_181 = m_96 ∧ rd m_96 284 13 = 0 ∧ (rd m_96 287 (Int.toNat (rd m_96 284 11)) = 8 ∨ rd m_96 287 (Int.toNat (rd m_96 284 11)) = 9 ∨ rd m_96 287 (Int.toNat (rd m_96 284 11)) = 10 ∨ rd m_96 287 (Int.toNat (rd m_96 284 11)) = 15)), ?_, ?_⟩
                      · skip
                        refine ⟨fun hq => ?_, fun hq => ?_⟩
                        · skip
                          exact ⟨g_m_96, by exact ⟨rfl, by omega, by omega⟩⟩
                        · skip
                          refine CK.mono (ct_180   g_m_96.1 (by unfold rg; decide)) (by decide) ?_
                          rintro m157 v157 r_v157 ⟨e_m157, h_m157⟩
                          replace e_m157 := e_m157.symm
                          subst e_m157
                          refine ⟨fun hq => ?_, fun hq => ?_⟩
                          · skip
                            exact ⟨g_m_96, by exact ⟨rfl, by omega, by omega⟩⟩
                          · skip
                            refine CK.mono (ct_180   g_m_96.1 (by unfold rg; decide)) (by decide) ?_
                            rintro m166 v166 r_v166 ⟨e_m166, h_m166⟩
                            replace e_m166 := e_m166.symm
                            subst e_m166
                            refine ⟨fun hq => ?_, fun hq => ?_⟩
                            · skip
                              exact ⟨g_m_96, by exact ⟨rfl, by omega, by omega⟩⟩
                            · skip
                              refine CK.mono (ct_180   g_m_96.1 (by unfold rg; decide)) (by decide) ?_
                              rintro m175 v175 r_v175 ⟨e_m175, h_m175⟩
                              replace e_m175 := e_m175.symm
                              subst e_m175
                              refine ⟨fun hq => ?_, fun hq => ?_⟩
                              · skip
                                exact ⟨g_m_96, by exact ⟨by first | exact ⟨rfl, Or.inr rfl⟩ | exact ⟨rfl, Or.inl ⟨rfl, by omega, by omega⟩⟩, by first | exact fun h => absurd h (by omega) | (unfold oM; omega)⟩⟩
                              · skip
                                exact ⟨g_m_96, by exact ⟨rfl, by omega, by omega⟩⟩
                      · intro m_181  hR_181
                        obtain ⟨g_m_181, hR_181⟩ := hR_181
                        obtain ⟨q181, hR_181⟩ := hR_181
                        subst q181
                        exact ⟨g_m_181, by exact ⟨by first | exact ⟨rfl, Or.inr rfl⟩ | exact ⟨rfl, Or.inl ⟨rfl, by omega, by omega⟩⟩, by first | exact fun h => absurd h (by omega) | (unfold oM; omega)⟩⟩
                    · intro s0_186 m_186 r_s0_186 hR_186
                      obtain ⟨g_m_186, hR_186⟩ := hR_186
                      obtain ⟨hR_186, cR_186⟩ := hR_186
                      obtain ⟨q186, hR_186⟩ := hR_186
                      subst q186
                      refine ⟨fun hq => ?_, fun hq => ?_⟩
                      · skip
                        refine CK.mono (ct_180   g_m_186.1 (by unfold rg; decide)) (by decide) ?_
                        rintro m214 v214 r_v214 ⟨e_m214, h_m214⟩
                        replace e_m214 := e_m214.symm
                        subst e_m214
                        refine ⟨fun s1_234 m_234 => PX m0 m_234 ∧ (m_234 = m_186 ∧ ((s1_234 = 1 ∧ (rd m_186 287 (Int.toNat (rd m_186 284 11)) = 10 ∨ rd m_186 287 (Int.toNat (rd m_186 284 11)) = 15)) ∨ (s1_234 = 0 ∧ (rd m_186 287 (Int.toNat (rd m_186 284 11)) = 8 ∨ rd m_186 287 (Int.toNat (rd m_186 284 11)) = 9)))), ?_, ?_⟩
                        · skip
                          refine ⟨fun m_229 => PX m0 m_229 ∧ (m_229 = m_186 ∧ (rd m_186 287 (Int.toNat (rd m_186 284 11)) = 10 ∨ rd m_186 287 (Int.toNat (rd m_186 284 11)) = 15)), ?_, ?_⟩
                          · skip
                            refine ⟨fun hq => ?_, fun hq => ?_⟩
                            · skip
                              exact ⟨g_m_186, by exact ⟨rfl, by omega⟩⟩
                            · skip
                              refine CK.mono (ct_180   g_m_186.1 (by unfold rg; decide)) (by decide) ?_
                              rintro m223 v223 r_v223 ⟨e_m223, h_m223⟩
                              replace e_m223 := e_m223.symm
                              subst e_m223
                              refine ⟨fun hq => ?_, fun hq => ?_⟩
                              · skip
                                exact ⟨g_m_186, by first | exact ⟨rfl, Or.inr ⟨rfl, by omega⟩⟩ | exact ⟨rfl, Or.inl ⟨rfl, by omega⟩⟩⟩
                              · skip
                                exact ⟨g_m_186, by exact ⟨rfl, by omega⟩⟩
                          · intro m_229  hR_229
                            obtain ⟨g_m_229, hR_229⟩ := hR_229
                            obtain ⟨q229, hR_229⟩ := hR_229
                            subst q229
                            exact ⟨g_m_229, by first | exact ⟨rfl, Or.inr ⟨rfl, by omega⟩⟩ | exact ⟨rfl, Or.inl ⟨rfl, by omega⟩⟩⟩
                        · intro s1_234 m_234 r_s1_234 hR_234
                          obtain ⟨g_m_234, hR_234⟩ := hR_234
                          obtain ⟨q234, hR_234⟩ := hR_234
                          subst q234
                          refine CV.mono (my_198   g_m_234 r_s1_234 hI_96.2) (by decide) ?_
                          rintro m234 ⟨g_m234, h_m234⟩
                          obtain ⟨h_m234, l_m234⟩ := h_m234
                          have co := h_m234.1
                          have t234 : rd m234 284 11 = rd m_234 284 11 := co.2.2.2.2 284 11 (by omega) (by omega)
                          have b234 : rd m234 284 13 = rd m_234 284 13 := co.2.2.2.2 284 13 (by omega) (by omega)
                          have k234 : rd m234 287 (Int.toNat (rd m234 284 11)) = rd m_234 287 (Int.toNat (rd m_234 284 11)) := by rw [t234]; exact co.2.2.2.2 287 _ (by omega) (by omega)
                          have eb234 := exI_b co.1
                          have t9 := ty_284_11 g_m234.1
                          refine ⟨⟨by omega, by omega⟩, ?_⟩
                          have t10 := ty_284_48 g_m234.1
                          refine ⟨⟨by omega, by omega⟩, ?_⟩
                          have t11 := ty_287 g_m234.1 (Int.toNat (rd m234 284 11))
                          intro m254 e_m254
                          have g_m254 : PX m0 m254 := by rw [e_m254]; exact PX.wt g_m234 (tw_316 g_m234.1 (rd_rg _ _ _)) inP_316
                          have w254 : rd m254 284 48 = rd m234 284 48 := by rw [e_m254, rd_wt, if_neg (by omega)]
                          have t12 := ty_284_48 g_m254.1
                          try have w13 : wr ((rd m254 284 48) + 1) = (rd m254 284 48) + 1 := wr_id (by omega) (by omega)
                          intro m262 e_m262
                          have g_m262 : PX m0 m262 := by rw [e_m262]; exact PX.wt g_m254 (tw_284_48 g_m254.1 ⟨by omega, by omega⟩) (inP_284 (by omega))
                          have a262 : rd m262 284 11 = rd m234 284 11 := by rw [e_m262, rd_wt, if_neg (by omega), e_m254, rd_wt, if_neg (by omega)]
                          have b262 : rd m262 284 13 = rd m234 284 13 := by rw [e_m262, rd_wt, if_neg (by omega), e_m254, rd_wt, if_neg (by omega)]
                          refine CV.mono (ct_183   g_m262.1 (by omega)) (by decide) ?_
                          rintro m266 ⟨hx_m266, h_m266⟩
                          have g_m266 : PX m0 m266 := PX.ft g_m262 hx_m266
                          have ft266 := ft_go hx_m266 h_m266.2.1 h_m266.2.2
                          have FR266 : ∀ i j : Nat, ¬ (i = 284 ∧ (j = 11 ∨ j = 12 ∨ j = 13 ∨ j = 14 ∨ j = 48)) → ¬ (i = 316 ∧ (j : Int) = rd m234 284 48) → rd m266 i j = rd m234 i j := fun i j h1 h2 => by
                            rw [ft266 i j (by omega), e_m262, rd_wt, if_neg (by omega), e_m254, rd_wt, if_neg (by omega)]
                          have o266 : rd m266 284 12 = rd m234 284 12 := by rw [ft266 284 12 (by omega), e_m262, rd_wt, if_neg (by omega), e_m254, rd_wt, if_neg (by omega)]
                          have w266 : rd m266 284 48 = rd m234 284 48 + 1 := by rw [ft266 284 48 (by omega), e_m262, rd_wt, if_pos ⟨rfl, rfl⟩, w254, wr_i (wr_rg _), wr_id (by omega) (by omega)]
                          have s266 : rd m266 316 (Int.toNat (rd m234 284 48)) = rd m234 287 (Int.toNat (rd m234 284 11)) := by rw [ft266 316 _ (by omega), e_m262, rd_wt, if_neg (by omega), e_m254, rd_wt, if_pos ⟨rfl, rfl⟩, wr_i (rd_rg _ _ _)]
                          have xf266 : exF m m266 := exF_co (exF_step2 hI_96.1.1 co) (fun i j h1 h2 h3 => FR266 i j (by omega) (by omega)) (by omega) (by omega) (by rw [FR266 284 44 (by omega) (by omega)]; exact Int.le_refl _) (by omega)
                          have r262 : ∀ j, rd m262 288 j = rd m_234 288 j := fun j => (g_m262.2.1 288 j (inP_no (by omega) (by omega))).trans (g_m_234.2.1 288 j (inP_no (by omega) (by omega))).symm
                          have o234 : rd m234 284 12 = rd m_234 284 12 := co.2.2.2.2 284 12 (by omega) (by omega)
                          have ai266 : auI m0 m m266 N 0 := ai_oper p2 cI_96 g_m_234 (by omega) (by unfold oM; omega) (by omega) (by omega) r262 h_m266 (by omega)
                          exact ⟨⟨g_m266, by exact ⟨by exact ⟨by exact ⟨⟨by omega, xf266⟩, fun h => exI_op co.1 h_m234.2 (by omega) FR266 w266 o266 s266 (by omega)⟩, by exact ⟨fun _ => ai266, fun h => absurd fm0 h⟩⟩, by exact (((lI_96.trans l_m234).trans (lf_wt e_m254)).trans (lf_wt e_m262)).trans (lf_gx hx_m266)⟩⟩, by (try dsimp only); omega⟩
                      · skip
                        have t14 := ty_284_12 g_m_186.1
                        refine ⟨fun m_204 => PX m0 m_204 ∧ (((exF m m_204 ∧ exI m_204 (rd m0 284 19) (rd m 284 44) 1 ∧ rd m 284 11 + 1 ≤ rd m_204 284 11 ∧ (rd m_204 284 13 = 0 → rd m_204 284 12 ≤ 0)) ∧ ((rd m_204 284 13 = 0 → AU (kC m0) (rd m 284 11) 0 0 = (0, rd m_204 284 11) ∧ rd m_204 284 11 ≤ N) ∧ (¬ rd m_204 284 13 = 0 → auX m0 m m_204))) ∧ (lf m m_204)), ?_, ?_⟩
                        · skip
                          refine ⟨fun hq => ?_, fun hq => ?_⟩
                          · skip
                            exact ⟨g_m_186, by exact ⟨by exact ⟨by first | exact ⟨exF_ft hI_96.1.1 ft201 (by omega) (by omega) (by omega), exI_ft hI_96.2 ft201 (by omega), by have := hI_96.1.1.2.2.1; have := hI_12.1.2.2.2.1; omega, fun h => by omega⟩ | exact ⟨hI_96.1.1, hI_96.2, by have := hI_12.1.2.2.2.1; omega, fun h => by omega⟩, by first | exact ai_z1 p2 cI_96 g_m_186 (fun z => cR_186 (by omega) z) (by omega) (by omega) h_m201 | exact ai_z0 p2 cI_96 g_m_186 (fun z => cR_186 (by omega) z) (by omega)⟩, by first | exact lI_96 | exact lI_96.trans (lf_gx hx_m201)⟩⟩
                          · skip
                            refine CV.mono (ct_181   g_m_186.1 (by unfold rg; decide) (by omega) (by omega)) (by decide) ?_
                            rintro m201 ⟨hx_m201, h_m201⟩
                            have g_m201 : PX m0 m201 := PX.ft g_m_186 hx_m201
                            have ft201 := ft_go hx_m201 h_m201.2.2.1 h_m201.2.2.2
                            exact ⟨g_m201, by exact ⟨by exact ⟨by first | exact ⟨exF_ft hI_96.1.1 ft201 (by omega) (by omega) (by omega), exI_ft hI_96.2 ft201 (by omega), by have := hI_96.1.1.2.2.1; have := hI_12.1.2.2.2.1; omega, fun h => by omega⟩ | exact ⟨hI_96.1.1, hI_96.2, by have := hI_12.1.2.2.2.1; omega, fun h => by omega⟩, by first | exact ai_z1 p2 cI_96 g_m_186 (fun z => cR_186 (by omega) z) (by omega) (by omega) h_m201 | exact ai_z0 p2 cI_96 g_m_186 (fun z => cR_186 (by omega) z) (by omega)⟩, by first | exact lI_96 | exact lI_96.trans (lf_gx hx_m201)⟩⟩
                        · intro m_204  hR_204
                          obtain ⟨g_m_204, hR_204⟩ := hR_204
                          obtain ⟨hR_204, lR_204⟩ := hR_204
                          obtain ⟨hR_204, cR_204⟩ := hR_204
                          have xf204 : exF m m_204 := hR_204.1
                          refine CV.mono (my_198   g_m_204 (by unfold rg; decide) hR_204.2.1) (by decide) ?_
                          rintro m206 ⟨g_m206, h_m206⟩
                          obtain ⟨h_m206, l_m206⟩ := h_m206
                          exact ⟨g_m206, by exact ⟨by exact ⟨by first | exact exP_f hI_12.1.2 (by omega) | exact exP_f xf85 (by omega) | exact exP_e hR_204.1 hR_204.2.2.1 hR_204.2.2.2 g_m206.1 h_m206.1 h_m206.2, by first | exact ex_a1 cI_12 (by omega) | exact ex_a2 fm0 (ai_un p2 cI_23 g_m_23 (by omega) un ua) (by omega) | exact ex_a3 fm0 cR_204 h_m206.1⟩, by first | exact lI_12 | exact lI_23.trans l_m85 | exact lR_204.trans l_m206⟩⟩
              · skip
                exact ⟨g_m85, by exact ⟨by exact ⟨by first | exact exP_f hI_12.1.2 (by omega) | exact exP_f xf85 (by omega) | exact exP_e hR_204.1 hR_204.2.2.1 hR_204.2.2.2 g_m206.1 h_m206.1 h_m206.2, by first | exact ex_a1 cI_12 (by omega) | exact ex_a2 fm0 (ai_un p2 cI_23 g_m_23 (by omega) un ua) (by omega) | exact ex_a3 fm0 cR_204 h_m206.1⟩, by first | exact lI_12 | exact lI_23.trans l_m85 | exact lR_204.trans l_m206⟩⟩
            · skip
              have t15 := ty_284_12 g_m_23.1
              refine ⟨fun m_46 => PX m0 m_46 ∧ (((ftRel m_23 m_46 ∧ rd m_46 284 11 = rd m_23 284 11 ∧ 0 ≤ rd m_46 284 13 ∧ (rd m_46 284 13 = 0 → ¬ rd m_23 284 12 = 6)) ∧ ((rd m_46 284 13 = 0 ∧ ¬ rd m_23 284 12 = 6) ∨ (rd m_23 284 12 = 6 ∧ rd m_46 284 13 = 2 ∧ rd m_46 284 14 = rd m_23 288 (Int.toNat (rd m_23 284 11))))) ∧ (lf m m_46)), ?_, ?_⟩
              · skip
                refine ⟨fun hq => ?_, fun hq => ?_⟩
                · skip
                  exact ⟨g_m_23, by exact ⟨by exact ⟨by first | exact ⟨fun _ _ _ => rfl, rfl, by omega, fun _ => by omega⟩ | exact ⟨ft_go hx_m43 h_m43.2.2.1 h_m43.2.2.2, h_m43.2.1, by omega, fun h => by omega⟩, by omega⟩, by first | exact lI_23 | exact lI_23.trans (lf_gx hx_m43)⟩⟩
                · skip
                  refine CV.mono (ct_181   g_m_23.1 (by unfold rg; decide) (by omega) (by omega)) (by decide) ?_
                  rintro m43 ⟨hx_m43, h_m43⟩
                  have g_m43 : PX m0 m43 := PX.ft g_m_23 hx_m43
                  exact ⟨g_m43, by exact ⟨by exact ⟨by first | exact ⟨fun _ _ _ => rfl, rfl, by omega, fun _ => by omega⟩ | exact ⟨ft_go hx_m43 h_m43.2.2.1 h_m43.2.2.2, h_m43.2.1, by omega, fun h => by omega⟩, by omega⟩, by first | exact lI_23 | exact lI_23.trans (lf_gx hx_m43)⟩⟩
              · intro m_46  hR_46
                obtain ⟨g_m_46, hR_46⟩ := hR_46
                obtain ⟨hR_46, lR_46⟩ := hR_46
                obtain ⟨hR_46, cR_46⟩ := hR_46
                have eb23 := exI_b (hI_23.2 (by omega))
                have o46 : rd m_46 284 12 = rd m_23 284 12 := hR_46.1 284 12 (by omega)
                have t16 := ty_284_12 g_m_46.1
                try have w17 : wr ((rd m_46 284 12) + 1) = (rd m_46 284 12) + 1 := wr_id (by omega) (by omega)
                intro m53 e_m53
                have g_m53 : PX m0 m53 := by rw [e_m53]; exact PX.wt g_m_46 (tw_284_12 g_m_46.1 ⟨by omega, by omega⟩) (inP_284 (by omega))
                have b53 : rd m53 284 13 = rd m_46 284 13 := by rw [e_m53, rd_wt, if_neg (by omega)]
                refine CV.mono (ct_183   g_m53.1 (by omega)) (by decide) ?_
                rintro m57 ⟨hx_m57, h_m57⟩
                have g_m57 : PX m0 m57 := PX.ft g_m53 hx_m57
                have ft57 := ft_go hx_m57 h_m57.2.1 h_m57.2.2
                have w57 : rd m57 284 48 = rd m_23 284 48 := by rw [ft57 284 48 (by omega), e_m53, rd_wt, if_neg (by omega), hR_46.1 284 48 (by omega)]
                have a53 : rd m53 284 11 = rd m_23 284 11 := by rw [e_m53, rd_wt, if_neg (by omega)]; exact hR_46.2.1
                have b53 : rd m53 284 13 = rd m_46 284 13 := by rw [e_m53, rd_wt, if_neg (by omega)]
                have t18 := ty_284_48 g_m57.1
                refine ⟨⟨by omega, by omega⟩, ?_⟩
                intro m70 e_m70
                have g_m70 : PX m0 m70 := by rw [e_m70]; exact PX.wt g_m57 (tw_316 g_m57.1 (by first | assumption | omega)) inP_316
                have w70 : rd m70 284 48 = rd m_23 284 48 := by rw [e_m70, rd_wt, if_neg (by omega)]; exact w57
                have t19 := ty_284_48 g_m70.1
                try have w20 : wr ((rd m70 284 48) + 1) = (rd m70 284 48) + 1 := wr_id (by omega) (by omega)
                intro m78 e_m78
                have g_m78 : PX m0 m78 := by rw [e_m78]; exact PX.wt g_m70 (tw_284_48 g_m70.1 ⟨by omega, by omega⟩) (inP_284 (by omega))
                have FR78 : ∀ i j : Nat, ¬ (i = 284 ∧ (j = 11 ∨ j = 12 ∨ j = 13 ∨ j = 14 ∨ j = 48)) → ¬ (i = 316 ∧ (j : Int) = rd m_23 284 48) → rd m78 i j = rd m_23 i j := fun i j h1 h2 => by
                  rw [e_m78, rd_wt, if_neg (by omega), e_m70, rd_wt, if_neg (by omega), ft57 i j (by omega), e_m53, rd_wt, if_neg (by omega), hR_46.1 i j (by omega)]
                have w78 : rd m78 284 48 = rd m_23 284 48 + 1 := by rw [e_m78, rd_wt, if_pos ⟨rfl, rfl⟩, w70, wr_i (wr_rg _), wr_id (by omega) (by omega)]
                have o78 : rd m78 284 12 = rd m_23 284 12 + 1 := by rw [e_m78, rd_wt, if_neg (by omega), e_m70, rd_wt, if_neg (by omega), ft57 284 12 (by omega), e_m53, rd_wt, if_pos ⟨rfl, rfl⟩, wr_i (wr_rg _), hR_46.1 284 12 (by omega), wr_id (by omega) (by omega)]
                have s78 : rd m78 316 (Int.toNat (rd m_23 284 48)) = 6 := by rw [e_m78, rd_wt, if_neg (by omega), e_m70, w57, rd_wt, if_pos ⟨rfl, rfl⟩]; rfl
                have t78 : rd m78 284 11 = rd m57 284 11 := by rw [e_m78, rd_wt, if_neg (by omega), e_m70, rd_wt, if_neg (by omega)]
                have f78 : rd m78 284 13 = rd m57 284 13 := by rw [e_m78, rd_wt, if_neg (by omega), e_m70, rd_wt, if_neg (by omega)]
                have r53 : ∀ j, rd m53 288 j = rd m_23 288 j := fun j => (g_m53.2.1 288 j (inP_no (by omega) (by omega))).trans (g_m_23.2.1 288 j (inP_no (by omega) (by omega))).symm
                have p53 : rd m53 284 14 = rd m_46 284 14 := by rw [e_m53, rd_wt, if_neg (by omega)]
                have p78 : rd m78 284 14 = rd m57 284 14 := by rw [e_m78, rd_wt, if_neg (by omega), e_m70, rd_wt, if_neg (by omega)]
                have q57 : rd m78 284 12 = rd m57 284 12 := by rw [e_m78, rd_wt, if_neg (by omega), e_m70, rd_wt, if_neg (by omega)]
                have o57 : rd m57 284 12 = rd m_23 284 12 + 1 := by omega
                have ai78 : auI m0 m m78 N 0 := ai_fr (ai_open p2 cI_23 g_m_23 (by omega) (by omega) cR_46 a53 b53 p53 r53 h_m57 o57) t78 (by omega) f78 p78
                exact ⟨⟨g_m78, by exact ⟨by exact ⟨by exact ⟨⟨exF_co hI_23.1.1 (fun i j h1 h2 h3 => FR78 i j (by omega) (by omega)) (by omega) (by omega) (by rw [FR78 284 44 (by omega) (by omega)]; exact Int.le_refl _) (by omega), by omega⟩, fun h => exI_open (hI_23.2 (by omega)) FR78 w78 o78 s78 (by omega) (by omega)⟩, by exact ai78⟩, by exact (((lR_46.trans (lf_wt e_m53)).trans (lf_gx hx_m57)).trans (lf_wt e_m70)).trans (lf_wt e_m78)⟩⟩, by (try dsimp only); omega⟩
    · intro   hR_272
      exact ⟨g_m_12, by exact ⟨by exact ⟨by first | exact exP_f hI_12.1.2 (by omega) | exact exP_f xf85 (by omega) | exact exP_e hR_204.1 hR_204.2.2.1 hR_204.2.2.2 g_m206.1 h_m206.1 h_m206.2, by first | exact ex_a1 cI_12 (by omega) | exact ex_a2 fm0 (ai_un p2 cI_23 g_m_23 (by omega) un ua) (by omega) | exact ex_a3 fm0 cR_204 h_m206.1⟩, by first | exact lI_12 | exact lI_23.trans l_m85 | exact lR_204.trans l_m206⟩⟩
-- TippedCratesModel.roomFor(II)V
set_option maxRecDepth 20000 in
theorem mx_191 {m : Mm} {x1 : Int} {x2 : Int}  (T_m : Ty m) (r_x1 : rg x1) (r_x2 : rg x2) (p0 : 0 ≤ rd m 284 13) : CV 3 191 [.ref 284, iv x1, iv x2] m (fun m2 => GX sFt m m2 ∧ (((rd m2 284 13 = 0 → rd m 284 13 = 0 ∧ ¬ x1 = x2 ∧ rd m 284 11 < 400 ∧ rd m2 284 11 = rd m 284 11 + 1) ∧ 0 ≤ rd m2 284 13 ∧ (rd m2 284 15 = rd m 284 15 ∧ rd m2 284 16 = rd m 284 16)) ∧ (roP m m2 x1 x2))) := by
  refine br_191 r_x1 r_x2 ?_
  unfold P_191
  have g_m : GX sFt m m := ⟨T_m, fun _ _ _ => rfl, fun _ _ => rfl⟩
  have tt := ty_284_11 T_m
  refine ⟨fun m_10 => GX sFt m m_10 ∧ (((rd m_10 284 13 = 0 → rd m 284 13 = 0 ∧ ¬ x1 = x2) ∧ 0 ≤ rd m_10 284 13 ∧ rd m_10 284 11 = rd m 284 11 ∧ rd m_10 284 15 = rd m 284 15 ∧ rd m_10 284 16 = rd m 284 16) ∧ ((x1 = x2 ∧ flP m m_10 2) ∨ (¬ x1 = x2 ∧ m_10 = m))), ?_, ?_⟩
  · skip
    refine ⟨fun hq => ?_, fun hq => ?_⟩
    · skip
      exact ⟨g_m, by exact ⟨by (refine ⟨fun h => ?_, ?_, ?_, ?_, ?_⟩ <;> omega), by first | exact Or.inl ⟨by omega, h_m7⟩ | exact Or.inr ⟨by omega, rfl⟩⟩⟩
    · skip
      refine CV.mono (ct_181   T_m (by unfold rg; decide) (by omega) (by omega)) (by decide) ?_
      rintro m7 ⟨hx_m7, h_m7⟩
      have g_m7 : GX sFt m m7 := gx_in g_m hx_m7 (fun _ _ h => h)
      exact ⟨g_m7, by exact ⟨by (refine ⟨fun h => ?_, ?_, ?_, ?_, ?_⟩ <;> omega), by first | exact Or.inl ⟨by omega, h_m7⟩ | exact Or.inr ⟨by omega, rfl⟩⟩⟩
  · intro m_10  hR_10
    obtain ⟨g_m_10, hR_10⟩ := hR_10
    obtain ⟨hR_10, cR_10⟩ := hR_10
    refine ⟨fun m_21 => GX sFt m m_21 ∧ (((rd m_21 284 13 = 0 → rd m 284 13 = 0 ∧ ¬ x1 = x2 ∧ rd m 284 11 < 400 ∧ rd m_21 284 11 = rd m 284 11 + 1) ∧ 0 ≤ rd m_21 284 13 ∧ (rd m_21 284 15 = rd m 284 15 ∧ rd m_21 284 16 = rd m 284 16)) ∧ (roP m m_21 x1 x2)), ?_, ?_⟩
    · skip
      refine ⟨fun hq => ?_, fun hq => ?_⟩
      · skip
        exact ⟨g_m_10, by exact ⟨by (refine ⟨fun h => ?_, ?_, ?_, ?_⟩ <;> omega), by first | exact ro_f cR_10 (by omega) | exact ro_g cR_10 (by omega) h_m18⟩⟩
      · skip
        refine CV.mono (ct_183   g_m_10.1 (by omega)) (by decide) ?_
        rintro m18 ⟨hx_m18, h_m18⟩
        have g_m18 : GX sFt m m18 := gx_in g_m_10 hx_m18 (fun _ _ h => h)
        exact ⟨g_m18, by exact ⟨by (refine ⟨fun h => ?_, ?_, ?_, ?_⟩ <;> omega), by first | exact ro_f cR_10 (by omega) | exact ro_g cR_10 (by omega) h_m18⟩⟩
    · intro m_21  hR_21
      obtain ⟨g_m_21, hR_21⟩ := hR_21
      obtain ⟨hR_21, cR_21⟩ := hR_21
      exact ⟨g_m_21, by exact ⟨by (refine ⟨fun h => ?_, ?_, ?_, ?_⟩ <;> omega), by exact cR_21⟩⟩
-- TippedCratesModel.term()V
set_option maxRecDepth 20000 in
theorem mx_196 {m0 m : Mm}  {N : Int} {s : Ps} (g_m : PX m0 m)  (p0 : 0 ≤ rd m 284 13) (p1 : rd m 284 13 = 0 → rd m 284 12 = 0 ∧ 420 * rd m0 284 19 ≤ rd m 284 44 ∧ rd m 284 44 - 420 * rd m0 284 19 ≤ rd m 284 11) (p2 : 130 * rd m0 284 19 ≤ rd m 284 38 ∧ rd m 284 38 < 130 * rd m0 284 19 + 130) (p3 : tkN m0 N) (p4 : RM (tX m0) N (rd m0 284 19) (s) m) : CV 5 196 [.ref 284] m (fun m2 => PX m0 m2 ∧ ((teP m m2 (rd m0 284 19)) ∧ (RM (tX m0) N (rd m0 284 19) (pS (tX m0) s) m2))) := by
  refine br_196  ?_
  unfold P_196
  have hs := PX.s g_m
  have tc := ty_284_44 g_m.1
  have t1 := ty_284_38 g_m.1
  refine ⟨⟨by omega, by omega⟩, ?_⟩
  have t2 := ty_284_44 g_m.1
  intro m12 e_m12
  have g_m12 : PX m0 m12 := by rw [e_m12]; exact PX.wt g_m (tw_312 g_m.1 ⟨by omega, by omega⟩) (inP_130 (by omega) (by omega))
  have n11 : rd m12 284 11 = rd m 284 11 := by rw [e_m12, rd_wt, if_neg (by omega)]
  have n12 : rd m12 284 12 = rd m 284 12 := by rw [e_m12, rd_wt, if_neg (by omega)]
  have n13 : rd m12 284 13 = rd m 284 13 := by rw [e_m12, rd_wt, if_neg (by omega)]
  have n38 : rd m12 284 38 = rd m 284 38 := by rw [e_m12, rd_wt, if_neg (by omega)]
  have n44 : rd m12 284 44 = rd m 284 44 := by rw [e_m12, rd_wt, if_neg (by omega)]
  have r12 := rm_wt p4 (Or.inr (by omega)) e_m12
  refine ⟨fun m_24 => PX m0 m_24 ∧ ((exP m12 m_24 (rd m0 284 19)) ∧ (RM (tX m0) N (rd m0 284 19) (pS (tX m0) s) m_24)), ?_, ?_⟩
  · skip
    refine ⟨fun hq => ?_, fun hq => ?_⟩
    · skip
      exact ⟨g_m12, by exact ⟨by first | exact exP_f (exF_rf (by omega)) (by omega) | exact h_m21, by first | exact rm_S r12 p3 x_m21 h_m21.1.1 l_m21 | exact rm_S0 r12 hq⟩⟩
    · skip
      refine CV.mono (my_199   g_m12 (by omega) (fun h => by have := p1 (by omega); omega) p3 (rn_N r12)) (by decide) ?_
      rintro m21 ⟨g_m21, h_m21⟩
      obtain ⟨⟨h_m21, x_m21⟩, l_m21⟩ := h_m21
      exact ⟨g_m21, by exact ⟨by first | exact exP_f (exF_rf (by omega)) (by omega) | exact h_m21, by first | exact rm_S r12 p3 x_m21 h_m21.1.1 l_m21 | exact rm_S0 r12 hq⟩⟩
  · intro m_24  hR_24
    obtain ⟨g_m_24, hR_24⟩ := hR_24
    obtain ⟨hR_24, cR_24⟩ := hR_24
    have b24 : rd m_24 284 38 = rd m 284 38 := (hR_24.1.1 284 38 (by omega) (by omega) (by omega)).trans n38
    have tc24 := ty_284_44 g_m_24.1
    have t4 := ty_284_38 g_m_24.1
    refine ⟨⟨by omega, by omega⟩, ?_⟩
    have t5 := ty_284_44 g_m_24.1
    intro m36 e_m36
    have g_m36 : PX m0 m36 := by rw [e_m36]; exact PX.wt g_m_24 (tw_313 g_m_24.1 ⟨by omega, by omega⟩) (inP_130 (by omega) (by omega))
    have b36 : rd m36 284 38 = rd m 284 38 := by rw [e_m36, rd_wt, if_neg (by omega)]; exact b24
    have t6 := ty_284_38 g_m36.1
    try have w7 : wr ((rd m36 284 38) + 1) = (rd m36 284 38) + 1 := wr_id (by omega) (by omega)
    intro m44 e_m44
    have g_m44 : PX m0 m44 := by rw [e_m44]; exact PX.wt g_m36 (tw_284_38 g_m36.1 ⟨by omega, by omega⟩) (inP_284 (by omega))
    have r44 := rm_wt (rm_wt cR_24 (Or.inr (by omega)) e_m36) (Or.inl (by omega)) e_m44
    exact ⟨g_m44, by exact ⟨by exact te_of (by omega) (by omega) e_m12 hR_24 e_m36 e_m44, by exact r44⟩⟩
-- TippedCratesModel.tellLaw(I)V
set_option maxRecDepth 20000 in
set_option maxHeartbeats 4000000 in
theorem mx_195 {m0 m : Mm} {x1 : Int} {N : Int} {s : Ps} (g_m : PX m0 m) (r_x1 : rg x1) (p0 : 0 ≤ x1 ∧ x1 ≤ 3) (p1 : 0 ≤ rd m 284 13) (p2 : rd m 284 13 = 0 → rd m 284 12 = 0 ∧ 420 * rd m0 284 19 ≤ rd m 284 44 ∧ rd m 284 44 - 420 * rd m0 284 19 ≤ rd m 284 11) (p3 : (130 * rd m0 284 19 ≤ rd m 284 38 ∧ rd m 284 38 ≤ 130 * rd m0 284 19 + 100) ∧ (rd m 284 13 = 0 → 4 * (rd m 284 38 - 130 * rd m0 284 19) + 1 ≤ rd m 284 11)) (p4 : tkN m0 N) (p5 : RM (tX m0) N (rd m0 284 19) (s) m) : CV 6 195 [.ref 284, iv x1] m (fun m2 => PX m0 m2 ∧ ((tlP m m2 (rd m0 284 19) x1) ∧ (RM (tX m0) N (rd m0 284 19) (pT (tX m0) 59 (pS (tX m0) (pRm (tX m0) (pIfs (tX m0) 4 (pT (tX m0) 61 s))))) m2))) := by
  refine br_195 r_x1 ?_
  unfold P_195
  have hs := PX.s g_m
  have tt := ty_284_11 g_m.1
  refine CV.mono (mx_184   g_m.1 (by unfold rg; decide) (by omega)) (by decide) ?_
  rintro m2 ⟨hx_m2, h_m2⟩
  have g_m2 : PX m0 m2 := PX.ft g_m hx_m2
  obtain ⟨h_m2, u_m2⟩ := h_m2
  have ft2 := ft_go hx_m2 h_m2.2.2.1.1 h_m2.2.2.1.2
  have b2 : rd m2 284 38 = rd m 284 38 := ft2 284 38 (by omega)
  have r2 := rm_mu p5 p4 g_m hx_m2 (K := 61) (fun _ _ h => (km_v h).2.1) (by decide) u_m2
  have t1 := ty_284_38 g_m2.1
  intro z2_9 e_z2_9
  have r_z2_9 : rg z2_9 := by rw [e_z2_9]; exact (rd_rg _ _ _)
  refine ⟨fun x3_12 m_12 => PX m0 m_12 ∧ ((tlI m m_12 (rd m0 284 19) ∧ rd m_12 284 38 ≤ 130 * rd m0 284 19 + 100 ∧ (rd m_12 284 13 = 0 → 4 * (rd m_12 284 38 - 130 * rd m0 284 19) + 2 ≤ rd m_12 284 11)) ∧ (∃ s2 : Ps, RM (tX m0) N (rd m0 284 19) (s2) m_12 ∧ (0 ≤ x3_12 ∧ x3_12 ≤ 4) ∧ pIfs (tX m0) (Int.toNat (4 - x3_12)) s2 = (pIfs (tX m0) 4 (pT (tX m0) 61 s)))), fun x3_12 m_12 => Int.toNat (10000 - rd m_12 284 11 - 1000 * rd m_12 284 13), ?_, ?_⟩
  · exact ⟨g_m2, by exact ⟨by exact ⟨tl_0 ft2 (by omega) (by omega) (fun h => (h_m2.1 h).1) (fun h => by have := p2 h; have := ft2 284 12 (by omega); have := ft2 284 44 (by omega); omega), by omega, fun h => by have := h_m2.1 h; have := p3.2 this.1; omega⟩, by exact ⟨_, r2, by omega, rfl⟩⟩⟩
  · intro x3_12 m_12 r_x3_12 hI_12
    obtain ⟨g_m_12, hI_12⟩ := hI_12
    obtain ⟨hI_12, cI_12⟩ := hI_12
    have f12 := hI_12.1.2.1
    have t12 := ty_284_11 g_m_12.1
    obtain ⟨s2, ra, rx, rb⟩ := cI_12
    refine ⟨fun m_129 => PX m0 m_129 ∧ ((tlI m m_129 (rd m0 284 19) ∧ rd m_129 284 38 ≤ 130 * rd m0 284 19 + 100 ∧ (rd m_129 284 13 = 0 → 4 * (rd m_129 284 38 - 130 * rd m0 284 19) + 2 ≤ rd m_129 284 11)) ∧ (RM (tX m0) N (rd m0 284 19) (pRm (tX m0) (pIfs (tX m0) 4 (pT (tX m0) 61 s))) m_129)), ?_, ?_⟩
    · skip
      refine ⟨fun hq => ?_, fun hq => ?_⟩
      · skip
        exact ⟨g_m_12, by exact ⟨by exact hI_12, by first | exact tl_x ra p4 g_m_12 rb (Or.inl (by omega)) | exact tl_x ra p4 g_m_12 rb (Or.inr (by omega))⟩⟩
      · skip
        refine CK.mono (ct_180   g_m_12.1 (by unfold rg; decide)) (by decide) ?_
        rintro m22 v22 r_v22 ⟨e_m22, h_m22⟩
        replace e_m22 := e_m22.symm
        subst e_m22
        refine ⟨fun hq => ?_, fun hq => ?_⟩
        · skip
          exact ⟨g_m_12, by exact ⟨by exact hI_12, by first | exact tl_x ra p4 g_m_12 rb (Or.inl (by omega)) | exact tl_x ra p4 g_m_12 rb (Or.inr (by omega))⟩⟩
        · skip
          refine ⟨fun m_38 => PX m0 m_38 ∧ ((ftRel m_12 m_38 ∧ 0 ≤ rd m_38 284 13 ∧ rd m_38 284 11 = rd m_12 284 11 ∧ (rd m_38 284 13 = 0 → rd m_12 284 13 = 0)) ∧ ((¬ x3_12 = 4 ∧ m_38 = m_12) ∨ (x3_12 = 4 ∧ RM (tX m0) N (rd m0 284 19) (pF (tX m0) 2 s2) m_38 ∧ ¬ rd m_38 284 13 = 0))), ?_, ?_⟩
          · skip
            refine ⟨fun hq => ?_, fun hq => ?_⟩
            · skip
              exact ⟨g_m_12, by exact ⟨by first | exact ⟨fun _ _ _ => rfl, by omega, rfl, fun h => h⟩ | exact ⟨ft_go hx_m35 h_m35.2.2.1 h_m35.2.2.2, by omega, by omega, fun h => by omega⟩, by first | exact Or.inl ⟨by omega, rfl⟩ | exact Or.inr ⟨by omega, rm_F ra p4 g_m_12 (by decide) h_m35, by omega⟩⟩⟩
            · skip
              refine CV.mono (ct_181   g_m_12.1 (by unfold rg; decide) (by omega) (by omega)) (by decide) ?_
              rintro m35 ⟨hx_m35, h_m35⟩
              have g_m35 : PX m0 m35 := PX.ft g_m_12 hx_m35
              exact ⟨g_m35, by exact ⟨by first | exact ⟨fun _ _ _ => rfl, by omega, rfl, fun h => h⟩ | exact ⟨ft_go hx_m35 h_m35.2.2.1 h_m35.2.2.2, by omega, by omega, fun h => by omega⟩, by first | exact Or.inl ⟨by omega, rfl⟩ | exact Or.inr ⟨by omega, rm_F ra p4 g_m_12 (by decide) h_m35, by omega⟩⟩⟩
          · intro m_38  hR_38
            obtain ⟨g_m_38, hR_38⟩ := hR_38
            obtain ⟨hR_38, cR_38⟩ := hR_38
            have tl38 := tlI_ft hI_12.1 hR_38.1 (by omega) (by omega) (fun h => by omega)
            have hTL := tl38
            have b38 : rd m_38 284 38 = rd m_12 284 38 := hR_38.1 284 38 (by omega)
            have c38b := hTL.2.2.2.1
            have bl38 := hTL.2.2.2.2.1
            have z38 := hTL.2.2.2.2.2
            refine ⟨fun hq => ?_, fun hq => ?_⟩
            · skip
              try have w4 : wr (x3_12 + 1) = x3_12 + 1 := wr_id (by omega) (by omega)
              intro z3_46 e_z3_46
              have r_z3_46 : rg z3_46 := by rw [e_z3_46]; exact wr_rg _
              refine CV.mono (ct_183   g_m_38.1 (by omega)) (by decide) ?_
              rintro m50 ⟨hx_m50, h_m50⟩
              have g_m50 : PX m0 m50 := PX.ft g_m_38 hx_m50
              have ft50 := ft_go hx_m50 h_m50.2.1 h_m50.2.2
              have b50 : rd m50 284 38 = rd m_38 284 38 := ft50 284 38 (by omega)
              have tc50 := ty_284_44 g_m50.1
              have r38 : RM (tX m0) N (rd m0 284 19) (s2) m_38 := m38_ok cR_38 (by omega) ra
              have r50 := rm_go r38 p4 g_m_38 hx_m50 (K := 9) (fun _ _ h => (km_v h).2.2.2.2.2.2.1) (by decide) (m38_k cR_38 (by omega) (by omega)) (by omega) h_m50
              have t5 := ty_284_38 g_m50.1
              refine ⟨⟨by omega, by omega⟩, ?_⟩
              intro m62 e_m62
              have g_m62 : PX m0 m62 := by rw [e_m62]; exact PX.wt g_m50 (tw_309 g_m50.1 (nz_rg _)) (inP_130 (by omega) (by omega))
              have b62 : rd m62 284 38 = rd m_38 284 38 := by rw [e_m62, rd_wt, if_neg (by omega)]; exact b50
              have c62 : rd m62 284 44 = rd m50 284 44 := by rw [e_m62, rd_wt, if_neg (by omega)]
              have t6 := ty_284_38 g_m62.1
              refine ⟨⟨by omega, by omega⟩, ?_⟩
              have t7 := ty_284_44 g_m62.1
              intro m75 e_m75
              have g_m75 : PX m0 m75 := by rw [e_m75]; exact PX.wt g_m62 (tw_310 g_m62.1 ⟨by omega, by omega⟩) (inP_130 (by omega) (by omega))
              have q75_11 : rd m75 284 11 = rd m50 284 11 := by rw [e_m75, rd_wt, if_neg (by omega), e_m62, rd_wt, if_neg (by omega)]
              have q75_12 : rd m75 284 12 = rd m50 284 12 := by rw [e_m75, rd_wt, if_neg (by omega), e_m62, rd_wt, if_neg (by omega)]
              have q75_13 : rd m75 284 13 = rd m50 284 13 := by rw [e_m75, rd_wt, if_neg (by omega), e_m62, rd_wt, if_neg (by omega)]
              have q75_38 : rd m75 284 38 = rd m50 284 38 := by rw [e_m75, rd_wt, if_neg (by omega), e_m62, rd_wt, if_neg (by omega)]
              have q75_44 : rd m75 284 44 = rd m50 284 44 := by rw [e_m75, rd_wt, if_neg (by omega), e_m62, rd_wt, if_neg (by omega)]
              have c38 : rd m50 284 44 = rd m_38 284 44 := ft50 284 44 (by omega)
              have o38 : rd m50 284 12 = rd m_38 284 12 := ft50 284 12 (by omega)
              have r75 := rm_wt (rm_wt r50 (Or.inr (by omega)) e_m62) (Or.inr (by omega)) e_m75
              refine CV.mono (my_199   g_m75 (by omega) (fun h => by have := z38 (by omega); omega) p4 (rn_N r75)) (by decide) ?_
              rintro m77 ⟨g_m77, h_m77⟩
              obtain ⟨⟨h_m77, x_m77⟩, l_m77⟩ := h_m77
              have b77 : rd m77 284 38 = rd m_38 284 38 := (h_m77.1.1 284 38 (by omega) (by omega) (by omega)).trans (q75_38.trans b50)
              have f77 := h_m77.1.2.1
              have t77 := h_m77.1.2.2.1
              have z77 := h_m77.1.2.2.2.2
              have r77 := rm_S r75 p4 x_m77 h_m77.1.1 l_m77
              refine CV.mono (mx_184   g_m77.1 (by unfold rg; decide) (by omega)) (by decide) ?_
              rintro m83 ⟨hx_m83, h_m83⟩
              have g_m83 : PX m0 m83 := PX.ft g_m77 hx_m83
              obtain ⟨h_m83, u_m83⟩ := h_m83
              have ft83 := ft_go hx_m83 h_m83.2.2.1.1 h_m83.2.2.1.2
              have b83 : rd m83 284 38 = rd m_38 284 38 := (ft83 284 38 (by omega)).trans b77
              have tc83 := ty_284_44 g_m83.1
              have c83 : rd m83 284 44 = rd m77 284 44 := ft83 284 44 (by omega)
              have o83 : rd m83 284 12 = rd m77 284 12 := ft83 284 12 (by omega)
              have r83 := rm_mu r77 p4 g_m77 hx_m83 (K := 60) (fun _ _ h => (km_v h).2.2.1) (by decide) u_m83
              have t8 := ty_284_38 g_m83.1
              refine ⟨⟨by omega, by omega⟩, ?_⟩
              have t9 := ty_284_44 g_m83.1
              intro m98 e_m98
              have g_m98 : PX m0 m98 := by rw [e_m98]; exact PX.wt g_m83 (tw_311 g_m83.1 ⟨by omega, by omega⟩) (inP_130 (by omega) (by omega))
              have q98_11 : rd m98 284 11 = rd m83 284 11 := by rw [e_m98, rd_wt, if_neg (by omega)]
              have q98_12 : rd m98 284 12 = rd m83 284 12 := by rw [e_m98, rd_wt, if_neg (by omega)]
              have q98_13 : rd m98 284 13 = rd m83 284 13 := by rw [e_m98, rd_wt, if_neg (by omega)]
              have q98_38 : rd m98 284 38 = rd m83 284 38 := by rw [e_m98, rd_wt, if_neg (by omega)]
              have q98_44 : rd m98 284 44 = rd m83 284 44 := by rw [e_m98, rd_wt, if_neg (by omega)]
              have r98 := rm_wt r83 (Or.inr (by omega)) e_m98
              refine ⟨fun m_110 => PX m0 m_110 ∧ ((exP m98 m_110 (rd m0 284 19)) ∧ (RM (tX m0) N (rd m0 284 19) (pS (tX m0) (pT (tX m0) 60 (pS (tX m0) (pT (tX m0) 9 s2)))) m_110)), ?_, ?_⟩
              · skip
                refine ⟨fun hq => ?_, fun hq => ?_⟩
                · skip
                  exact ⟨g_m98, by exact ⟨by first | exact exP_f (exF_rf (by omega)) (by omega) | exact h_m107, by first | exact rm_S r98 p4 x_m107 h_m107.1.1 l_m107 | exact rm_S0 r98 hq⟩⟩
                · skip
                  refine CV.mono (my_199   g_m98 (by omega) (fun h => by have := h_m77.2 (by have := h_m83.1 (by omega); omega); have := h_m83.1 (by omega); have := z38 (by have := z77 (by omega); omega); have := h_m77.1.2.2.2.1; omega) p4 (rn_N r98)) (by decide) ?_
                  rintro m107 ⟨g_m107, h_m107⟩
                  obtain ⟨⟨h_m107, x_m107⟩, l_m107⟩ := h_m107
                  exact ⟨g_m107, by exact ⟨by first | exact exP_f (exF_rf (by omega)) (by omega) | exact h_m107, by first | exact rm_S r98 p4 x_m107 h_m107.1.1 l_m107 | exact rm_S0 r98 hq⟩⟩
              · intro m_110  hR_110
                obtain ⟨g_m_110, hR_110⟩ := hR_110
                obtain ⟨hR_110, cR_110⟩ := hR_110
                have b110 : rd m_110 284 38 = rd m_38 284 38 := (hR_110.1.1 284 38 (by omega) (by omega) (by omega)).trans (q98_38.trans b83)
                have f110 := hR_110.1.2.1
                have t110 := hR_110.1.2.2.1
                have z110 := hR_110.1.2.2.2.2
                refine CV.mono (mx_184   g_m_110.1 (by unfold rg; decide) (by omega)) (by decide) ?_
                rintro m113 ⟨hx_m113, h_m113⟩
                have g_m113 : PX m0 m113 := PX.ft g_m_110 hx_m113
                obtain ⟨h_m113, u_m113⟩ := h_m113
                have ft113 := ft_go hx_m113 h_m113.2.2.1.1 h_m113.2.2.1.2
                have b113 : rd m113 284 38 = rd m_38 284 38 := (ft113 284 38 (by omega)).trans b110
                have c113 : rd m113 284 44 = rd m_110 284 44 := ft113 284 44 (by omega)
                have o113 : rd m113 284 12 = rd m_110 284 12 := ft113 284 12 (by omega)
                have r113 := rm_mu cR_110 p4 g_m_110 hx_m113 (K := 10) (fun _ _ h => (km_v h).2.2.2.1) (by decide) u_m113
                refine CV.mono (mx_196   g_m113 (by omega) (fun h => by have q1 := h_m113.1 h; have q2 := hR_110.2 q1.1; have q3 := h_m83.1 (by have := z110 q1.1; omega); have q4 := z38 (by have := z77 q3.1; omega); have q5 := h_m77.1.2.2.2.1; have q6 := hR_110.1.2.2.2.1; omega) (by omega) p4 r113) (by decide) ?_
                rintro m117 ⟨g_m117, h_m117⟩
                obtain ⟨h_m117, r_m117⟩ := h_m117
                have t117 := h_m117.2.2.2.2.1
                have f117 := h_m117.2.2.2.1
                refine CV.mono (mx_184   g_m117.1 (by unfold rg; decide) (by omega)) (by decide) ?_
                rintro m123 ⟨hx_m123, h_m123⟩
                have g_m123 : PX m0 m123 := PX.ft g_m117 hx_m123
                obtain ⟨h_m123, u_m123⟩ := h_m123
                have ft123 := ft_go hx_m123 h_m123.2.2.1.1 h_m123.2.2.1.2
                have br := tl_branch (k := x1) hTL (by omega) ft50 (by omega) (by omega) e_m62 e_m75 h_m77 ft83 (by omega) (by omega) (fun h => (h_m83.1 h).1) e_m98 hR_110 ft113 (by omega) (by omega) (fun h => (h_m113.1 h).1) h_m117 ft123 (by omega) (by omega) (fun h => (h_m123.1 h).1)
                have r123 : RM (tX m0) N (rd m0 284 19) (pIf (tX m0) s2) m123 := rm_mu r_m117 p4 g_m117 hx_m123 (K := 11) (fun _ _ h => (km_v h).2.2.2.2.1) (by decide) u_m123
                have br2 := br.2.2
                have br3 := h_m123.1
                exact ⟨⟨g_m123, by exact ⟨by exact ⟨br.1, by have := br.2.1; omega, fun h => by have := br.2.1; have := br.2.2 h; omega⟩, by exact ⟨pIf (tX m0) s2, r123, by omega, if_C rb (by omega) (m38_c ra p4 g_m_12 (by omega) (by omega))⟩⟩⟩, by (try dsimp only); omega⟩
            · skip
              exact ⟨g_m_38, by exact ⟨by first | exact tlP_f hTL (by omega) (by omega) | exact tlP_l la (by omega) (by omega) | exact tlP_e la (by omega) (by omega) p0 e_z2_9 b2 s145 e_m169 e_m186 (by omega), by first | exact tl_4 ra p4 g_m_12 rb cR_38 (by omega) (by omega) (by omega) | exact rm_wt (rm_wt r145 (Or.inr (by omega)) e_m169) (Or.inr (by omega)) e_m186 | exact r145⟩⟩
    · intro m_129  hR_129
      obtain ⟨g_m_129, hR_129⟩ := hR_129
      obtain ⟨hR_129, cR_129⟩ := hR_129
      have t129b := hR_129.1.2.2.1
      have f129 := hR_129.1.2.1
      have b129 := hR_129.1.2.2.2.2.1
      have z129 := hR_129.1.2.2.2.2.2
      have t129 := ty_284_11 g_m_129.1
      have r129 := cR_129
      have t11 := ty_284_38 g_m_129.1
      refine ⟨⟨by omega, by omega⟩, ?_⟩
      intro m138 e_m138
      have g_m138 : PX m0 m138 := by rw [e_m138]; exact PX.wt g_m_129 (tw_309 g_m_129.1 (nz_rg _)) (inP_130 (by omega) (by omega))
      have b138 : rd m138 284 38 = rd m_129 284 38 := by rw [e_m138, rd_wt, if_neg (by omega)]
      have q138_11 : rd m138 284 11 = rd m_129 284 11 := by rw [e_m138, rd_wt, if_neg (by omega)]
      have q138_12 : rd m138 284 12 = rd m_129 284 12 := by rw [e_m138, rd_wt, if_neg (by omega)]
      have q138_13 : rd m138 284 13 = rd m_129 284 13 := by rw [e_m138, rd_wt, if_neg (by omega)]
      have q138_44 : rd m138 284 44 = rd m_129 284 44 := by rw [e_m138, rd_wt, if_neg (by omega)]
      have r138 := rm_wt r129 (Or.inr (by omega)) e_m138
      refine CV.mono (mx_196   g_m138 (by omega) (fun h => by have := z129 (by omega); omega) (by omega) p4 r138) (by decide) ?_
      rintro m140 ⟨g_m140, h_m140⟩
      obtain ⟨h_m140, r_m140⟩ := h_m140
      have f140 := h_m140.2.2.2.1
      have t140 := h_m140.2.2.2.2.1
      refine CV.mono (mx_184   g_m140.1 (by unfold rg; decide) (by omega)) (by decide) ?_
      rintro m145 ⟨hx_m145, h_m145⟩
      have g_m145 : PX m0 m145 := PX.ft g_m140 hx_m145
      obtain ⟨h_m145, u_m145⟩ := h_m145
      have ft145 := ft_go hx_m145 h_m145.2.2.1.1 h_m145.2.2.1.2
      have s145 := (PX.s g_m145).1
      have tb := ty_284_38 g_m145.1
      have la := tl_last hR_129.1 e_m138 (by omega) h_m140 ft145 (by omega) (by omega) (fun h => (h_m145.1 h).1)
      have bl := la.2.1
      have b138b := h_m140.1
      have r145 := rm_mu r_m140 p4 g_m140 hx_m145 (K := 59) (fun _ _ h => (km_v h).1) (by decide) u_m145
      refine ⟨fun hq => ?_, fun hq => ?_⟩
      · skip
        have t13 := ty_284_19 g_m145.1
        try have w14 : wr (4 * (rd m145 284 19)) = 4 * (rd m145 284 19) := wr_id (by omega) (by omega)
        try have w15 : wr ((wr (4 * (rd m145 284 19))) + x1) = (wr (4 * (rd m145 284 19))) + x1 := wr_id (by omega) (by omega)
        refine ⟨⟨by omega, by omega⟩, ?_⟩
        intro m169 e_m169
        have g_m169 : PX m0 m169 := by rw [e_m169]; exact PX.wt g_m145 (tw_307 g_m145.1 ⟨by omega, by omega⟩) (inP_4 (by omega) (by omega))
        have s169 : rd m169 284 19 = rd m145 284 19 := by rw [e_m169, rd_wt, if_neg (by omega)]
        have tb9 := ty_284_38 g_m169.1
        have t16 := ty_284_19 g_m169.1
        try have w17 : wr (4 * (rd m169 284 19)) = 4 * (rd m169 284 19) := wr_id (by omega) (by omega)
        try have w18 : wr ((wr (4 * (rd m169 284 19))) + x1) = (wr (4 * (rd m169 284 19))) + x1 := wr_id (by omega) (by omega)
        refine ⟨⟨by omega, by omega⟩, ?_⟩
        have t19 := ty_284_38 g_m169.1
        intro m186 e_m186
        have g_m186 : PX m0 m186 := by rw [e_m186]; exact PX.wt g_m169 (tw_308 g_m169.1 ⟨by omega, by omega⟩) (inP_4 (by omega) (by omega))
        exact ⟨g_m186, by exact ⟨by first | exact tlP_f hTL (by omega) (by omega) | exact tlP_l la (by omega) (by omega) | exact tlP_e la (by omega) (by omega) p0 e_z2_9 b2 s145 e_m169 e_m186 (by omega), by first | exact tl_4 ra p4 g_m_12 rb cR_38 (by omega) (by omega) (by omega) | exact rm_wt (rm_wt r145 (Or.inr (by omega)) e_m169) (Or.inr (by omega)) e_m186 | exact r145⟩⟩
      · skip
        exact ⟨g_m145, by exact ⟨by first | exact tlP_f hTL (by omega) (by omega) | exact tlP_l la (by omega) (by omega) | exact tlP_e la (by omega) (by omega) p0 e_z2_9 b2 s145 e_m169 e_m186 (by omega), by first | exact tl_4 ra p4 g_m_12 rb cR_38 (by omega) (by omega) (by omega) | exact rm_wt (rm_wt r145 (Or.inr (by omega)) e_m169) (Or.inr (by omega)) e_m186 | exact r145⟩⟩
