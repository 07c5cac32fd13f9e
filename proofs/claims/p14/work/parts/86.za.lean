/-- what the parser writes: its places, the half of the side that does not live -/
def inP (s : Int) (i j : Nat) : Prop := (i = 284 ∧ (j = 11 ∨ j = 12 ∨ j = 13 ∨ j = 14 ∨ j = 15 ∨ j = 16 ∨ j = 20 ∨ j = 38 ∨ j = 44 ∨ j = 48)) ∨ i = 316 ∨ ((i = 293 ∨ i = 294 ∨ i = 295 ∨ i = 298 ∨ i = 302 ∨ i = 306) ∧ (j : Int) = s) ∨ ((i = 296 ∨ i = 297) ∧ 8 * s ≤ j ∧ (j : Int) < 8 * s + 8) ∨ ((i = 299 ∨ i = 300 ∨ i = 301) ∧ 10 * s ≤ j ∧ (j : Int) < 10 * s + 10) ∨ ((i = 303 ∨ i = 304) ∧ 3 * s ≤ j ∧ (j : Int) < 3 * s + 3) ∨ (i = 305 ∧ 18 * s ≤ j ∧ (j : Int) < 18 * s + 18) ∨ ((i = 307 ∨ i = 308) ∧ 4 * s ≤ j ∧ (j : Int) < 4 * s + 4) ∨ ((309 ≤ i ∧ i ≤ 313) ∧ 130 * s ≤ j ∧ (j : Int) < 130 * s + 130) ∨ ((i = 314 ∨ i = 315) ∧ 420 * s ≤ j ∧ (j : Int) < 420 * s + 420)
theorem inP_284 {s : Int} {j : Nat} (h : j = 11 ∨ j = 12 ∨ j = 13 ∨ j = 14 ∨ j = 15 ∨ j = 16 ∨ j = 20 ∨ j = 38 ∨ j = 44 ∨ j = 48) : inP s 284 j := Or.inl ⟨rfl, h⟩
theorem inP_316 {s : Int} {j : Nat} : inP s 316 j := Or.inr (Or.inl rfl)
theorem inP_s {s : Int} {i j : Nat} (h : i = 293 ∨ i = 294 ∨ i = 295 ∨ i = 298 ∨ i = 302 ∨ i = 306) (hj : (j : Int) = s) : inP s i j := Or.inr (Or.inr (Or.inl ⟨h, hj⟩))
theorem inP_8 {s : Int} {i j : Nat} (h : i = 296 ∨ i = 297) (hj : 8 * s ≤ j ∧ (j : Int) < 8 * s + 8) : inP s i j := Or.inr (Or.inr (Or.inr (Or.inl ⟨h, hj⟩)))
theorem inP_10 {s : Int} {i j : Nat} (h : i = 299 ∨ i = 300 ∨ i = 301) (hj : 10 * s ≤ j ∧ (j : Int) < 10 * s + 10) : inP s i j := Or.inr (Or.inr (Or.inr (Or.inr (Or.inl ⟨h, hj⟩))))
theorem inP_3 {s : Int} {i j : Nat} (h : i = 303 ∨ i = 304) (hj : 3 * s ≤ j ∧ (j : Int) < 3 * s + 3) : inP s i j := Or.inr (Or.inr (Or.inr (Or.inr (Or.inr (Or.inl ⟨h, hj⟩)))))
theorem inP_18 {s : Int} {i j : Nat} (h : i = 305) (hj : 18 * s ≤ j ∧ (j : Int) < 18 * s + 18) : inP s i j := Or.inr (Or.inr (Or.inr (Or.inr (Or.inr (Or.inr (Or.inl ⟨h, hj⟩))))))
theorem inP_4 {s : Int} {i j : Nat} (h : i = 307 ∨ i = 308) (hj : 4 * s ≤ j ∧ (j : Int) < 4 * s + 4) : inP s i j := Or.inr (Or.inr (Or.inr (Or.inr (Or.inr (Or.inr (Or.inr (Or.inl ⟨h, hj⟩)))))))
theorem inP_130 {s : Int} {i j : Nat} (h : 309 ≤ i ∧ i ≤ 313) (hj : 130 * s ≤ j ∧ (j : Int) < 130 * s + 130) : inP s i j := Or.inr (Or.inr (Or.inr (Or.inr (Or.inr (Or.inr (Or.inr (Or.inr (Or.inl ⟨h, hj⟩))))))))
theorem inP_420 {s : Int} {i j : Nat} (h : i = 314 ∨ i = 315) (hj : 420 * s ≤ j ∧ (j : Int) < 420 * s + 420) : inP s i j := Or.inr (Or.inr (Or.inr (Or.inr (Or.inr (Or.inr (Or.inr (Or.inr (Or.inr ⟨h, hj⟩))))))))
theorem inP_no {s : Int} {i j : Nat} (h1 : i = 284 → ¬ (j = 11 ∨ j = 12 ∨ j = 13 ∨ j = 14 ∨ j = 15 ∨ j = 16 ∨ j = 20 ∨ j = 38 ∨ j = 44 ∨ j = 48)) (h2 : ¬ (293 ≤ i ∧ i ≤ 316)) : ¬ inP s i j := by
  rintro (⟨a, b⟩ | a | ⟨a, -⟩ | ⟨a, -⟩ | ⟨a, -⟩ | ⟨a, -⟩ | ⟨a, -⟩ | ⟨a, -⟩ | ⟨a, -⟩ | ⟨a, -⟩)
  · exact h1 a b
  all_goals omega
/-- the other half -/
theorem inP_lv {s l : Int} {i j : Nat} (hs : s = 1 - l) (hl : 0 ≤ l ∧ l ≤ 1) (h : ((i = 293 ∨ i = 294 ∨ i = 295 ∨ i = 298 ∨ i = 302 ∨ i = 306) ∧ (j : Int) = l) ∨ ((i = 307 ∨ i = 308) ∧ 4 * l ≤ j ∧ (j : Int) < 4 * l + 4) ∨ ((309 ≤ i ∧ i ≤ 313) ∧ 130 * l ≤ j ∧ (j : Int) < 130 * l + 130) ∨ ((i = 314 ∨ i = 315) ∧ 420 * l ≤ j ∧ (j : Int) < 420 * l + 420)) : ¬ inP s i j := by
  subst hs
  rintro (⟨a, b⟩ | a | ⟨a, b⟩ | ⟨a, b⟩ | ⟨a, b⟩ | ⟨a, b⟩ | ⟨a, b⟩ | ⟨a, b⟩ | ⟨a, b⟩ | ⟨a, b⟩) <;> omega
def PX (m0 m : Mm) : Prop := Ty m ∧ (∀ i j : Nat, ¬ inP (rd m0 284 19) i j → rd m i j = rd m0 i j) ∧ ∀ i j : Nat, ¬ i = 292 → ld m i j = ld m0 i j
theorem PX.wt {m0 m : Mm} {i j : Nat} {v : Int} (h : PX m0 m) (ht : Ty (wt m i j v)) (hs : inP (rd m0 284 19) i j) : PX m0 (wt m i j v) := by
  refine ⟨ht, fun a b e => ?_, h.2.2⟩
  rw [rd_wt, if_neg (fun q => e (by rw [q.1, q.2]; exact hs))]
  exact h.2.1 a b e
theorem PX.wl {m0 m : Mm} {j : Nat} {v : Int} (h : PX m0 m) : PX m0 (wl m 292 j v) :=
  ⟨h.1, h.2.1, fun a b e => by rw [ld_wl, if_neg (fun q => e q.1)]; exact h.2.2 a b e⟩
theorem sFt_no {i j : Nat} (h : ¬ (i = 284 ∧ (j = 11 ∨ j = 13 ∨ j = 14 ∨ j = 15 ∨ j = 16))) : sFt i j = false := by
  cases q : sFt i j with
  | false => rfl
  | true =>
    unfold sFt at q
    rw [Bool.and_eq_true, Bool.or_eq_true, Bool.or_eq_true, Bool.or_eq_true, Bool.or_eq_true] at q
    exfalso
    apply h
    refine ⟨nb_eq q.1, ?_⟩
    rcases q.2 with (((h | h) | h) | h) | h
    · exact Or.inl (nb_eq h)
    · exact Or.inr (Or.inl (nb_eq h))
    · exact Or.inr (Or.inr (Or.inl (nb_eq h)))
    · exact Or.inr (Or.inr (Or.inr (Or.inl (nb_eq h))))
    · exact Or.inr (Or.inr (Or.inr (Or.inr (nb_eq h))))
theorem PX.ft {m0 m m2 : Mm} (h : PX m0 m) (g : GX sFt m m2) : PX m0 m2 :=
  ⟨g.1, fun i j e => (g.2.1 i j (sFt_no (fun q => e (Or.inl ⟨q.1, by omega⟩)))).trans (h.2.1 i j e), fun i j e => (g.2.2 i j).trans (h.2.2 i j e)⟩
theorem PX.s {m0 m : Mm} (h : PX m0 m) : rd m 284 19 = rd m0 284 19 ∧ 0 ≤ rd m0 284 19 ∧ rd m0 284 19 ≤ 1 := by
  have e := h.2.1 284 19 (inP_no (by omega) (by omega))
  have t := ty_284_19 h.1
  exact ⟨e, by omega, by omega⟩
theorem PX.refl {m : Mm} (h : Ty m) : PX m m := ⟨h, fun _ _ _ => rfl, fun _ _ _ => rfl⟩
/-- a code comes behind the others -/
def emRel (m m2 : Mm) (x1 x2 : Int) : Prop := rd m2 284 44 = rd m 284 44 + 1 ∧ rd m2 314 (Int.toNat (rd m 284 44)) = x1 ∧ rd m2 315 (Int.toNat (rd m 284 44)) = x2 ∧ ∀ i j : Nat, ¬ (i = 284 ∧ j = 44) → ¬ ((i = 314 ∨ i = 315) ∧ (j : Int) = rd m 284 44) → rd m2 i j = rd m i j
theorem em_of {m m9 m19 m27 : Mm} {x1 x2 : Int} (r1 : rg x1) (r2 : rg x2) (hc : 0 ≤ rd m 284 44 ∧ rd m 284 44 < 840) (e9 : m9 = wt m 314 (Int.toNat (rd m 284 44)) x1) (e19 : m19 = wt m9 315 (Int.toNat (rd m9 284 44)) x2) (e27 : m27 = wt m19 284 44 (wr ((rd m19 284 44) + 1))) : emRel m m27 x1 x2 := by
  have c9 : rd m9 284 44 = rd m 284 44 := by rw [e9, rd_wt, if_neg (by omega)]
  have c19 : rd m19 284 44 = rd m 284 44 := by rw [e19, rd_wt, if_neg (by omega)]; exact c9
  have w19 : wr (rd m 284 44 + 1) = rd m 284 44 + 1 := wr_id (by omega) (by omega)
  refine ⟨?_, ?_, ?_, fun i j h1 h2 => ?_⟩
  · rw [e27, rd_wt, if_pos ⟨rfl, rfl⟩, c19, w19, w19]
  · rw [e27, rd_wt, if_neg (by omega), e19, rd_wt, if_neg (by omega), e9, rd_wt, if_pos ⟨rfl, rfl⟩, wr_i r1]
  · rw [e27, rd_wt, if_neg (by omega), e19, c9, rd_wt, if_pos ⟨rfl, rfl⟩, wr_i r2]
  · rw [e27, rd_wt, if_neg (by omega), e19, c9, rd_wt, if_neg (by omega), e9, rd_wt, if_neg (by omega)]
/-- the place and the fault alone change -/
def ftRel (m m2 : Mm) : Prop := ∀ i j : Nat, ¬ (i = 284 ∧ (j = 11 ∨ j = 13 ∨ j = 14)) → rd m2 i j = rd m i j
theorem ft_go {m m2 : Mm} (g : GX sFt m m2) (h5 : rd m2 284 15 = rd m 284 15) (h6 : rd m2 284 16 = rd m 284 16) : ftRel m m2 := by
  intro i j h
  by_cases e : i = 284 ∧ (j = 15 ∨ j = 16)
  · obtain ⟨rfl, rfl | rfl⟩ := e
    · exact h5
    · exact h6
  · exact g.2.1 i j (sFt_no (by omega))
/-- behind a unit -/
def unRel (m m2 : Mm) : Prop := (rd m2 284 13 = 0 → rd m 284 13 = 0 ∧ rd m2 284 11 = rd m 284 11 + 1 ∧ rd m2 284 44 = rd m 284 44 + 1 ∧ (rd m2 314 (Int.toNat (rd m 284 44)) = 0 ∨ (rd m2 314 (Int.toNat (rd m 284 44)) = 1 ∧ rd m2 315 (Int.toNat (rd m 284 44)) ≤ 8))) ∧ 0 ≤ rd m2 284 13 ∧ rd m 284 11 ≤ rd m2 284 11 ∧ rd m 284 44 ≤ rd m2 284 44 ∧ ∀ i j : Nat, ¬ (i = 284 ∧ (j = 11 ∨ j = 13 ∨ j = 14 ∨ j = 44)) → ¬ ((i = 314 ∨ i = 315) ∧ (j : Int) = rd m 284 44) → rd m2 i j = rd m i j
theorem un_em {m m1 m2 : Mm} {k v : Int} (hk : k = 0 ∨ (k = 1 ∧ v ≤ 8)) (h0 : rd m 284 13 = 0) (em : emRel m m1 k v) (g : GX sFt m1 m2) (h : ((rd m1 284 11 < 400 ∧ rd m2 284 11 = rd m1 284 11 + 1 ∧ rd m2 284 13 = rd m1 284 13 ∧ rd m2 284 14 = rd m1 284 14) ∨ (rd m1 284 11 = 400 ∧ rd m2 284 11 = 400 ∧ ((rd m1 284 13 = 0 ∧ rd m2 284 13 = 2 ∧ rd m2 284 14 = rd m1 288 (Int.toNat (rd m1 284 11))) ∨ (¬ rd m1 284 13 = 0 ∧ rd m2 284 13 = rd m1 284 13 ∧ rd m2 284 14 = rd m1 284 14)))) ∧ rd m2 284 15 = rd m1 284 15 ∧ rd m2 284 16 = rd m1 284 16) : unRel m m2 := by
  have ft := ft_go g h.2.1 h.2.2
  have e11 := em.2.2.2 284 11 (by omega) (by omega)
  have e13 := em.2.2.2 284 13 (by omega) (by omega)
  have e44 := ft 284 44 (by omega)
  have c := em.1
  refine ⟨fun z => ⟨h0, by omega, by omega, ?_⟩, by omega, by omega, by omega, fun i j a b => (ft i j (by omega)).trans (em.2.2.2 i j (by omega) b)⟩
  rw [ft 314 _ (by omega), ft 315 _ (by omega), em.2.1, em.2.2.1]
  exact hk
theorem un_fail {m m2 : Mm} (h0 : 0 ≤ rd m 284 13) (g : GX sFt m m2) (h : ((rd m 284 13 = 0 ∧ rd m2 284 13 = 1 ∧ rd m2 284 14 = rd m 288 (Int.toNat (rd m 284 11))) ∨ (¬ rd m 284 13 = 0 ∧ rd m2 284 13 = rd m 284 13 ∧ rd m2 284 14 = rd m 284 14)) ∧ rd m2 284 11 = rd m 284 11 ∧ rd m2 284 15 = rd m 284 15 ∧ rd m2 284 16 = rd m 284 16) : unRel m m2 := by
  have ft := ft_go g h.2.2.1 h.2.2.2
  have e44 := ft 284 44 (by omega)
  exact ⟨fun z => by omega, by omega, by omega, by omega, fun i j a b => ft i j (by omega)⟩
/-- how many OPENs wait -/
def opn (m : Mm) : Nat → Int
  | 0 => 0
  | i + 1 => opn m i + (if rd m 316 i = 6 then 1 else 0)
theorem opn_fr {m m2 : Mm} : ∀ n : Nat, (∀ j, j < n → rd m2 316 j = rd m 316 j) → opn m2 n = opn m n
  | 0, _ => rfl
  | n + 1, h => by
    show opn m2 n + (if rd m2 316 n = 6 then 1 else 0) = opn m n + (if rd m 316 n = 6 then 1 else 0)
    rw [opn_fr n (fun j hj => h j (by omega)), h n (by omega)]
theorem opn_b (m : Mm) : ∀ n : Nat, 0 ≤ opn m n ∧ opn m n ≤ n
  | 0 => ⟨Int.le_refl 0, Int.le_refl 0⟩
  | n + 1 => by
    have := opn_b m n
    show 0 ≤ opn m n + (if rd m 316 n = 6 then 1 else 0) ∧ opn m n + (if rd m 316 n = 6 then 1 else 0) ≤ ((n + 1 : Nat) : Int)
    split <;> omega
theorem opn_6 {m : Mm} {w : Int} (hw : 0 < w) (h : rd m 316 (Int.toNat (w - 1)) = 6) : opn m (Int.toNat w) = opn m (Int.toNat (w - 1)) + 1 := by
  have e : Int.toNat w = Int.toNat (w - 1) + 1 := by omega
  rw [e]
  show opn m _ + (if rd m 316 _ = 6 then 1 else 0) = _
  rw [if_pos h]
theorem opn_n {m : Mm} {w : Int} (hw : 0 < w) (h : ¬ rd m 316 (Int.toNat (w - 1)) = 6) : opn m (Int.toNat w) = opn m (Int.toNat (w - 1)) := by
  have e : Int.toNat w = Int.toNat (w - 1) + 1 := by omega
  rw [e]
  show opn m _ + (if rd m 316 _ = 6 then 1 else 0) = _
  rw [if_neg h, Int.add_zero]
/-- how many numbers lie on the pile -/
def hgt (m : Mm) (a : Nat) : Nat → Int
  | 0 => 0
  | i + 1 => hgt m a i + (if rd m 314 (a + i) < 2 then 1 else -1)
theorem hgt_fr {m m2 : Mm} {a : Nat} : ∀ n : Nat, (∀ j, j < n → rd m2 314 (a + j) = rd m 314 (a + j)) → hgt m2 a n = hgt m a n
  | 0, _ => rfl
  | n + 1, h => by
    show hgt m2 a n + (if rd m2 314 (a + n) < 2 then 1 else -1) = hgt m a n + (if rd m 314 (a + n) < 2 then 1 else -1)
    rw [hgt_fr n (fun j hj => h j (by omega)), h n (by omega)]
/-- a waiting sign, with how many may stand below it -/
def wCo (m : Mm) (i : Nat) : Prop := (rd m 316 i = 6 ∧ (i : Int) + 1 ≤ 3 * opn m (i + 1)) ∨ ((rd m 316 i = 8 ∨ rd m 316 i = 9) ∧ (i : Int) + 1 ≤ 3 * opn m (i + 1) + 1) ∨ ((rd m 316 i = 10 ∨ rd m 316 i = 15) ∧ (i : Int) + 1 ≤ 3 * opn m (i + 1) + 2)
theorem wCo_fr {m m2 : Mm} {i : Nat} (h : wCo m i) (f : ∀ j, j < i + 1 → rd m2 316 j = rd m 316 j) : wCo m2 i := by
  unfold wCo
  rw [opn_fr (i + 1) f, f i (by omega)]
  exact h
def cCo (m : Mm) (a i : Nat) : Prop := (rd m 314 (a + i) < 2 ∧ (rd m 314 (a + i) = 1 → rd m 315 (a + i) ≤ 8)) ∨ (2 ≤ rd m 314 (a + i) ∧ 2 ≤ hgt m a i)
theorem cCo_fr {m m2 : Mm} {a i : Nat} (h : cCo m a i) (f4 : ∀ j, j < i + 1 → rd m2 314 (a + j) = rd m 314 (a + j)) (f5 : rd m2 315 (a + i) = rd m 315 (a + i)) : cCo m2 a i := by
  unfold cCo
  rw [f5, f4 i (by omega), hgt_fr i (fun j hj => f4 j (by omega))]
  exact h
/-- within a term: codes since a, k more numbers than signs that wait -/
def exI (m : Mm) (s a k : Int) : Prop := (0 ≤ a ∧ a ≤ rd m 284 44 ∧ 420 * s ≤ a ∧ 0 ≤ rd m 284 48) ∧ (∀ i : Nat, (i : Int) < rd m 284 44 - a → cCo m (Int.toNat a) i) ∧ hgt m (Int.toNat a) (Int.toNat (rd m 284 44 - a)) = rd m 284 48 - opn m (Int.toNat (rd m 284 48)) + k ∧ (∀ i : Nat, (i : Int) < rd m 284 48 → wCo m i) ∧ rd m 284 12 = opn m (Int.toNat (rd m 284 48)) ∧ rd m 284 12 ≤ 6 ∧ rd m 284 44 - 420 * s + (rd m 284 48 - opn m (Int.toNat (rd m 284 48))) ≤ rd m 284 11
theorem exI_w {m : Mm} {s a k : Int} (h : exI m s a k) : rd m 284 48 ≤ 3 * opn m (Int.toNat (rd m 284 48)) + 2 := by
  by_cases e : rd m 284 48 = 0
  · have := opn_b m (Int.toNat (rd m 284 48))
    omega
  · have h0 := h.1.2.2.2
    have q := h.2.2.2.1 (Int.toNat (rd m 284 48 - 1)) (by omega)
    have e1 : Int.toNat (rd m 284 48 - 1) + 1 = Int.toNat (rd m 284 48) := by omega
    unfold wCo at q
    rw [e1] at q
    omega
theorem exI_b {m : Mm} {s a k : Int} (h : exI m s a k) : 420 * s ≤ rd m 284 44 ∧ rd m 284 44 - 420 * s ≤ rd m 284 11 ∧ 0 ≤ rd m 284 48 ∧ rd m 284 48 ≤ 20 ∧ 0 ≤ rd m 284 12 ∧ rd m 284 12 ≤ 6 := by
  have w := exI_w h
  have b := opn_b m (Int.toNat (rd m 284 48))
  obtain ⟨h1, -, -, -, h5, h6, h7⟩ := h
  omega
theorem exI_fr {m m2 : Mm} {s a k : Int} (h : exI m s a k) (e44 : rd m2 284 44 = rd m 284 44) (e48 : rd m2 284 48 = rd m 284 48) (e12 : rd m2 284 12 = rd m 284 12) (e11 : rd m 284 11 ≤ rd m2 284 11) (f4 : ∀ j : Nat, (j : Int) < rd m 284 44 → rd m2 314 j = rd m 314 j) (f5 : ∀ j : Nat, (j : Int) < rd m 284 44 → rd m2 315 j = rd m 315 j) (f6 : ∀ j : Nat, (j : Int) < rd m 284 48 → rd m2 316 j = rd m 316 j) : exI m2 s a k := by
  have ho : opn m2 (Int.toNat (rd m 284 48)) = opn m (Int.toNat (rd m 284 48)) := opn_fr _ (fun j hj => f6 j (by omega))
  obtain ⟨h1, h2, h3, h4, h5, h6, h7⟩ := h
  unfold exI
  rw [e44, e48, e12, ho]
  refine ⟨h1, fun i hi => cCo_fr (h2 i hi) (fun j hj => f4 _ (by omega)) (f5 _ (by omega)), ?_, fun i hi => wCo_fr (h4 i hi) (fun j hj => f6 j (by omega)), h5, h6, by omega⟩
  rw [hgt_fr _ (fun j hj => f4 _ (by omega))]
  exact h3
theorem exI_unit {m m2 : Mm} {s a : Int} (h : exI m s a 0) (u : unRel m m2) (z : rd m2 284 13 = 0) : exI m2 s a 1 := by
  obtain ⟨h1, h2, h3, h4, h5, h6, h7⟩ := h
  obtain ⟨-, u1, u2, u3⟩ := u.1 z
  have fr := u.2.2.2.2
  have e48 := fr 284 48 (by omega) (by omega)
  have e12 := fr 284 12 (by omega) (by omega)
  have ho : opn m2 (Int.toNat (rd m 284 48)) = opn m (Int.toNat (rd m 284 48)) := opn_fr _ (fun j hj => fr 316 j (by omega) (by omega))
  have en : Int.toNat (rd m 284 44 + 1 - a) = Int.toNat (rd m 284 44 - a) + 1 := by omega
  have ec : Int.toNat a + Int.toNat (rd m 284 44 - a) = Int.toNat (rd m 284 44) := by omega
  unfold exI
  rw [e48, e12, ho, u2]
  refine ⟨by omega, fun i hi => ?_, ?_, fun i hi => wCo_fr (h4 i hi) (fun j hj => fr 316 j (by omega) (by omega)), h5, h6, by omega⟩
  · by_cases e : (i : Int) < rd m 284 44 - a
    · exact cCo_fr (h2 i e) (fun j hj => fr 314 _ (by omega) (by omega)) (fr 315 _ (by omega) (by omega))
    · have ei : Int.toNat a + i = Int.toNat (rd m 284 44) := by omega
      refine Or.inl ?_
      rw [ei]
      omega
  · rw [en]
    show hgt m2 _ _ + (if rd m2 314 _ < 2 then 1 else -1) = _
    rw [ec, if_pos (by omega), hgt_fr _ (fun j hj => fr 314 _ (by omega) (by omega)), h3]
    omega
theorem exI_emit {m m2 : Mm} {s a op : Int} (h : exI m s a 1) (hw : 0 < rd m 284 48) (ht : ¬ rd m 316 (Int.toNat (rd m 284 48 - 1)) = 6) (e48 : rd m2 284 48 = rd m 284 48 - 1) (e44 : rd m2 284 44 = rd m 284 44 + 1) (e4 : rd m2 314 (Int.toNat (rd m 284 44)) = op) (hop : 2 ≤ op) (fr : ∀ i j : Nat, ¬ (i = 284 ∧ (j = 44 ∨ j = 48)) → ¬ ((i = 314 ∨ i = 315) ∧ (j : Int) = rd m 284 44) → rd m2 i j = rd m i j) : exI m2 s a 1 ∧ opn m2 (Int.toNat (rd m2 284 48)) = opn m (Int.toNat (rd m 284 48)) := by
  have on := opn_n hw ht
  have ob := opn_b m (Int.toNat (rd m 284 48 - 1))
  obtain ⟨h1, h2, h3, h4, h5, h6, h7⟩ := h
  have e12 := fr 284 12 (by omega) (by omega)
  have e11 := fr 284 11 (by omega) (by omega)
  have ho : opn m2 (Int.toNat (rd m 284 48 - 1)) = opn m (Int.toNat (rd m 284 48)) := by rw [on]; exact opn_fr _ (fun j hj => fr 316 j (by omega) (by omega))
  have en : Int.toNat (rd m 284 44 + 1 - a) = Int.toNat (rd m 284 44 - a) + 1 := by omega
  have ec : Int.toNat a + Int.toNat (rd m 284 44 - a) = Int.toNat (rd m 284 44) := by omega
  have hh : hgt m2 (Int.toNat a) (Int.toNat (rd m 284 44 - a)) = hgt m (Int.toNat a) (Int.toNat (rd m 284 44 - a)) := hgt_fr _ (fun j hj => fr 314 _ (by omega) (by omega))
  refine ⟨?_, by rw [e48]; exact ho⟩
  unfold exI
  rw [e48, e12, e11, ho, e44]
  refine ⟨by omega, fun i hi => ?_, ?_, fun i hi => wCo_fr (h4 i (by omega)) (fun j hj => fr 316 j (by omega) (by omega)), h5, h6, by omega⟩
  · by_cases e : (i : Int) < rd m 284 44 - a
    · exact cCo_fr (h2 i e) (fun j hj => fr 314 _ (by omega) (by omega)) (fr 315 _ (by omega) (by omega))
    · have ei : Int.toNat a + i = Int.toNat (rd m 284 44) := by omega
      have ei2 : i = Int.toNat (rd m 284 44 - a) := by omega
      refine Or.inr ?_
      rw [ei, e4, ei2, hh]
      omega
  · rw [en]
    show hgt m2 _ _ + (if rd m2 314 _ < 2 then 1 else -1) = _
    rw [ec, e4, if_neg (by omega), hh, h3]
    omega
/-- signs come out -/
def coRel (m m2 : Mm) (s a : Int) : Prop := exI m2 s a 1 ∧ rd m2 284 48 ≤ rd m 284 48 ∧ opn m2 (Int.toNat (rd m2 284 48)) = opn m (Int.toNat (rd m 284 48)) ∧ rd m 284 44 ≤ rd m2 284 44 ∧ ∀ i j : Nat, ¬ (i = 284 ∧ (j = 44 ∨ j = 48)) → ¬ ((i = 314 ∨ i = 315) ∧ rd m 284 44 ≤ (j : Int)) → rd m2 i j = rd m i j
def coTop (m : Mm) (x : Int) : Prop := rd m 284 48 ≤ 0 ∨ (0 < rd m 284 48 ∧ (rd m 316 (Int.toNat (rd m 284 48 - 1)) = 6 ∨ (¬ x = 0 ∧ (rd m 316 (Int.toNat (rd m 284 48 - 1)) = 8 ∨ rd m 316 (Int.toNat (rd m 284 48 - 1)) = 9))))
theorem co_refl {m : Mm} {s a : Int} (h : exI m s a 1) : coRel m m s a := ⟨h, Int.le_refl _, rfl, Int.le_refl _, fun _ _ _ _ => rfl⟩
theorem co_out {m m1 m49 m85 : Mm} {s a op : Int} (h : coRel m m1 s a) (hw : 0 < rd m1 284 48) (h64 : rd m1 284 48 ≤ 64) (ht : ¬ rd m1 316 (Int.toNat (rd m1 284 48 - 1)) = 6) (e : m49 = wt m1 284 48 (wr (rd m1 284 48 - 1))) (em : emRel m49 m85 op 0) (hop : 2 ≤ op) : coRel m m85 s a ∧ rd m85 284 48 = rd m1 284 48 - 1 := by
  have w : wr (rd m1 284 48 - 1) = rd m1 284 48 - 1 := wr_id (by omega) (by omega)
  have c49 : rd m49 284 44 = rd m1 284 44 := by rw [e, rd_wt, if_neg (by omega)]
  obtain ⟨a1, a2, -, a4⟩ := em
  rw [c49] at a1 a2 a4
  have f : ∀ i j : Nat, ¬ (i = 284 ∧ (j = 44 ∨ j = 48)) → ¬ ((i = 314 ∨ i = 315) ∧ (j : Int) = rd m1 284 44) → rd m85 i j = rd m1 i j := fun i j p q => by
    rw [a4 i j (by omega) q, e, rd_wt, if_neg (by omega)]
  have e48 : rd m85 284 48 = rd m1 284 48 - 1 := by rw [a4 284 48 (by omega) (by omega), e, rd_wt, if_pos ⟨rfl, rfl⟩, w, w]
  have q := exI_emit h.1 hw ht e48 a1 a2 hop f
  have h2 := h.2.1
  have h4 := h.2.2.2.1
  exact ⟨⟨q.1, by omega, q.2.trans h.2.2.1, by omega, fun i j p r => (f i j p (by omega)).trans (h.2.2.2.2 i j p r)⟩, e48⟩
-- TippedCratesModel.emit(II)V
set_option maxRecDepth 20000 in
theorem ct_197 {m0 m : Mm} {x1 : Int} {x2 : Int}  (g_m : PX m0 m) (r_x1 : rg x1) (r_x2 : rg x2) (p0 : 0 ≤ x1 ∧ x1 ≤ 5) (p1 : 0 ≤ x2 ∧ x2 ≤ 9999) (p2 : 420 * rd m0 284 19 ≤ rd m 284 44 ∧ rd m 284 44 < 420 * rd m0 284 19 + 420) : CV 1 197 [.ref 284, iv x1, iv x2] m (fun m2 => PX m0 m2 ∧ (emRel m m2 x1 x2)) := by
  refine br_197 r_x1 r_x2 ?_
  unfold P_197
  have hs := PX.s g_m
  have t1 := ty_284_44 g_m.1
  refine ⟨⟨by omega, by omega⟩, ?_⟩
  intro m9 e_m9
  have g_m9 : PX m0 m9 := by rw [e_m9]; exact PX.wt g_m (tw_314 g_m.1 ⟨by omega, by omega⟩) (inP_420 (by omega) (by omega))
  have c9 : rd m9 284 44 = rd m 284 44 := by rw [e_m9, rd_wt, if_neg (by omega)]
  have t2 := ty_284_44 g_m9.1
  refine ⟨⟨by omega, by omega⟩, ?_⟩
  intro m19 e_m19
  have g_m19 : PX m0 m19 := by rw [e_m19]; exact PX.wt g_m9 (tw_315 g_m9.1 ⟨by omega, by omega⟩) (inP_420 (by omega) (by omega))
  have c19 : rd m19 284 44 = rd m 284 44 := by rw [e_m19, rd_wt, if_neg (by omega)]; exact c9
  have t3 := ty_284_44 g_m19.1
  try have w4 : wr ((rd m19 284 44) + 1) = (rd m19 284 44) + 1 := wr_id (by omega) (by omega)
  intro m27 e_m27
  have g_m27 : PX m0 m27 := by rw [e_m27]; exact PX.wt g_m19 (tw_284_44 g_m19.1 ⟨by omega, by omega⟩) (inP_284 (by omega))
  exact ⟨g_m27, by exact em_of r_x1 r_x2 (by omega) e_m9 e_m19 e_m27⟩
-- TippedCratesModel.unit()V
set_option maxRecDepth 20000 in
theorem ct_200 {m0 m : Mm}   (g_m : PX m0 m)  (p0 : 0 ≤ rd m 284 13) (p1 : rd m 284 13 = 0 → 420 * rd m0 284 19 ≤ rd m 284 44 ∧ rd m 284 44 - 420 * rd m0 284 19 ≤ rd m 284 11) : CV 3 200 [.ref 284] m (fun m2 => PX m0 m2 ∧ (unRel m m2)) := by
  refine br_200  ?_
  unfold P_200
  have hs := PX.s g_m
  have tt := ty_284_11 g_m.1
  refine CK.mono (ct_180   g_m.1 (by unfold rg; decide)) (by decide) ?_
  rintro m2 v2 r_v2 ⟨e_m2, h_m2⟩
  replace e_m2 := e_m2.symm
  subst e_m2
  refine ⟨fun m_93 => PX m0 m_93 ∧ (unRel m m_93), ?_, ?_⟩
  · skip
    refine ⟨fun hq => ?_, fun hq => ?_⟩
    · skip
      refine ⟨True, ?_, ?_⟩
      · skip
        refine ⟨fun hq => ?_, fun hq => ?_⟩
        · skip
          (first | trivial | omega | (refine ⟨?_, ?_⟩ <;> omega))
        · skip
          have t2 := ty_284_11 g_m.1
          refine ⟨⟨by omega, by omega⟩, ?_⟩
          have t3 := ty_287 g_m.1 (Int.toNat (rd m 284 11))
          refine ⟨fun hq => ?_, fun hq => ?_⟩
          · skip
            (first | trivial | omega | (refine ⟨?_, ?_⟩ <;> omega))
          · skip
            refine ⟨⟨by omega, by omega⟩, ?_⟩
            refine ⟨fun hq => ?_, fun hq => ?_⟩
            · skip
              (first | trivial | omega | (refine ⟨?_, ?_⟩ <;> omega))
            · skip
              refine ⟨⟨by omega, by omega⟩, ?_⟩
              try have w4 : wr ((rd m 287 (Int.toNat (rd m 284 11))) - 32) = (rd m 287 (Int.toNat (rd m 284 11))) - 32 := wr_id (by omega) (by omega)
              refine CV.mono (ct_197   g_m (by unfold rg; decide) (wr_rg _) (by omega) (by omega) (by omega)) (by decide) ?_
              rintro m78 ⟨g_m78, h_m78⟩
              have f78 : rd m78 284 13 = rd m 284 13 := h_m78.2.2.2 284 13 (by omega) (by omega)
              refine CV.mono (ct_183   g_m78.1 (by omega)) (by decide) ?_
              rintro m82 ⟨hx_m82, h_m82⟩
              have g_m82 : PX m0 m82 := PX.ft g_m78 hx_m82
              exact ⟨g_m82, by first | exact un_em (Or.inl rfl) (by omega) h_m19 hx_m23 h_m23 | exact un_em (Or.inr ⟨rfl, by omega⟩) (by omega) h_m78 hx_m82 h_m82 | exact un_fail p0 hx_m90 h_m90⟩
      · intro   hR_88
        refine CV.mono (ct_181   g_m.1 (by unfold rg; decide) (by omega) (by omega)) (by decide) ?_
        rintro m90 ⟨hx_m90, h_m90⟩
        have g_m90 : PX m0 m90 := PX.ft g_m hx_m90
        exact ⟨g_m90, by first | exact un_em (Or.inl rfl) (by omega) h_m19 hx_m23 h_m23 | exact un_em (Or.inr ⟨rfl, by omega⟩) (by omega) h_m78 hx_m82 h_m82 | exact un_fail p0 hx_m90 h_m90⟩
    · skip
      have t5 := ty_284_11 g_m.1
      refine ⟨⟨by omega, by omega⟩, ?_⟩
      have t6 := ty_289 g_m.1 (Int.toNat (rd m 284 11))
      refine CV.mono (ct_197   g_m (by unfold rg; decide) (rd_rg _ _ _) (by omega) (by omega) (by omega)) (by decide) ?_
      rintro m19 ⟨g_m19, h_m19⟩
      have f19 : rd m19 284 13 = rd m 284 13 := h_m19.2.2.2 284 13 (by omega) (by omega)
      refine CV.mono (ct_183   g_m19.1 (by omega)) (by decide) ?_
      rintro m23 ⟨hx_m23, h_m23⟩
      have g_m23 : PX m0 m23 := PX.ft g_m19 hx_m23
      exact ⟨g_m23, by first | exact un_em (Or.inl rfl) (by omega) h_m19 hx_m23 h_m23 | exact un_em (Or.inr ⟨rfl, by omega⟩) (by omega) h_m78 hx_m82 h_m82 | exact un_fail p0 hx_m90 h_m90⟩
  · intro m_93  hR_93
    obtain ⟨g_m_93, hR_93⟩ := hR_93
    exact ⟨g_m_93, by exact hR_93⟩
-- TippedCratesModel.comesOut(Z)V
set_option maxRecDepth 20000 in
theorem ct_198 {m0 m : Mm} {x1 : Int} {a : Int} (g_m : PX m0 m) (r_x1 : rg x1) (p0 : exI m (rd m0 284 19) a 1) : CV 2 198 [.ref 284, iv x1] m (fun m2 => PX m0 m2 ∧ (coRel m m2 (rd m0 284 19) a ∧ coTop m2 x1)) := by
  refine br_198 r_x1 ?_
  unfold P_198
  have hs := PX.s g_m
  refine ⟨fun m_0 => PX m0 m_0 ∧ (coRel m m_0 (rd m0 284 19) a), fun m_0 => Int.toNat (rd m_0 284 48), ?_, ?_⟩
  · exact ⟨g_m, by exact co_refl p0⟩
  · intro m_0  hI_0
    obtain ⟨g_m_0, hI_0⟩ := hI_0
    have t48 := ty_284_48 g_m_0.1
    have t11 := ty_284_11 g_m_0.1
    have eb := exI_b hI_0.1
    have t1 := ty_284_48 g_m_0.1
    refine ⟨fun hq => ?_, fun hq => ?_⟩
    · skip
      exact ⟨g_m_0, by first | exact ⟨hI_0, Or.inl (by omega)⟩ | exact ⟨hI_0, Or.inr ⟨by omega, by rw [← ez]; omega⟩⟩⟩
    · skip
      try have w2 : wr ((rd m_0 284 48) - 1) = (rd m_0 284 48) - 1 := wr_id (by omega) (by omega)
      refine ⟨⟨by omega, by omega⟩, ?_⟩
      intro z2_18 e_z2_18
      have r_z2_18 : rg z2_18 := by rw [e_z2_18]; exact (rd_rg _ _ _)
      have ez : z2_18 = rd m_0 316 (Int.toNat (rd m_0 284 48 - 1)) := by rw [e_z2_18, wr_id (by omega) (by omega)]
      refine ⟨0 < rd m_0 284 48 ∧ (z2_18 = 6 ∨ (¬ x1 = 0 ∧ (z2_18 = 8 ∨ z2_18 = 9))), ?_, ?_⟩
      · skip
        refine ⟨fun hq => ?_, fun hq => ?_⟩
        · skip
          (first | trivial | omega | (refine ⟨?_, ?_⟩ <;> omega))
        · skip
          refine ⟨¬ z2_18 = 6, ?_, ?_⟩
          · skip
            refine ⟨fun hq => ?_, fun hq => ?_⟩
            · skip
              (first | trivial | omega | (refine ⟨?_, ?_⟩ <;> omega))
            · skip
              refine ⟨fun hq => ?_, fun hq => ?_⟩
              · skip
                (first | trivial | omega | (refine ⟨?_, ?_⟩ <;> omega))
              · skip
                refine ⟨fun hq => ?_, fun hq => ?_⟩
                · skip
                  (first | trivial | omega | (refine ⟨?_, ?_⟩ <;> omega))
                · skip
                  (first | trivial | omega | (refine ⟨?_, ?_⟩ <;> omega))
          · intro   hR_42
            intro m49 e_m49
            have g_m49 : PX m0 m49 := by rw [e_m49]; exact PX.wt g_m_0 (tw_284_48 g_m_0.1 ⟨by omega, by omega⟩) (inP_284 (by omega))
            have c49 : rd m49 284 44 = rd m_0 284 44 := by rw [e_m49, rd_wt, if_neg (by omega)]
            refine ⟨fun s1_84 => (s1_84 = 2 ∨ s1_84 = 3 ∨ s1_84 = 4 ∨ s1_84 = 5), ?_, ?_⟩
            · skip
              refine ⟨fun hq => ?_, fun hq => ?_⟩
              · skip
                refine ⟨fun hq => ?_, fun hq => ?_⟩
                · skip
                  refine ⟨fun hq => ?_, fun hq => ?_⟩
                  · skip
                    (first | trivial | omega | (refine ⟨?_, ?_⟩ <;> omega))
                  · skip
                    (first | trivial | omega | (refine ⟨?_, ?_⟩ <;> omega))
                · skip
                  (first | trivial | omega | (refine ⟨?_, ?_⟩ <;> omega))
              · skip
                (first | trivial | omega | (refine ⟨?_, ?_⟩ <;> omega))
            · intro s1_84 r_s1_84 hR_84
              refine CV.mono (ct_197   g_m49 r_s1_84 (by unfold rg; decide) (by omega) (by omega) (by omega)) (by decide) ?_
              rintro m85 ⟨g_m85, h_m85⟩
              have co := co_out hI_0 (by omega) (by omega) (by omega) e_m49 h_m85 (by omega)
              have co2 := co.2
              exact ⟨⟨g_m85, by exact co.1⟩, by (try dsimp only); omega⟩
      · intro   hR_41
        exact ⟨g_m_0, by first | exact ⟨hI_0, Or.inl (by omega)⟩ | exact ⟨hI_0, Or.inr ⟨by omega, by rw [← ez]; omega⟩⟩⟩
