/-- a token is laid -/
def toM (m m2 : Mm) (k p v l : Int) : Prop := rd m2 284 10 = rd m 284 10 + 1 ∧ rd m2 287 (Int.toNat (rd m 284 10)) = k ∧ rd m2 288 (Int.toNat (rd m 284 10)) = p ∧ rd m2 289 (Int.toNat (rd m 284 10)) = v ∧ ld m2 290 (Int.toNat (rd m 284 10)) = l ∧ (∀ i j : Nat, ¬ (i = 284 ∧ j = 10) → ¬ ((287 ≤ i ∧ i ≤ 289) ∧ (j : Int) = rd m 284 10) → rd m2 i j = rd m i j) ∧ ∀ i j : Nat, ¬ (i = 290 ∧ (j : Int) = rd m 284 10) → ld m2 i j = ld m i j
theorem tm_of {m m9 m19 m29 m40 m48 : Mm} {x1 x2 x3 x4 : Int} (hn : 0 ≤ rd m 284 10 ∧ rd m 284 10 ≤ 401) (r1 : rg x1) (r2 : rg x2) (r3 : rg x3) (r4 : rgl x4) (e9 : m9 = wt m 287 (Int.toNat (rd m 284 10)) x1) (n9 : rd m9 284 10 = rd m 284 10) (e19 : m19 = wt m9 288 (Int.toNat (rd m9 284 10)) x2) (n19 : rd m19 284 10 = rd m 284 10) (e29 : m29 = wt m19 289 (Int.toNat (rd m19 284 10)) x3) (n29 : rd m29 284 10 = rd m 284 10) (e40 : m40 = wl m29 290 (Int.toNat (rd m29 284 10)) x4) (n40 : rd m40 284 10 = rd m 284 10) (e48 : m48 = wt m40 284 10 (wr ((rd m40 284 10) + 1))) : toM m m48 x1 x2 x3 x4 := by
  rw [n9] at e19
  rw [n19] at e29
  rw [n29] at e40
  rw [n40] at e48
  have w : wr (rd m 284 10 + 1) = rd m 284 10 + 1 := wr_id (by omega) (by omega)
  have F : ∀ i j : Nat, ¬ (i = 284 ∧ j = 10) → rd m48 i j = rd m29 i j := fun i j q => by rw [e48, rd_wt, if_neg q, e40, rd_wl]
  refine ⟨by rw [e48, rd_wt, if_pos ⟨rfl, rfl⟩, w, w], ?_, ?_, ?_, ?_, fun i j p q => ?_, fun i j q => ?_⟩
  · rw [F _ _ (by omega), e29, rd_wt, if_neg (by omega), e19, rd_wt, if_neg (by omega), e9, rd_wt, if_pos ⟨rfl, rfl⟩, wr_i r1]
  · rw [F _ _ (by omega), e29, rd_wt, if_neg (by omega), e19, rd_wt, if_pos ⟨rfl, rfl⟩, wr_i r2]
  · rw [F _ _ (by omega), e29, rd_wt, if_pos ⟨rfl, rfl⟩, wr_i r3]
  · rw [e48]
    show ld m40 290 _ = x4
    rw [e40, ld_wl, if_pos ⟨rfl, rfl⟩, wrl_id r4.1 r4.2]
  · rw [F i j p, e29, rd_wt, if_neg (by omega), e19, rd_wt, if_neg (by omega), e9, rd_wt, if_neg (by omega)]
  · rw [e48]
    show ld m40 i j = ld m i j
    rw [e40, ld_wl, if_neg (by omega), e29, e19, e9]
    rfl
def sgR (c k : Int) : Prop := (c = 59 ∧ k = 4) ∨ (c = 61 ∧ k = 5) ∨ (c = 40 ∧ k = 6) ∨ (c = 41 ∧ k = 7) ∨ (c = 43 ∧ k = 8) ∨ (c = 45 ∧ k = 9) ∨ (c = 42 ∧ k = 10) ∨ (c = 47 ∧ k = 15) ∨ (c = 60 ∧ k = 13) ∨ (¬ (c = 59 ∨ c = 61 ∨ c = 43 ∨ c = 45 ∨ c = 42 ∨ c = 47 ∨ c = 60 ∨ c = 40 ∨ c = 41) ∧ k = 3)
theorem sg_of {c s0 y1 y2 y3 y4 y5 : Int} (h0 : (c = 59 ∧ s0 = 4) ∨ (c = 61 ∧ s0 = 5) ∨ (c = 40 ∧ s0 = 6) ∨ (c = 41 ∧ s0 = 7) ∨ (¬ c = 59 ∧ ¬ c = 61 ∧ ¬ c = 40 ∧ ¬ c = 41 ∧ s0 = 3)) (h1 : (c = 43 ∧ y1 = 8) ∨ (¬ c = 43 ∧ y1 = s0)) (h2 : (c = 45 ∧ y2 = 9) ∨ (¬ c = 45 ∧ y2 = y1)) (h3 : (c = 42 ∧ y3 = 10) ∨ (¬ c = 42 ∧ y3 = y2)) (h4 : (c = 47 ∧ y4 = 15) ∨ (¬ c = 47 ∧ y4 = y3)) (h5 : (c = 60 ∧ y5 = 13) ∨ (¬ c = 60 ∧ y5 = y4)) : sgR c y5 := by
  unfold sgR
  rcases h5 with ⟨rfl, rfl⟩ | ⟨n5, rfl⟩
  · decide
  · rcases h4 with ⟨rfl, rfl⟩ | ⟨n4, rfl⟩
    · decide
    · rcases h3 with ⟨rfl, rfl⟩ | ⟨n3, rfl⟩
      · decide
      · rcases h2 with ⟨rfl, rfl⟩ | ⟨n2, rfl⟩
        · decide
        · rcases h1 with ⟨rfl, rfl⟩ | ⟨n1, rfl⟩
          · decide
          · rcases h0 with ⟨rfl, rfl⟩ | ⟨rfl, rfl⟩ | ⟨rfl, rfl⟩ | ⟨rfl, rfl⟩ | ⟨a, b, d, e, rfl⟩
            · decide
            · decide
            · decide
            · decide
            · refine Or.inr (Or.inr (Or.inr (Or.inr (Or.inr (Or.inr (Or.inr (Or.inr (Or.inr ⟨?_, rfl⟩))))))))
              rintro (q | q | q | q | q | q | q | q | q)
              · exact a q
              · exact b q
              · exact n1 q
              · exact n2 q
              · exact n3 q
              · exact n4 q
              · exact n5 q
              · exact d q
              · exact e q
/-- kinds of the class, of the model -/
def kmR (c k : Int) : Prop := (c = 23 ∧ k = 0) ∨ (c = 21 ∧ k = 1) ∨ (c = 22 ∧ k = 2) ∨ (c = 24 ∧ k = 3) ∨ (0 ≤ c ∧ c ≤ 20 ∧ k = c + 20) ∨ (c = 59 ∧ k = 4) ∨ (c = 61 ∧ k = 5) ∨ (c = 40 ∧ k = 6) ∨ (c = 41 ∧ k = 7) ∨ (c = 43 ∧ k = 8) ∨ (c = 45 ∧ k = 9) ∨ (c = 42 ∧ k = 10) ∨ (c = 47 ∧ k = 15) ∨ (c = 60 ∧ k = 13)
theorem km_21 : kmR 21 1 := Or.inr (Or.inl ⟨rfl, rfl⟩)
theorem km_22 : kmR 22 2 := Or.inr (Or.inr (Or.inl ⟨rfl, rfl⟩))
theorem km_24 : kmR 24 3 := Or.inr (Or.inr (Or.inr (Or.inl ⟨rfl, rfl⟩)))
theorem km_wd {c k : Int} (h : 0 ≤ c ∧ c ≤ 20) (e : k = c + 20) : kmR c k := Or.inr (Or.inr (Or.inr (Or.inr (Or.inl ⟨h.1, h.2, e⟩))))
theorem sg_km {c k x : Int} (s : sgR c k) (kk : (Sg c ∧ x = c) ∨ (¬ Sg c ∧ x = 24)) : kmR x k ∧ ¬ x = 22 ∧ ¬ x = 21 := by
  rcases s with ⟨rfl, rfl⟩ | ⟨rfl, rfl⟩ | ⟨rfl, rfl⟩ | ⟨rfl, rfl⟩ | ⟨rfl, rfl⟩ | ⟨rfl, rfl⟩ | ⟨rfl, rfl⟩ | ⟨rfl, rfl⟩ | ⟨rfl, rfl⟩ | ⟨hn, rfl⟩
  · rcases kk with ⟨-, rfl⟩ | ⟨h, -⟩
    · exact ⟨by unfold kmR; decide, by decide, by decide⟩
    · exact absurd (by unfold Sg; decide) h
  · rcases kk with ⟨-, rfl⟩ | ⟨h, -⟩
    · exact ⟨by unfold kmR; decide, by decide, by decide⟩
    · exact absurd (by unfold Sg; decide) h
  · rcases kk with ⟨-, rfl⟩ | ⟨h, -⟩
    · exact ⟨by unfold kmR; decide, by decide, by decide⟩
    · exact absurd (by unfold Sg; decide) h
  · rcases kk with ⟨-, rfl⟩ | ⟨h, -⟩
    · exact ⟨by unfold kmR; decide, by decide, by decide⟩
    · exact absurd (by unfold Sg; decide) h
  · rcases kk with ⟨-, rfl⟩ | ⟨h, -⟩
    · exact ⟨by unfold kmR; decide, by decide, by decide⟩
    · exact absurd (by unfold Sg; decide) h
  · rcases kk with ⟨-, rfl⟩ | ⟨h, -⟩
    · exact ⟨by unfold kmR; decide, by decide, by decide⟩
    · exact absurd (by unfold Sg; decide) h
  · rcases kk with ⟨-, rfl⟩ | ⟨h, -⟩
    · exact ⟨by unfold kmR; decide, by decide, by decide⟩
    · exact absurd (by unfold Sg; decide) h
  · rcases kk with ⟨-, rfl⟩ | ⟨h, -⟩
    · exact ⟨by unfold kmR; decide, by decide, by decide⟩
    · exact absurd (by unfold Sg; decide) h
  · rcases kk with ⟨-, rfl⟩ | ⟨h, -⟩
    · exact ⟨by unfold kmR; decide, by decide, by decide⟩
    · exact absurd (by unfold Sg; decide) h
  · rcases kk with ⟨h, -⟩ | ⟨-, rfl⟩
    · exact absurd h hn
    · exact ⟨km_24, by decide, by decide⟩
/-- token j: the class's in m0, the model's in m -/
def mat (m0 m : Mm) (j : Nat) : Prop := rd m 288 j = rd m0 3 j ∧ kmR (rd m0 2 j) (rd m 287 j) ∧ (rd m0 2 j = 22 → rd m 289 j = ld m0 4 j) ∧ (rd m0 2 j = 21 → ld m 290 j = ld m0 4 j)
def tkM (m0 m : Mm) : Prop := ∃ N : Int, (0 ≤ N ∧ N ≤ 401) ∧ (∀ j : Nat, (j : Int) < N → mat m0 m j ∧ ¬ rd m0 2 j = 23) ∧ (N ≤ 400 → mat m0 m (Int.toNat N) ∧ rd m0 2 (Int.toNat N) = 23) ∧ ∀ j : Nat, (j : Int) < N → j + 1 ≤ 400 → rd m0 3 j < rd m0 3 (j + 1)
def leI (P : Int → Prop) (b : Nat → Int) (n i c : Int) : Prop := (0 ≤ c ∧ i + c ≤ n ∧ 0 ≤ i) ∧ ∀ q : Nat, i ≤ q → (q : Int) < i + c → P (b q)
theorem le_0 {P : Int → Prop} {b : Nat → Int} {n i : Int} (h : 0 ≤ i ∧ i ≤ n) : leI P b n i 0 := ⟨by omega, fun q a c => by omega⟩
theorem le_s {P : Int → Prop} {b : Nat → Int} {n i c : Int} (h : leI P b n i c) (hn : i + c < n) (hp : P (b (Int.toNat (i + c)))) : leI P b n i (c + 1) := by
  have a := h.1
  refine ⟨by omega, fun q x y => ?_⟩
  by_cases z : (q : Int) < i + c
  · exact h.2 q x z
  · rw [show q = Int.toNat (i + c) by omega]; exact hp
theorem le_e {P : Int → Prop} {b : Nat → Int} {n i c : Int} (h : leI P b n i c) (he : i + c < n → ¬ P (b (Int.toNat (i + c)))) : rnE P b n i (i + c) := ⟨by have := h.1; omega, h.2, he⟩
theorem le_nm {b : Nat → Int} {n i c : Int} (h : leI Lt b n i c) (h0 : 0 ≤ i) : 0 ≤ nmV b (Int.toNat i) (Int.toNat (min c 8)) ∧ nmV b (Int.toNat i) (Int.toNat (min c 8)) ≤ 282429536481 :=
  nm_8 (by omega) (fun k hk => h.2 _ (by omega) (by have := h.1; omega))
theorem le_dg {b : Nat → Int} {n i c : Int} (h : leI Dg b n i c) (h0 : 0 ≤ i) : 0 ≤ dgV b (Int.toNat i) (Int.toNat (min c 4)) ∧ dgV b (Int.toNat i) (Int.toNat (min c 4)) ≤ 9999 :=
  dv_4 (by omega) (fun k hk => h.2 _ (by omega) (by have := h.1; omega))
theorem le_n8 {b : Nat → Int} {i c : Int} (h : 8 ≤ c) : nmV b (Int.toNat i) (Int.toNat (min c 8)) = nmV b (Int.toNat i) (Int.toNat (min (c + 1) 8)) := by
  rw [show min c 8 = 8 by omega, show min (c + 1) 8 = 8 by omega]
theorem le_d4 {b : Nat → Int} {i c : Int} (h : 4 ≤ c) : dgV b (Int.toNat i) (Int.toNat (min c 4)) = dgV b (Int.toNat i) (Int.toNat (min (c + 1) 4)) := by
  rw [show min c 4 = 4 by omega, show min (c + 1) 4 = 4 by omega]
theorem le_n {b : Nat → Int} {i c : Int} (h0 : 0 ≤ i) (h1 : 0 ≤ c) (h2 : c ≤ 7) : nmV b (Int.toNat i) (Int.toNat (min (c + 1) 8)) = nmV b (Int.toNat i) (Int.toNat (min c 8)) * 27 + (b (Int.toNat (i + c)) - 96) := by
  rw [show Int.toNat (min (c + 1) 8) = Int.toNat (min c 8) + 1 by omega]
  show nmV b _ _ * 27 + (b (Int.toNat i + Int.toNat (min c 8)) - 96) = _
  rw [show Int.toNat i + Int.toNat (min c 8) = Int.toNat (i + c) by omega]
theorem le_d {b : Nat → Int} {i c : Int} (h0 : 0 ≤ i) (h1 : 0 ≤ c) (h2 : c ≤ 3) : dgV b (Int.toNat i) (Int.toNat (min (c + 1) 4)) = dgV b (Int.toNat i) (Int.toNat (min c 4)) * 10 + (b (Int.toNat (i + c)) - 48) := by
  rw [show Int.toNat (min (c + 1) 4) = Int.toNat (min c 4) + 1 by omega]
  show dgV b _ _ * 10 + (b (Int.toNat i + Int.toNat (min c 4)) - 48) = _
  rw [show Int.toNat i + Int.toNat (min c 4) = Int.toNat (i + c) by omega]
theorem lt_in {a n v x : Int} (h : (a < n → v = x) ∧ (n ≤ a → v = 0)) (hv : ¬ v = 0) : a < n := by
  by_cases q : a < n
  · exact q
  · exact absurd (h.2 (by omega)) hv
/-- the cutting at i: tokens so far are as the class's, blanks since the last -/
def cuI (b : Nat → Int) (n : Int) (m0 m : Mm) (N : Int) (E : Nat → Int) (i : Int) : Prop := (0 ≤ i ∧ i ≤ n) ∧ (0 ≤ rd m 284 10 ∧ rd m 284 10 ≤ N) ∧ (∀ j : Nat, (j : Int) < rd m 284 10 → mat m0 m j) ∧ (0 ≤ E (Int.toNat (rd m 284 10)) ∧ E (Int.toNat (rd m 284 10)) ≤ i) ∧ ∀ q : Nat, E (Int.toNat (rd m 284 10)) ≤ q → (q : Int) < i → Bl (b q)
section CUT
variable {b : Nat → Int} {n : Int} {w : Nat → Int} {m0 m m2 : Mm} {N : Int} {E : Nat → Int} {i : Int}
theorem cu_0 {mz : Mm} (hN : 0 ≤ N ∧ N ≤ 401) (hT : tkS b n w m0 N E) (h : 0 ≤ n) (e : m2 = wt mz 284 10 0) : cuI b n m0 m2 N E 0 := by
  have k : rd m2 284 10 = 0 := by rw [e, rd_wt, if_pos ⟨rfl, rfl⟩]; rfl
  unfold cuI
  rw [k]
  exact ⟨by omega, by omega, fun j h => by omega, by show 0 ≤ E 0 ∧ E 0 ≤ 0; rw [hT.1]; omega, fun q a c => by omega⟩
theorem cu_b (h : cuI b n m0 m N E i) (hi : i < n) (hb : Bl (b (Int.toNat i))) : cuI b n m0 m N E (i + 1) := by
  obtain ⟨h1, h2, h3, h4, h5⟩ := h
  refine ⟨by omega, h2, h3, by omega, fun q a c => ?_⟩
  by_cases z : (q : Int) < i
  · exact h5 q a z
  · rw [show q = Int.toNat i by omega]; exact hb
theorem cu_at (hN : 0 ≤ N ∧ N ≤ 401) (hT : tkS b n w m0 N E) (hE : N ≤ 400 → rnE Bl b n (E (Int.toNat N)) (rd m0 3 (Int.toNat N)) ∧ rd m0 3 (Int.toNat N) = n ∧ rd m0 2 (Int.toNat N) = 23) (h : cuI b n m0 m N E i) (hi : i < n) (hb : ¬ Bl (b (Int.toNat i))) (hk : rd m 284 10 ≤ 400) : rd m 284 10 < N ∧ rd m0 3 (Int.toNat (rd m 284 10)) = i := by
  obtain ⟨h1, h2, h3, h4, h5⟩ := h
  have rn : rnE Bl b n (E (Int.toNat (rd m 284 10))) i := ⟨⟨h4.2, by omega⟩, h5, fun _ => hb⟩
  by_cases z : rd m 284 10 < N
  · exact ⟨z, rnE_u h4.1 (hT.2 _ (by omega)).1 rn⟩
  · exfalso
    have ez : rd m 284 10 = N := by omega
    have q := hE (by omega)
    rw [ez] at rn h4
    have := rnE_u h4.1 q.1 rn
    omega
theorem cu_push {k v l e : Int} (hN : 0 ≤ N ∧ N ≤ 401) (h : cuI b n m0 m N E i) (hz : rd m 284 10 < N) (h3 : rd m0 3 (Int.toNat (rd m 284 10)) = i) (he : E (Int.toNat (rd m 284 10) + 1) = e) (hen : i ≤ e ∧ e ≤ n) (hk : kmR (rd m0 2 (Int.toNat (rd m 284 10))) k) (hv : rd m0 2 (Int.toNat (rd m 284 10)) = 22 → v = ld m0 4 (Int.toNat (rd m 284 10))) (hl : rd m0 2 (Int.toNat (rd m 284 10)) = 21 → l = ld m0 4 (Int.toNat (rd m 284 10))) (t : toM m m2 k i v l) : cuI b n m0 m2 N E e ∧ rd m2 284 10 = rd m 284 10 + 1 := by
  obtain ⟨g1, g2, g3, g4, g5⟩ := h
  obtain ⟨t1, t2, t3, t4, t5, t6, t7⟩ := t
  have en : Int.toNat (rd m2 284 10) = Int.toNat (rd m 284 10) + 1 := by omega
  refine ⟨⟨by omega, by omega, fun j hj => ?_, by rw [en, he]; omega, fun q a c => by rw [en, he] at a; omega⟩, t1⟩
  by_cases z : (j : Int) < rd m 284 10
  · have q := g3 j z
    unfold mat
    rw [t6 288 j (by omega) (by omega), t6 287 j (by omega) (by omega), t6 289 j (by omega) (by omega), t7 290 j (by omega)]
    exact q
  · have ej : j = Int.toNat (rd m 284 10) := by omega
    subst ej
    exact ⟨by rw [t3, h3], by rw [t2]; exact hk, fun q => by rw [t4]; exact hv q, fun q => by rw [t5]; exact hl q⟩
theorem cu_sg (hN : 0 ≤ N ∧ N ≤ 401) (hT : tkS b n w m0 N E) (hE : N ≤ 400 → rnE Bl b n (E (Int.toNat N)) (rd m0 3 (Int.toNat N)) ∧ rd m0 3 (Int.toNat N) = n ∧ rd m0 2 (Int.toNat N) = 23) (h : cuI b n m0 m N E i) (hi : i < n) (hb : ¬ Bl (b (Int.toNat i))) (hl : ¬ Lt (b (Int.toNat i))) (hd : ¬ Dg (b (Int.toNat i))) (hk : rd m 284 10 ≤ 400) (t : ∃ k : Int, sgR (b (Int.toNat i)) k ∧ toM m m2 k i 0 0) : cuI b n m0 m2 N E (i + 1) ∧ rd m2 284 10 = rd m 284 10 + 1 := by
  obtain ⟨k, s, t⟩ := t
  have a := cu_at hN hT hE h hi hb hk
  have tf := (hT.2 (Int.toNat (rd m 284 10)) (by have := h.2.1; omega)).2.2
  rw [a.2] at tf
  have h1 := h.1
  rcases tf with ⟨q, -⟩ | ⟨-, q, -⟩ | ⟨-, -, e, kk⟩
  · exact absurd q hl
  · exact absurd q hd
  · have z := sg_km s kk
    exact cu_push hN h a.1 a.2 e (by omega) z.1 (fun q => absurd q z.2.1) (fun q => absurd q z.2.2) t
theorem cu_dg {c k v : Int} (hN : 0 ≤ N ∧ N ≤ 401) (hT : tkS b n w m0 N E) (hE : N ≤ 400 → rnE Bl b n (E (Int.toNat N)) (rd m0 3 (Int.toNat N)) ∧ rd m0 3 (Int.toNat N) = n ∧ rd m0 2 (Int.toNat N) = 23) (h : cuI b n m0 m N E i) (hi : i < n) (hb : ¬ Bl (b (Int.toNat i))) (hl : ¬ Lt (b (Int.toNat i))) (hd : Dg (b (Int.toNat i))) (hk : rd m 284 10 ≤ 400) (rn : rnE Dg b n i (i + c)) (hs : (c ≤ 4 ∧ k = 2) ∨ (4 < c ∧ k = 3)) (hv : v = dgV b (Int.toNat i) (Int.toNat (min c 4))) (t : toM m m2 k i v 0) : cuI b n m0 m2 N E (i + c) ∧ rd m2 284 10 = rd m 284 10 + 1 := by
  have a := cu_at hN hT hE h hi hb hk
  have tf := (hT.2 (Int.toNat (rd m 284 10)) (by have := h.2.1; omega)).2.2
  rw [a.2] at tf
  have h1 := h.1
  rcases tf with ⟨q, -⟩ | ⟨-, -, r, kk⟩ | ⟨-, q, -⟩
  · exact absurd q hl
  · have e := rnE_u h1.1 r rn
    rw [e] at kk
    have e4 : i + c - i = c := by omega
    rw [e4] at kk
    rcases kk with ⟨k1, k2⟩ | ⟨k1, k2, k3⟩
    · have ek : k = 3 := by omega
      subst ek
      exact cu_push hN h a.1 a.2 e (by have := rn.1; omega) (by rw [k2]; exact km_24) (fun q => by omega) (fun q => by omega) t
    · have ek : k = 2 := by omega
      subst ek
      exact cu_push hN h a.1 a.2 e (by have := rn.1; omega) (by rw [k3]; exact km_22) (fun q => by rw [k2, hv, show min c 4 = c by omega]) (fun q => by omega) t
  · exact absurd hd q
theorem cu_lt {c k v : Int} (hN : 0 ≤ N ∧ N ≤ 401) (hT : tkS b n w m0 N E) (hE : N ≤ 400 → rnE Bl b n (E (Int.toNat N)) (rd m0 3 (Int.toNat N)) ∧ rd m0 3 (Int.toNat N) = n ∧ rd m0 2 (Int.toNat N) = 23) (h : cuI b n m0 m N E i) (hi : i < n) (hb : ¬ Bl (b (Int.toNat i))) (hl : Lt (b (Int.toNat i))) (hk : rd m 284 10 ≤ 400) (rn : rnE Lt b n i (i + c)) (hw : ∀ p q : Nat, p < 21 → q < 21 → w p = w q → p = q) (hs : (8 < c ∧ k = 3) ∨ (c ≤ 8 ∧ ((k = 1 ∧ ∀ q : Nat, q < 21 → ¬ w q = v) ∨ ∃ q : Nat, q < 21 ∧ w q = v ∧ k = q + 20))) (hv : v = nmV b (Int.toNat i) (Int.toNat (min c 8))) (t : toM m m2 k i 0 v) : cuI b n m0 m2 N E (i + c) ∧ rd m2 284 10 = rd m 284 10 + 1 := by
  have a := cu_at hN hT hE h hi hb hk
  have tf := (hT.2 (Int.toNat (rd m 284 10)) (by have := h.2.1; omega)).2.2
  rw [a.2] at tf
  have h1 := h.1
  rcases tf with ⟨-, r, kk⟩ | ⟨q, -⟩ | ⟨q, -⟩
  · have e := rnE_u h1.1 r rn
    rw [e] at kk
    have e4 : i + c - i = c := by omega
    rw [e4] at kk
    have hc := rn.1
    rcases kk with ⟨k1, k2⟩ | ⟨k1, k2, k3⟩
    · have ek : k = 3 := by
        rcases hs with ⟨-, y⟩ | ⟨y, -⟩
        · exact y
        · omega
      subst ek
      exact cu_push hN h a.1 a.2 e (by omega) (by rw [k2]; exact km_24) (fun q => by omega) (fun q => by omega) t
    · have ev : v = ld m0 4 (Int.toNat (rd m 284 10)) := by rw [k2, hv, show min c 8 = c by omega]
      rw [← ev] at k3
      have hs2 := hs.resolve_left (by omega)
      refine cu_push hN h a.1 a.2 e (by omega) ?_ (fun q => by rcases k3 with ⟨z1, z2, -⟩ | ⟨z1, -⟩ <;> omega) (fun _ => ev) t
      rcases k3 with ⟨z1, z2, z3, z4⟩ | ⟨z1, z2⟩
      · rcases hs2.2 with ⟨-, y⟩ | ⟨q, y1, y2, y3⟩
        · exact absurd z3 (y _ (by omega))
        · have := hw q (Int.toNat (rd m0 2 (Int.toNat (rd m 284 10)))) y1 (by omega) (y2.trans z3.symm)
          exact km_wd ⟨z1, z2⟩ (by omega)
      · rcases hs2.2 with ⟨y, -⟩ | ⟨q, y1, y2, -⟩
        · rw [z1, y]
          exact km_21
        · exact absurd y2 (z2 q y1)
  · exact absurd hl q
  · exact absurd hl q
theorem tk_inc (hN : 0 ≤ N ∧ N ≤ 401) (hT : tkS b n w m0 N E) (hE : N ≤ 400 → rnE Bl b n (E (Int.toNat N)) (rd m0 3 (Int.toNat N)) ∧ rd m0 3 (Int.toNat N) = n ∧ rd m0 2 (Int.toNat N) = 23) (j : Nat) (hj : (j : Int) < N) : ¬ rd m0 2 j = 23 ∧ (j + 1 ≤ 400 → rd m0 3 j < rd m0 3 (j + 1)) := by
  obtain ⟨a1, a2, a3⟩ := hT.2 j hj
  have lt : rd m0 3 j < E (j + 1) := by
    rcases a3 with ⟨q, r, -⟩ | ⟨-, q, r, -⟩ | ⟨-, -, r, -⟩
    · by_cases z : rd m0 3 j = E (j + 1)
      · rw [← z] at r
        exact absurd q (r.2.2 a2)
      · have := r.1; omega
    · by_cases z : rd m0 3 j = E (j + 1)
      · rw [← z] at r
        exact absurd q (r.2.2 a2)
      · have := r.1; omega
    · omega
  refine ⟨?_, fun h4 => ?_⟩
  · rcases a3 with ⟨-, -, ⟨-, r⟩ | ⟨-, -, ⟨r1, r2, -⟩ | ⟨r, -⟩⟩⟩ | ⟨-, -, -, ⟨-, r⟩ | ⟨-, -, r⟩⟩ | ⟨-, -, -, ⟨r1, r⟩ | ⟨-, r⟩⟩
    · omega
    · omega
    · omega
    · omega
    · omega
    · intro w
      rw [← r, w] at r1
      exact absurd r1 (by unfold Sg; decide)
    · omega
  · by_cases z : ((j + 1 : Nat) : Int) < N
    · have := (hT.2 (j + 1) z).1.1
      omega
    · have ez : Int.toNat N = j + 1 := by omega
      have q := (hE (by omega)).1.1
      rw [ez] at q
      omega
theorem cu_full (hN : 0 ≤ N ∧ N ≤ 401) (hT : tkS b n w m0 N E) (h : cuI b n m0 m N E i) (hk : 401 ≤ rd m 284 10) : tkM m0 m := by
  have h2 := h.2.1
  have hE : N ≤ 400 → rnE Bl b n (E (Int.toNat N)) (rd m0 3 (Int.toNat N)) ∧ rd m0 3 (Int.toNat N) = n ∧ rd m0 2 (Int.toNat N) = 23 := fun q => by omega
  exact ⟨N, hN, fun j hj => ⟨h.2.2.1 j (by omega), (tk_inc hN hT hE j hj).1⟩, fun q => by omega, fun j hj h4 => (tk_inc hN hT hE j hj).2 h4⟩
theorem cu_end (hN : 0 ≤ N ∧ N ≤ 401) (hT : tkS b n w m0 N E) (hE : N ≤ 400 → rnE Bl b n (E (Int.toNat N)) (rd m0 3 (Int.toNat N)) ∧ rd m0 3 (Int.toNat N) = n ∧ rd m0 2 (Int.toNat N) = 23) (h : cuI b n m0 m N E i) (hi : n ≤ i) (hk : rd m 284 10 ≤ 400) (t : toM m m2 0 n 0 0) : tkM m0 m2 := by
  obtain ⟨h1, h2, h3, h4, h5⟩ := h
  obtain ⟨t1, t2, t3, t4, t5, t6, t7⟩ := t
  have ei : i = n := by omega
  have rn : rnE Bl b n (E (Int.toNat (rd m 284 10))) n := ⟨⟨by omega, Int.le_refl _⟩, fun k a c => h5 k a (by omega), fun q => by omega⟩
  have ez : rd m 284 10 = N := by
    by_cases z : rd m 284 10 < N
    · have q := hT.2 (Int.toNat (rd m 284 10)) (by omega)
      have := rnE_u h4.1 q.1 rn
      omega
    · omega
  have q := hE (by omega)
  rw [ez] at t2 t3 t4 t5 t6 t7 h3
  refine ⟨N, hN, fun j hj => ⟨?_, (tk_inc hN hT hE j hj).1⟩, fun _ => ⟨⟨by rw [t3, q.2.1], by rw [t2, q.2.2]; exact Or.inl ⟨rfl, rfl⟩, fun z => by omega, fun z => by omega⟩, q.2.2⟩, fun j hj h4 => (tk_inc hN hT hE j hj).2 h4⟩
  have g := h3 j hj
  unfold mat
  rw [t6 288 j (by omega) (by omega), t6 287 j (by omega) (by omega), t6 289 j (by omega) (by omega), t7 290 j (by omega)]
  exact g
end CUT
def kwR (w : Nat → Int) (c v k : Int) : Prop := (8 < c ∧ k = 3) ∨ (c ≤ 8 ∧ ((k = 1 ∧ ∀ q : Nat, q < 21 → ¬ w q = v) ∨ ∃ q : Nat, q < 21 ∧ w q = v ∧ k = q + 20))
theorem km_w {w : Nat → Int} {x6 x7 x4 c : Int} (h : (0 ≤ x7 ∧ x7 ≤ 21) ∧ ((x6 = 1 ∧ ∀ q : Nat, (q : Int) < x7 → ¬ w q = x4) ∨ ∃ q : Nat, (q : Int) < x7 ∧ w q = x4 ∧ x6 = q + 20)) (h7 : 21 ≤ x7) (hc : c ≤ 8) : 0 ≤ x6 ∧ x6 ≤ 40 ∧ kwR w c x4 x6 := by
  rcases h.2 with ⟨a, g⟩ | ⟨q, a, g, e⟩
  · exact ⟨by omega, by omega, Or.inr ⟨hc, Or.inl ⟨a, fun q hq => g q (by omega)⟩⟩⟩
  · exact ⟨by omega, by omega, Or.inr ⟨hc, Or.inr ⟨q, by omega, g, e⟩⟩⟩
theorem km_k {w : Nat → Int} {x6 x7 x4 : Int} (h : (x6 = 1 ∧ ∀ q : Nat, (q : Int) < x7 → ¬ w q = x4) ∨ ∃ q : Nat, (q : Int) < x7 ∧ w q = x4 ∧ x6 = q + 20) (h7 : 0 ≤ x7) (hn : ¬ w (Int.toNat x7) = x4) : (x6 = 1 ∧ ∀ q : Nat, (q : Int) < x7 + 1 → ¬ w q = x4) ∨ ∃ q : Nat, (q : Int) < x7 + 1 ∧ w q = x4 ∧ x6 = q + 20 := by
  rcases h with ⟨a, g⟩ | ⟨q, a, g, e⟩
  · refine Or.inl ⟨a, fun q hq => ?_⟩
    by_cases z : (q : Int) < x7
    · exact g q z
    · rw [show q = Int.toNat x7 by omega]; exact hn
  · exact Or.inr ⟨q, by omega, g, e⟩
-- TippedCratesModel.appends(JI)J
set_option maxRecDepth 20000 in
theorem mx_175 {m : Mm} {x0 : Int} {x2 : Int}   (r_x0 : rgl x0) (r_x2 : rg x2) (p0 : 97 ≤ x2 ∧ x2 ≤ 122) (p1 : 0 ≤ x0 ∧ x0 ≤ 1000000000000) : CL 1 175 [lv x0, iv x2] m (fun m2 v => m2 = m ∧ (v = x0 * 27 + (x2 - 96))) := by
  refine br_175 r_x0 r_x2 ?_
  unfold P_175
  refine ⟨fun s0_21 => s0_21 = x0 * 27 + (x2 - 96), ?_, ?_⟩
  · skip
    refine ⟨fun hq => ?_, fun hq => ?_⟩
    · skip
      try have w1 : wrl (27 * x0) = 27 * x0 := wrl_id (by omega) (by omega)
      try have w2 : wr (x2 - 97) = x2 - 97 := wr_id (by omega) (by omega)
      try have w3 : wr ((wr (x2 - 97)) + 1) = (wr (x2 - 97)) + 1 := wr_id (by omega) (by omega)
      try have w4 : wrl ((wrl (27 * x0)) + (wr ((wr (x2 - 97)) + 1))) = (wrl (27 * x0)) + (wr ((wr (x2 - 97)) + 1)) := wrl_id (by omega) (by omega)
      try have w1 : wrl (27 * x0) = 27 * x0 := wrl_id (by omega) (by omega)
      try have w2 : wr (x2 - 97) = x2 - 97 := wr_id (by omega) (by omega)
      try have w3 : wr ((wr (x2 - 97)) + 1) = x2 - 96 := by rw [w2, wr_id (by omega) (by omega)]; omega
      try have w4 : wrl ((wrl (27 * x0)) + (wr ((wr (x2 - 97)) + 1))) = x0 * 27 + (x2 - 96) := by rw [w1, w3, wrl_id (by omega) (by omega)]; omega
      (first | trivial | omega | (refine ⟨?_, ?_⟩ <;> omega))
    · skip
      try have w1 : wrl (27 * x0) = 27 * x0 := wrl_id (by omega) (by omega)
      try have w2 : wr (x2 - 97) = x2 - 97 := wr_id (by omega) (by omega)
      try have w3 : wr ((wr (x2 - 97)) + 1) = x2 - 96 := by rw [w2, wr_id (by omega) (by omega)]; omega
      try have w4 : wrl ((wrl (27 * x0)) + (wr ((wr (x2 - 97)) + 1))) = x0 * 27 + (x2 - 96) := by rw [w1, w3, wrl_id (by omega) (by omega)]; omega
      (first | trivial | omega | (refine ⟨?_, ?_⟩ <;> omega))
  · intro s0_21 r_s0_21 hR_21
    exact ⟨rfl, by exact hR_21⟩
-- TippedCratesModel.token(IIIJ)V
set_option maxRecDepth 20000 in
theorem mx_177 {m0 m : Mm} {x1 : Int} {x2 : Int} {x3 : Int} {x4 : Int}  (g_m : DX m0 m) (r_x1 : rg x1) (r_x2 : rg x2) (r_x3 : rg x3) (r_x4 : rgl x4) (p0 : 0 ≤ x1 ∧ x1 ≤ 40) (p1 : 0 ≤ x3 ∧ x3 ≤ 9999) (p2 : rd m 284 10 ≤ 401) : CV 1 177 [.ref 284, iv x1, iv x2, iv x3, lv x4] m (fun m2 => DX m0 m2 ∧ (toM m m2 x1 x2 x3 x4)) := by
  refine br_177 r_x1 r_x2 r_x3 r_x4 ?_
  unfold P_177
  have tt := ty_284_10 g_m.1
  have t1 := ty_284_10 g_m.1
  refine ⟨⟨by omega, by omega⟩, ?_⟩
  intro m9 e_m9
  have g_m9 : DX m0 m9 := by rw [e_m9]; exact DX.wt g_m (tw_287 g_m.1 ⟨by omega, by omega⟩) (Eq.refl true)
  have n9 : rd m9 284 10 = rd m 284 10 := by rw [e_m9, rd_wt, if_neg (by omega)]
  have t2 := ty_284_10 g_m9.1
  refine ⟨⟨by omega, by omega⟩, ?_⟩
  intro m19 e_m19
  have g_m19 : DX m0 m19 := by rw [e_m19]; exact DX.wt g_m9 (tw_288 g_m9.1 (by first | assumption | omega)) (Eq.refl true)
  have n19 : rd m19 284 10 = rd m 284 10 := by rw [e_m19, rd_wt, if_neg (by omega)]; exact n9
  have t3 := ty_284_10 g_m19.1
  refine ⟨⟨by omega, by omega⟩, ?_⟩
  intro m29 e_m29
  have g_m29 : DX m0 m29 := by rw [e_m29]; exact DX.wt g_m19 (tw_289 g_m19.1 ⟨by omega, by omega⟩) (Eq.refl true)
  have n29 : rd m29 284 10 = rd m 284 10 := by rw [e_m29, rd_wt, if_neg (by omega)]; exact n19
  have t4 := ty_284_10 g_m29.1
  refine ⟨⟨by omega, by omega⟩, ?_⟩
  intro m40 e_m40
  have g_m40 : DX m0 m40 := by rw [e_m40]; exact DX.wl g_m29
  have n40 : rd m40 284 10 = rd m 284 10 := by rw [e_m40, rd_wl]; exact n29
  have t5 := ty_284_10 g_m40.1
  try have w6 : wr ((rd m40 284 10) + 1) = (rd m40 284 10) + 1 := wr_id (by omega) (by omega)
  intro m48 e_m48
  have g_m48 : DX m0 m48 := by rw [e_m48]; exact DX.wt g_m40 (tw_284_10 g_m40.1 ⟨by omega, by omega⟩) (Eq.refl true)
  exact ⟨g_m48, by exact tm_of (by omega) r_x1 r_x2 r_x3 r_x4 e_m9 n9 e_m19 n19 e_m29 n29 e_m40 n40 e_m48⟩
-- TippedCratesModel.sign(III)I
set_option maxRecDepth 20000 in
theorem mx_179 {m0 m : Mm} {x1 : Int} {x2 : Int} {x3 : Int}  (g_m : DX m0 m) (r_x1 : rg x1) (r_x2 : rg x2) (r_x3 : rg x3) (p0 : rd m 284 10 ≤ 401) : CK 2 179 [.ref 284, iv x1, iv x2, iv x3] m (fun m2 v => DX m0 m2 ∧ (v = 1 ∧ ∃ k : Int, sgR x2 k ∧ toM m m2 k x1 0 0)) := by
  refine br_179 r_x1 r_x2 r_x3 ?_
  unfold P_179
  refine ⟨fun s0_43 => (x2 = 59 ∧ s0_43 = 4) ∨ (x2 = 61 ∧ s0_43 = 5) ∨ (x2 = 40 ∧ s0_43 = 6) ∨ (x2 = 41 ∧ s0_43 = 7) ∨ (¬ x2 = 59 ∧ ¬ x2 = 61 ∧ ¬ x2 = 40 ∧ ¬ x2 = 41 ∧ s0_43 = 3), ?_, ?_⟩
  · skip
    refine ⟨fun hq => ?_, fun hq => ?_⟩
    · skip
      refine ⟨fun hq => ?_, fun hq => ?_⟩
      · skip
        refine ⟨fun hq => ?_, fun hq => ?_⟩
        · skip
          refine ⟨fun hq => ?_, fun hq => ?_⟩
          · skip
            (first | trivial | omega | (refine ⟨?_, ?_⟩ <;> omega))
          · skip
            (first | trivial | omega | (refine ⟨?_, ?_⟩ <;> omega))
        · skip
          (first | trivial | omega | (refine ⟨?_, ?_⟩ <;> omega))
      · skip
        (first | trivial | omega | (refine ⟨?_, ?_⟩ <;> omega))
    · skip
      (first | trivial | omega | (refine ⟨?_, ?_⟩ <;> omega))
  · intro s0_43 r_s0_43 hR_43
    refine ⟨fun y4_55 => (x2 = 43 ∧ y4_55 = 8) ∨ (¬ x2 = 43 ∧ y4_55 = s0_43), ?_, ?_⟩
    · skip
      refine ⟨fun hq => ?_, fun hq => ?_⟩
      · skip
        (first | trivial | omega | (refine ⟨?_, ?_⟩ <;> omega))
      · skip
        (first | trivial | omega | (refine ⟨?_, ?_⟩ <;> omega))
    · intro y4_55 r_y4_55 hR_55
      refine ⟨fun y4_65 => (x2 = 45 ∧ y4_65 = 9) ∨ (¬ x2 = 45 ∧ y4_65 = y4_55), ?_, ?_⟩
      · skip
        refine ⟨fun hq => ?_, fun hq => ?_⟩
        · skip
          (first | trivial | omega | (refine ⟨?_, ?_⟩ <;> omega))
        · skip
          (first | trivial | omega | (refine ⟨?_, ?_⟩ <;> omega))
      · intro y4_65 r_y4_65 hR_65
        refine ⟨fun y4_75 => (x2 = 42 ∧ y4_75 = 10) ∨ (¬ x2 = 42 ∧ y4_75 = y4_65), ?_, ?_⟩
        · skip
          refine ⟨fun hq => ?_, fun hq => ?_⟩
          · skip
            (first | trivial | omega | (refine ⟨?_, ?_⟩ <;> omega))
          · skip
            (first | trivial | omega | (refine ⟨?_, ?_⟩ <;> omega))
        · intro y4_75 r_y4_75 hR_75
          refine ⟨fun y4_85 => (x2 = 47 ∧ y4_85 = 15) ∨ (¬ x2 = 47 ∧ y4_85 = y4_75), ?_, ?_⟩
          · skip
            refine ⟨fun hq => ?_, fun hq => ?_⟩
            · skip
              (first | trivial | omega | (refine ⟨?_, ?_⟩ <;> omega))
            · skip
              (first | trivial | omega | (refine ⟨?_, ?_⟩ <;> omega))
          · intro y4_85 r_y4_85 hR_85
            refine ⟨fun y4_95 => (x2 = 60 ∧ y4_95 = 13) ∨ (¬ x2 = 60 ∧ y4_95 = y4_85), ?_, ?_⟩
            · skip
              refine ⟨fun hq => ?_, fun hq => ?_⟩
              · skip
                (first | trivial | omega | (refine ⟨?_, ?_⟩ <;> omega))
              · skip
                (first | trivial | omega | (refine ⟨?_, ?_⟩ <;> omega))
            · intro y4_95 r_y4_95 hR_95
              refine CV.mono (mx_177   g_m r_y4_95 r_x1 (by unfold rg; decide) (by unfold rgl; decide) (by omega) (by omega) (by omega)) (by decide) ?_
              rintro m101 ⟨g_m101, h_m101⟩
              exact ⟨g_m101, by exact ⟨rfl, y4_95, sg_of hR_43 hR_55 hR_65 hR_75 hR_85 hR_95, h_m101⟩⟩
-- TippedCratesModel.cut()V
set_option maxRecDepth 20000 in
theorem mx_178 {m0 m : Mm}  {b : Nat → Int} {n : Int} {w : Nat → Int} (g_m : DX m0 m)  (p0 : tksC b n w m0) (p1 : rd m0 284 4 = n) (p2 : ∀ j : Nat, (j : Int) < n → uB m0 286 j = b j) (p3 : ∀ q : Nat, q < 21 → ld m0 291 q = w q) (p4 : ∀ p q : Nat, p < 21 → q < 21 → w p = w q → p = q) : CV 3 178 [.ref 284] m (fun m2 => DX m0 m2 ∧ (tkM m0 m2)) := by
  refine br_178  ?_
  unfold P_178
  have ts := ty_284_4 g_m.1
  have zs : rd m 284 4 = n := (g_m.2.1 284 4 rfl).trans p1
  obtain ⟨N, E, hN, hT, hE⟩ := p0
  have bv : ∀ (m1 : Mm) (j : Nat), DX m0 m1 → (j : Int) < n → anI (rd m1 286 j) 255 = b j := fun m1 j g h => by rw [g.2.1 286 j rfl]; exact p2 j h
  intro m2 e_m2
  have g_m2 : DX m0 m2 := by rw [e_m2]; exact DX.wt g_m (tw_284_10 g_m.1 ⟨by omega, by omega⟩) (Eq.refl true)
  refine ⟨fun x1_7 m_7 => DX m0 m_7 ∧ (cuI b n m0 m_7 N E x1_7), fun x1_7 m_7 => Int.toNat (2000 - x1_7) + Int.toNat (402 - rd m_7 284 10), ?_, ?_⟩
  · exact ⟨g_m2, by exact cu_0 hN hT (by omega) e_m2⟩
  · intro x1_7 m_7 r_x1_7 hI_7
    obtain ⟨g_m_7, hI_7⟩ := hI_7
    have t10 := ty_284_10 g_m_7.1
    have z7 : rd m_7 284 4 = n := (g_m_7.2.1 284 4 rfl).trans p1
    have i7 := hI_7.1
    have k7 := hI_7.2.1
    have b7 := fun h => bv m_7 (Int.toNat x1_7) g_m_7 h
    have t1 := ty_284_10 g_m_7.1
    refine ⟨fun hq => ?_, fun hq => ?_⟩
    · skip
      exact ⟨g_m_7, by first | exact cu_full hN hT hI_7 (by omega) | exact p39⟩
    · skip
      refine CK.mono (ct_172   g_m_7.1 r_x1_7 (by omega)) (by decide) ?_
      rintro m19 v19 r_v19 ⟨e_m19, h_m19⟩
      replace e_m19 := e_m19.symm
      subst e_m19
      have c19 : x1_7 < n → v19 = b (Int.toNat x1_7) := fun h => by have := b7 (by omega); rw [← this]; rcases h_m19.2.2 with q | q; exact q.2; omega
      have t2 := ty_284_4 g_m_7.1
      refine ⟨fun hq => ?_, fun hq => ?_⟩
      · skip
        refine ⟨fun y1_291 m_291 => DX m0 m_291 ∧ (cuI b n m0 m_291 N E y1_291 ∧ x1_7 ≤ y1_291 ∧ ((x1_7 < y1_291 ∧ rd m_291 284 10 = rd m_7 284 10) ∨ rd m_291 284 10 = rd m_7 284 10 + 1)), ?_, ?_⟩
        · skip
          refine ⟨Bl v19, ?_, ?_⟩
          · skip
            refine ⟨fun hq => ?_, fun hq => ?_⟩
            · skip
              ((unfold Bl; omega))
            · skip
              refine ⟨fun hq => ?_, fun hq => ?_⟩
              · skip
                ((unfold Bl; omega))
              · skip
                refine ⟨fun hq => ?_, fun hq => ?_⟩
                · skip
                  ((unfold Bl; omega))
                · skip
                  refine ⟨fun hq => ?_, fun hq => ?_⟩
                  · skip
                    refine CK.mono (ct_174   r_v19) (by decide) ?_
                    rintro m74 v74 r_v74 ⟨e_m74, h_m74⟩
                    replace e_m74 := e_m74.symm
                    subst e_m74
                    refine ⟨fun hq => ?_, fun hq => ?_⟩
                    · skip
                      refine CK.mono (ct_173   r_v19) (by decide) ?_
                      rintro m197 v197 r_v197 ⟨e_m197, h_m197⟩
                      replace e_m197 := e_m197.symm
                      subst e_m197
                      refine ⟨fun hq => ?_, fun hq => ?_⟩
                      · skip
                        try have w3 : wr (x1_7 + 1) = x1_7 + 1 := wr_id (by omega) (by omega)
                        refine CK.mono (ct_172   g_m_7.1 (wr_rg _) (by omega)) (by decide) ?_
                        rintro m283 v283 r_v283 ⟨e_m283, h_m283⟩
                        replace e_m283 := e_m283.symm
                        subst e_m283
                        refine CK.mono (mx_179   g_m_7 r_x1_7 r_v19 r_v283 (by omega)) (by decide) ?_
                        rintro m286 v286 r_v286 ⟨g_m286, h_m286⟩
                        have p286 := cu_sg hN hT hE hI_7 (by omega) (by rw [← c19 (by omega)]; unfold Bl; omega) (by rw [← c19 (by omega)]; unfold Lt; omega) (by rw [← c19 (by omega)]; unfold Dg; omega) (by omega) (by rw [← c19 (by omega)]; exact h_m286.2)
                        try have w4 : wr (x1_7 + v286) = x1_7 + v286 := wr_id (by omega) (by omega)
                        intro z1_290 e_z1_290
                        have r_z1_290 : rg z1_290 := by rw [e_z1_290]; exact (wr_rg _)
                        exact ⟨g_m286, by first | exact ⟨by rw [e_z1_67, wr_id (by omega) (by omega)]; exact cu_b hI_7 (by omega) (by rw [← c19 (by omega)]; exact hR_67), by omega, Or.inl ⟨by omega, rfl⟩⟩ | exact ⟨by rw [e_z1_290, h_m286.1, wr_id (by omega) (by omega)]; exact p286.1, by rw [e_z1_290, h_m286.1, wr_id (by omega) (by omega)]; omega, Or.inr p286.2⟩ | exact ⟨by rw [e_z1_271, wr_id (by omega) (by omega)]; exact p265.1, by omega, Or.inr p265.2⟩ | exact ⟨by rw [e_z1_192, wr_id (by omega) (by omega)]; exact p186.1, by omega, Or.inr p186.2⟩⟩
                      · skip
                        refine ⟨fun x3_208 x4_208 m_208 => DX m0 m_208 ∧ (m_208 = m_7 ∧ leI Dg b n x1_7 x3_208 ∧ x4_208 = dgV b (Int.toNat x1_7) (Int.toNat (min x3_208 4))), fun x3_208 x4_208 m_208 => Int.toNat (2000 - x3_208), ?_, ?_⟩
                        · exact ⟨g_m_7, by exact ⟨rfl, le_0 (by omega), rfl⟩⟩
                        · intro x3_208 x4_208 m_208 r_x3_208 r_x4_208 hI_208
                          obtain ⟨g_m_208, hI_208⟩ := hI_208
                          obtain ⟨q208, hI_208⟩ := hI_208
                          subst q208
                          have l208 := hI_208.1.1
                          have b208 := fun h => bv m_208 (Int.toNat (x1_7 + x3_208)) g_m_208 h
                          have xb := le_dg hI_208.1 (by omega)
                          rw [← hI_208.2] at xb
                          try have w5 : wr (x1_7 + x3_208) = x1_7 + x3_208 := wr_id (by omega) (by omega)
                          refine CK.mono (ct_172   g_m_208.1 (wr_rg _) (by omega)) (by decide) ?_
                          rintro m212 v212 r_v212 ⟨e_m212, h_m212⟩
                          replace e_m212 := e_m212.symm
                          subst e_m212
                          have c212 : (x1_7 + x3_208 < n → v212 = b (Int.toNat (x1_7 + x3_208))) ∧ (n ≤ x1_7 + x3_208 → v212 = 0) := by
                            rw [wr_id (x := x1_7 + x3_208) (by omega) (by omega)] at h_m212
                            refine ⟨fun h => ?_, fun h => by omega⟩
                            have := b208 (by omega)
                            rw [← this]
                            rcases h_m212.2.2 with q | q
                            · exact q.2
                            · omega
                          refine CK.mono (ct_173   r_v212) (by decide) ?_
                          rintro m215 v215 r_v215 ⟨e_m215, h_m215⟩
                          replace e_m215 := e_m215.symm
                          subst e_m215
                          refine ⟨fun hq => ?_, fun hq => ?_⟩
                          · skip
                            refine ⟨fun s1_261 => (x3_208 ≤ 4 ∧ s1_261 = 2) ∨ (4 < x3_208 ∧ s1_261 = 3), ?_, ?_⟩
                            · skip
                              refine ⟨fun hq => ?_, fun hq => ?_⟩
                              · skip
                                (omega)
                              · skip
                                (omega)
                            · intro s1_261 r_s1_261 hR_261
                              refine CV.mono (mx_177   g_m_208 r_s1_261 r_x1_7 r_x4_208 (by unfold rgl; decide) (by omega) (by omega) (by omega)) (by decide) ?_
                              rintro m265 ⟨g_m265, h_m265⟩
                              have p265 := cu_dg hN hT hE hI_7 (by omega) (by rw [← c19 (by omega)]; unfold Bl; omega) (by rw [← c19 (by omega)]; unfold Lt; omega) (by rw [← c19 (by omega)]; unfold Dg; omega) (by omega) (le_e hI_208.1 (fun h => by rw [← c212.1 h]; unfold Dg; omega)) (k := s1_261) (v := x4_208) (by omega) hI_208.2 h_m265
                              intro z1_271 e_z1_271
                              have r_z1_271 : rg z1_271 := by rw [e_z1_271]; exact (wr_rg _)
                              exact ⟨g_m265, by first | exact ⟨by rw [e_z1_67, wr_id (by omega) (by omega)]; exact cu_b hI_7 (by omega) (by rw [← c19 (by omega)]; exact hR_67), by omega, Or.inl ⟨by omega, rfl⟩⟩ | exact ⟨by rw [e_z1_290, h_m286.1, wr_id (by omega) (by omega)]; exact p286.1, by rw [e_z1_290, h_m286.1, wr_id (by omega) (by omega)]; omega, Or.inr p286.2⟩ | exact ⟨by rw [e_z1_271, wr_id (by omega) (by omega)]; exact p265.1, by omega, Or.inr p265.2⟩ | exact ⟨by rw [e_z1_192, wr_id (by omega) (by omega)]; exact p186.1, by omega, Or.inr p186.2⟩⟩
                          · skip
                            refine ⟨fun y4_244 m_244 => DX m0 m_244 ∧ (m_244 = m_208 ∧ x1_7 + x3_208 < n ∧ Dg (b (Int.toNat (x1_7 + x3_208))) ∧ y4_244 = dgV b (Int.toNat x1_7) (Int.toNat (min (x3_208 + 1) 4))), ?_, ?_⟩
                            · skip
                              refine ⟨fun hq => ?_, fun hq => ?_⟩
                              · skip
                                exact ⟨g_m_208, by first | exact ⟨rfl, lt_in c212 (by omega), by rw [← c212.1 (lt_in c212 (by omega))]; unfold Dg; omega, by rw [hI_208.2]; exact le_d4 (by omega)⟩ | exact ⟨rfl, lt_in c212 (by omega), by rw [← c212.1 (lt_in c212 (by omega))]; unfold Dg; omega, by rw [le_d (b := b) (by omega) (by omega) (by omega : x3_208 ≤ 3), ← hI_208.2, ← c212.1 (lt_in c212 (by omega)), ← c235]; omega⟩⟩
                              · skip
                                refine CK.mono (ct_172   g_m_208.1 (wr_rg _) (by omega)) (by decide) ?_
                                rintro m235 v235 r_v235 ⟨e_m235, h_m235⟩
                                replace e_m235 := e_m235.symm
                                subst e_m235
                                have c235 : v235 = v212 := by
                                  rw [wr_id (x := x1_7 + x3_208) (by omega) (by omega)] at h_m212 h_m235
                                  omega
                                try have w6 : wr (10 * x4_208) = 10 * x4_208 := wr_id (by omega) (by omega)
                                try have w7 : wr ((wr (10 * x4_208)) + v235) = (wr (10 * x4_208)) + v235 := wr_id (by omega) (by omega)
                                try have w8 : wr ((wr ((wr (10 * x4_208)) + v235)) - 48) = (wr ((wr (10 * x4_208)) + v235)) - 48 := wr_id (by omega) (by omega)
                                intro z4_242 e_z4_242
                                have r_z4_242 : rg z4_242 := by rw [e_z4_242]; exact (wr_rg _)
                                exact ⟨g_m_208, by first | exact ⟨rfl, lt_in c212 (by omega), by rw [← c212.1 (lt_in c212 (by omega))]; unfold Dg; omega, by rw [hI_208.2]; exact le_d4 (by omega)⟩ | exact ⟨rfl, lt_in c212 (by omega), by rw [← c212.1 (lt_in c212 (by omega))]; unfold Dg; omega, by rw [le_d (b := b) (by omega) (by omega) (by omega : x3_208 ≤ 3), ← hI_208.2, ← c212.1 (lt_in c212 (by omega)), ← c235]; omega⟩⟩
                            · intro y4_244 m_244 r_y4_244 hR_244
                              obtain ⟨g_m_244, hR_244⟩ := hR_244
                              try have w9 : wr (x3_208 + 1) = x3_208 + 1 := wr_id (by omega) (by omega)
                              intro z3_244 e_z3_244
                              have r_z3_244 : rg z3_244 := by rw [e_z3_244]; exact wr_rg _
                              have l244 := hR_244.2.1
                              exact ⟨⟨g_m_244, by exact ⟨hR_244.1, by rw [e_z3_244, wr_id (by omega) (by omega)]; exact le_s hI_208.1 hR_244.2.1 hR_244.2.2.1, by rw [e_z3_244, wr_id (by omega) (by omega)]; exact hR_244.2.2.2⟩⟩, by (try dsimp only); omega⟩
                    · skip
                      refine ⟨fun x3_85 x4_85 m_85 => DX m0 m_85 ∧ (m_85 = m_7 ∧ leI Lt b n x1_7 x3_85 ∧ x4_85 = nmV b (Int.toNat x1_7) (Int.toNat (min x3_85 8))), fun x3_85 x4_85 m_85 => Int.toNat (2000 - x3_85), ?_, ?_⟩
                      · exact ⟨g_m_7, by exact ⟨rfl, le_0 (by omega), rfl⟩⟩
                      · intro x3_85 x4_85 m_85 r_x3_85 r_x4_85 hI_85
                        obtain ⟨g_m_85, hI_85⟩ := hI_85
                        obtain ⟨q85, hI_85⟩ := hI_85
                        subst q85
                        have l85 := hI_85.1.1
                        have b85 := fun h => bv m_85 (Int.toNat (x1_7 + x3_85)) g_m_85 h
                        have xb := le_nm hI_85.1 (by omega)
                        rw [← hI_85.2] at xb
                        try have w10 : wr (x1_7 + x3_85) = x1_7 + x3_85 := wr_id (by omega) (by omega)
                        refine CK.mono (ct_172   g_m_85.1 (wr_rg _) (by omega)) (by decide) ?_
                        rintro m89 v89 r_v89 ⟨e_m89, h_m89⟩
                        replace e_m89 := e_m89.symm
                        subst e_m89
                        have c89 : (x1_7 + x3_85 < n → v89 = b (Int.toNat (x1_7 + x3_85))) ∧ (n ≤ x1_7 + x3_85 → v89 = 0) := by
                          rw [wr_id (x := x1_7 + x3_85) (by omega) (by omega)] at h_m89
                          refine ⟨fun h => ?_, fun h => by omega⟩
                          have := b85 (by omega)
                          rw [← this]
                          rcases h_m89.2.2 with q | q
                          · exact q.2
                          · omega
                        refine CK.mono (ct_174   r_v89) (by decide) ?_
                        rintro m92 v92 r_v92 ⟨e_m92, h_m92⟩
                        replace e_m92 := e_m92.symm
                        subst e_m92
                        refine ⟨fun hq => ?_, fun hq => ?_⟩
                        · skip
                          refine ⟨fun s0_135 => (x3_85 ≤ 8 ∧ s0_135 = 1) ∨ (8 < x3_85 ∧ s0_135 = 3), ?_, ?_⟩
                          · skip
                            refine ⟨fun hq => ?_, fun hq => ?_⟩
                            · skip
                              (omega)
                            · skip
                              (omega)
                          · intro s0_135 r_s0_135 hR_135
                            refine ⟨fun y6_179 => 0 ≤ y6_179 ∧ y6_179 ≤ 40 ∧ kwR w x3_85 x4_85 y6_179, ?_, ?_⟩
                            · skip
                              refine ⟨fun hq => ?_, fun hq => ?_⟩
                              · skip
                                (first | exact ⟨by omega, by omega, Or.inl ⟨by omega, by omega⟩⟩ | exact km_w hI_146 (by omega) (by omega))
                              · skip
                                refine ⟨fun x6_146 x7_146 => (0 ≤ x7_146 ∧ x7_146 ≤ 21) ∧ ((x6_146 = 1 ∧ ∀ q : Nat, (q : Int) < x7_146 → ¬ w q = x4_85) ∨ ∃ q : Nat, (q : Int) < x7_146 ∧ w q = x4_85 ∧ x6_146 = q + 20), fun x6_146 x7_146 => Int.toNat (21 - x7_146), ?_, ?_⟩
                                · exact ⟨by omega, Or.inl ⟨by omega, fun q h => by omega⟩⟩
                                · intro x6_146 x7_146 r_x6_146 r_x7_146 hI_146
                                  refine ⟨fun hq => ?_, fun hq => ?_⟩
                                  · skip
                                    (first | exact ⟨by omega, by omega, Or.inl ⟨by omega, by omega⟩⟩ | exact km_w hI_146 (by omega) (by omega))
                                  · skip
                                    refine ⟨⟨by omega, by omega⟩, ?_⟩
                                    refine ⟨fun y6_173 => (y6_173 = 1 ∧ ∀ q : Nat, (q : Int) < x7_146 + 1 → ¬ w q = x4_85) ∨ ∃ q : Nat, (q : Int) < x7_146 + 1 ∧ w q = x4_85 ∧ y6_173 = q + 20, ?_, ?_⟩
                                    · skip
                                      refine ⟨fun hq => ?_, fun hq => ?_⟩
                                      · skip
                                        have kv : ld m_85 291 (Int.toNat x7_146) = w (Int.toNat x7_146) := (g_m_85.2.2 291 _ (by omega)).trans (p3 _ (by omega))
                                        (first | exact km_k hI_146.2 (by omega) (fun e => hq (by rw [lcm_z]; rw [kv]; exact e)) | exact Or.inr ⟨Int.toNat x7_146, by omega, by rw [← kv]; exact lcm_z.mp hq, by omega⟩)
                                      · skip
                                        try have w11 : wr (20 + x7_146) = 20 + x7_146 := wr_id (by omega) (by omega)
                                        intro z6_171 e_z6_171
                                        have r_z6_171 : rg z6_171 := by rw [e_z6_171]; exact (wr_rg _)
                                        have kv : ld m_85 291 (Int.toNat x7_146) = w (Int.toNat x7_146) := (g_m_85.2.2 291 _ (by omega)).trans (p3 _ (by omega))
                                        (first | exact km_k hI_146.2 (by omega) (fun e => hq (by rw [lcm_z]; rw [kv]; exact e)) | exact Or.inr ⟨Int.toNat x7_146, by omega, by rw [← kv]; exact lcm_z.mp hq, by omega⟩)
                                    · intro y6_173 r_y6_173 hR_173
                                      try have w12 : wr (x7_146 + 1) = x7_146 + 1 := wr_id (by omega) (by omega)
                                      intro z7_173 e_z7_173
                                      have r_z7_173 : rg z7_173 := by rw [e_z7_173]; exact wr_rg _
                                      exact ⟨by exact ⟨by omega, by rw [e_z7_173, wr_id (by omega) (by omega)]; exact hR_173⟩, by (try dsimp only); omega⟩
                            · intro y6_179 r_y6_179 hR_179
                              refine CV.mono (mx_177   g_m_85 r_y6_179 r_x1_7 (by unfold rg; decide) r_x4_85 (by omega) (by omega) (by omega)) (by decide) ?_
                              rintro m186 ⟨g_m186, h_m186⟩
                              have p186 := cu_lt hN hT hE hI_7 (by omega) (by rw [← c19 (by omega)]; unfold Bl; omega) (by rw [← c19 (by omega)]; unfold Lt; omega) (by omega) (le_e hI_85.1 (fun h => by rw [← c89.1 h]; unfold Lt; omega)) p4 hR_179.2.2 hI_85.2 h_m186
                              intro z1_192 e_z1_192
                              have r_z1_192 : rg z1_192 := by rw [e_z1_192]; exact (wr_rg _)
                              exact ⟨g_m186, by first | exact ⟨by rw [e_z1_67, wr_id (by omega) (by omega)]; exact cu_b hI_7 (by omega) (by rw [← c19 (by omega)]; exact hR_67), by omega, Or.inl ⟨by omega, rfl⟩⟩ | exact ⟨by rw [e_z1_290, h_m286.1, wr_id (by omega) (by omega)]; exact p286.1, by rw [e_z1_290, h_m286.1, wr_id (by omega) (by omega)]; omega, Or.inr p286.2⟩ | exact ⟨by rw [e_z1_271, wr_id (by omega) (by omega)]; exact p265.1, by omega, Or.inr p265.2⟩ | exact ⟨by rw [e_z1_192, wr_id (by omega) (by omega)]; exact p186.1, by omega, Or.inr p186.2⟩⟩
                        · skip
                          refine ⟨fun y4_118 m_118 => DX m0 m_118 ∧ (m_118 = m_85 ∧ x1_7 + x3_85 < n ∧ Lt (b (Int.toNat (x1_7 + x3_85))) ∧ y4_118 = nmV b (Int.toNat x1_7) (Int.toNat (min (x3_85 + 1) 8))), ?_, ?_⟩
                          · skip
                            refine ⟨fun hq => ?_, fun hq => ?_⟩
                            · skip
                              exact ⟨g_m_85, by first | exact ⟨rfl, lt_in c89 (by omega), by rw [← c89.1 (lt_in c89 (by omega))]; unfold Lt; omega, by rw [hI_85.2]; exact le_n8 (by omega)⟩ | exact ⟨rfl, lt_in c89 (by omega), by rw [← c89.1 (lt_in c89 (by omega))]; unfold Lt; omega, by rw [h_m113, c110, c89.1 (lt_in c89 (by omega)), hI_85.2]; exact (le_n (by omega) (by omega) (by omega)).symm⟩⟩
                            · skip
                              refine CK.mono (ct_172   g_m_85.1 (wr_rg _) (by omega)) (by decide) ?_
                              rintro m110 v110 r_v110 ⟨e_m110, h_m110⟩
                              replace e_m110 := e_m110.symm
                              subst e_m110
                              have c110 : v110 = v89 := by
                                rw [wr_id (x := x1_7 + x3_85) (by omega) (by omega)] at h_m89 h_m110
                                omega
                              refine CL.mono (mx_175   r_x4_85 r_v110 (by omega) (by omega)) (by decide) ?_
                              rintro m113 v113 r_v113 ⟨e_m113, h_m113⟩
                              replace e_m113 := e_m113.symm
                              subst e_m113
                              exact ⟨g_m_85, by first | exact ⟨rfl, lt_in c89 (by omega), by rw [← c89.1 (lt_in c89 (by omega))]; unfold Lt; omega, by rw [hI_85.2]; exact le_n8 (by omega)⟩ | exact ⟨rfl, lt_in c89 (by omega), by rw [← c89.1 (lt_in c89 (by omega))]; unfold Lt; omega, by rw [h_m113, c110, c89.1 (lt_in c89 (by omega)), hI_85.2]; exact (le_n (by omega) (by omega) (by omega)).symm⟩⟩
                          · intro y4_118 m_118 r_y4_118 hR_118
                            obtain ⟨g_m_118, hR_118⟩ := hR_118
                            try have w13 : wr (x3_85 + 1) = x3_85 + 1 := wr_id (by omega) (by omega)
                            intro z3_118 e_z3_118
                            have r_z3_118 : rg z3_118 := by rw [e_z3_118]; exact wr_rg _
                            have l118 := hR_118.2.1
                            exact ⟨⟨g_m_118, by exact ⟨hR_118.1, by rw [e_z3_118, wr_id (by omega) (by omega)]; exact le_s hI_85.1 hR_118.2.1 hR_118.2.2.1, by rw [e_z3_118, wr_id (by omega) (by omega)]; exact hR_118.2.2.2⟩⟩, by (try dsimp only); omega⟩
                  · skip
                    ((unfold Bl; omega))
          · intro   hR_67
            try have w14 : wr (x1_7 + 1) = x1_7 + 1 := wr_id (by omega) (by omega)
            intro z1_67 e_z1_67
            have r_z1_67 : rg z1_67 := by rw [e_z1_67]; exact wr_rg _
            exact ⟨g_m_7, by first | exact ⟨by rw [e_z1_67, wr_id (by omega) (by omega)]; exact cu_b hI_7 (by omega) (by rw [← c19 (by omega)]; exact hR_67), by omega, Or.inl ⟨by omega, rfl⟩⟩ | exact ⟨by rw [e_z1_290, h_m286.1, wr_id (by omega) (by omega)]; exact p286.1, by rw [e_z1_290, h_m286.1, wr_id (by omega) (by omega)]; omega, Or.inr p286.2⟩ | exact ⟨by rw [e_z1_271, wr_id (by omega) (by omega)]; exact p265.1, by omega, Or.inr p265.2⟩ | exact ⟨by rw [e_z1_192, wr_id (by omega) (by omega)]; exact p186.1, by omega, Or.inr p186.2⟩⟩
        · intro y1_291 m_291 r_y1_291 hR_291
          obtain ⟨g_m_291, hR_291⟩ := hR_291
          have i291 := hR_291.1.1
          have k291 := hR_291.1.2.1
          exact ⟨⟨g_m_291, by exact hR_291.1⟩, by (try dsimp only); omega⟩
      · skip
        refine CV.mono (mx_177   g_m_7 (by unfold rg; decide) (rd_rg _ _ _) (by unfold rg; decide) (by unfold rgl; decide) (by omega) (by omega) (by omega)) (by decide) ?_
        rintro m39 ⟨g_m39, h_m39⟩
        have p39 := cu_end hN hT hE hI_7 (by omega) (by omega) (by rw [z7] at h_m39; exact h_m39)
        exact ⟨g_m39, by first | exact cu_full hN hT hI_7 (by omega) | exact p39⟩
