/-! Tokens, exactly -/
theorem lcm_z {a b : Int} : lcm2 a b = 0 ↔ a = b := by
  unfold lcm2
  constructor
  · intro h
    split at h
    · cases h
    · split at h
      · assumption
      · cases h
  · intro h
    rw [if_neg (by omega), if_pos h]
theorem an_256 (x : Int) : anI x 255 = x % 256 := by
  have e : anI x 255 = ((Int32.ofInt x).toBitVec &&& 255#32).toInt := rfl
  have e2 : (Int32.ofInt x).toBitVec = BitVec.ofInt 32 x := rfl
  have h1 : ((Int32.ofInt x).toBitVec &&& 255#32).toNat = (x % 256).toNat := by
    rw [BitVec.toNat_and, e2, BitVec.toNat_ofInt]
    have := Nat.and_two_pow_sub_one_eq_mod (x % ((2 ^ 32 : Nat) : Int)).toNat 8
    show (x % ((2 ^ 32 : Nat) : Int)).toNat &&& (2 ^ 8 - 1) = _
    rw [this]
    have e3 : ((2 ^ 32 : Nat) : Int) = 4294967296 := by decide
    rw [e3]
    omega
  rw [e, BitVec.toInt_eq_toNat_of_lt (by rw [h1]; omega), h1]
  omega
/-- a byte of a row -/
def uB (m : Mm) (r j : Nat) : Int := anI (rd m r j) 255
theorem uB_v {m : Mm} {r j : Nat} (h : -128 ≤ rd m r j ∧ rd m r j ≤ 127) : (0 ≤ rd m r j ∧ uB m r j = rd m r j) ∨ (rd m r j < 0 ∧ uB m r j = rd m r j + 256) := by
  unfold uB
  rw [an_256]
  omega
def Bl (c : Int) : Prop := c = 9 ∨ c = 10 ∨ c = 13 ∨ c = 32
def Lt (c : Int) : Prop := 97 ≤ c ∧ c ≤ 122
def Dg (c : Int) : Prop := 48 ≤ c ∧ c ≤ 57
def Sg (c : Int) : Prop := c = 59 ∨ c = 61 ∨ c = 43 ∨ c = 45 ∨ c = 42 ∨ c = 47 ∨ c = 60 ∨ c = 40 ∨ c = 41
/-- the bytes from p on that are such end at q -/
def rnE (P : Int → Prop) (b : Nat → Int) (n p q : Int) : Prop := (p ≤ q ∧ q ≤ n) ∧ (∀ k : Nat, p ≤ k → (k : Int) < q → P (b k)) ∧ (q < n → ¬ P (b (Int.toNat q)))
theorem rnE_u {P : Int → Prop} {b : Nat → Int} {n p q r : Int} (h0 : 0 ≤ p) (h1 : rnE P b n p q) (h2 : rnE P b n p r) : q = r := by
  have a := h1.1
  have c := h2.1
  by_cases e1 : q < r
  · exact absurd (h2.2.1 (Int.toNat q) (by omega) (by omega)) (h1.2.2 (by omega))
  · by_cases e2 : r < q
    · exact absurd (h1.2.1 (Int.toNat r) (by omega) (by omega)) (h2.2.2 (by omega))
    · omega
/-- letters as digits by 27, digits -/
def nmV (b : Nat → Int) (p : Nat) : Nat → Int
  | 0 => 0
  | c + 1 => nmV b p c * 27 + (b (p + c) - 96)
def dgV (b : Nat → Int) (p : Nat) : Nat → Int
  | 0 => 0
  | c + 1 => dgV b p c * 10 + (b (p + c) - 48)
theorem nm_b {b : Nat → Int} {p : Nat} : ∀ c : Nat, (∀ k : Nat, k < c → Lt (b (p + k))) → 0 ≤ nmV b p c ∧ nmV b p c + 1 ≤ (27 : Int) ^ c
  | 0, _ => ⟨Int.le_refl 0, Int.le_refl 1⟩
  | c + 1, h => by
    have i := nm_b c (fun k hk => h k (by omega))
    have l := h c (by omega)
    unfold Lt at l
    show 0 ≤ nmV b p c * 27 + (b (p + c) - 96) ∧ nmV b p c * 27 + (b (p + c) - 96) + 1 ≤ (27 : Int) ^ (c + 1)
    rw [Int.pow_succ]
    omega
theorem nm_8 {b : Nat → Int} {p c : Nat} (hc : c ≤ 8) (h : ∀ k : Nat, k < c → Lt (b (p + k))) : 0 ≤ nmV b p c ∧ nmV b p c ≤ 282429536481 := by
  have i := nm_b c h
  have : (27 : Int) ^ c ≤ 282429536481 := by
    have hc2 : c = 0 ∨ c = 1 ∨ c = 2 ∨ c = 3 ∨ c = 4 ∨ c = 5 ∨ c = 6 ∨ c = 7 ∨ c = 8 := by omega
    rcases hc2 with rfl | rfl | rfl | rfl | rfl | rfl | rfl | rfl | rfl <;> decide
  omega
/-- which word it is, a NAME if none -/
def wkC (m : Mm) (r : Nat) (x v : Int) : Prop := (0 ≤ v ∧ v ≤ 20 ∧ ld m r (Int.toNat v) = x ∧ ∀ q : Nat, (q : Int) < v → ¬ ld m r q = x) ∨ (v = 21 ∧ ∀ q : Nat, q < 21 → ¬ ld m r q = x)
/-- a token's own places alone -/
def tkFr (m m2 : Mm) (x : Int) : Prop := (∀ i j : Nat, ¬ (i = 1 ∧ j = 6) → ¬ (i = 2 ∧ (j : Int) = x) → rd m2 i j = rd m i j) ∧ ∀ i j : Nat, ¬ (i = 4 ∧ (j : Int) = x) → ld m2 i j = ld m i j
def ltI (m m4 : Mm) (c x : Int) : Prop := (0 ≤ c ∧ rd m4 1 6 = rd m 1 6 + c ∧ rd m4 1 6 ≤ rd m 1 0) ∧ (∀ i j : Nat, ¬ (i = 1 ∧ j = 6) → rd m4 i j = rd m i j) ∧ (∀ i j : Nat, ld m4 i j = ld m i j) ∧ (∀ k : Nat, rd m 1 6 ≤ k → (k : Int) < rd m4 1 6 → Lt (uB m 5 k)) ∧ x = nmV (uB m 5) (Int.toNat (rd m 1 6)) (Int.toNat (min c 8))
def ltP (m m2 : Mm) (x : Int) : Prop := tkFr m m2 x ∧ rnE Lt (uB m 5) (rd m 1 0) (rd m 1 6) (rd m2 1 6) ∧ ((8 < rd m2 1 6 - rd m 1 6 ∧ rd m2 2 (Int.toNat x) = 24) ∨ (rd m2 1 6 - rd m 1 6 ≤ 8 ∧ ld m2 4 (Int.toNat x) = nmV (uB m 5) (Int.toNat (rd m 1 6)) (Int.toNat (rd m2 1 6 - rd m 1 6)) ∧ wkC m 6 (ld m2 4 (Int.toNat x)) (rd m2 2 (Int.toNat x))))
theorem ltr_0 {m : Mm} (h : rd m 1 6 ≤ rd m 1 0) : ltI m m 0 0 := ⟨⟨by omega, by omega, h⟩, fun _ _ _ => rfl, fun _ _ => rfl, fun k a b => by omega, rfl⟩
theorem uB_eq {m m2 : Mm} {r j : Nat} (e : rd m2 r j = rd m r j) : uB m2 r j = uB m r j := by unfold uB; rw [e]
theorem ltr_k {m m4 : Mm} {c x : Int} (h : ltI m m4 c x) (h0 : 0 ≤ rd m 1 6) : ∀ k : Nat, k < Int.toNat (min c 8) → Lt (uB m 5 (Int.toNat (rd m 1 6) + k)) := fun k hk => by
  have a := h.1
  exact h.2.2.2.1 (Int.toNat (rd m 1 6) + k) (by omega) (by omega)
theorem ltr_b {m m4 : Mm} {c x : Int} (h : ltI m m4 c x) (h0 : 0 ≤ rd m 1 6 := by omega) : 0 ≤ x ∧ x ≤ 282429536481 := by
  rw [h.2.2.2.2]
  exact nm_8 (by omega) (ltr_k h h0)
theorem ltr_n8 {m m4 : Mm} {c x : Int} (h : ltI m m4 c x) (hc : 8 ≤ c) : x = nmV (uB m 5) (Int.toNat (rd m 1 6)) (Int.toNat (min (c + 1) 8)) := by
  rw [h.2.2.2.2, show min c 8 = 8 by omega, show min (c + 1) 8 = 8 by omega]
theorem ltr_n {m m4 : Mm} {c x v : Int} (h : ltI m m4 c x) (hc : c ≤ 7) (h0 : (0 ≤ rd m 1 6 ∧ rd m 1 6 ≤ 2000) ∧ (97 ≤ rd m4 5 (Int.toNat (rd m4 1 6)) ∧ rd m4 5 (Int.toNat (rd m4 1 6)) ≤ 122)) (e : v = wrl (wrl (wrl (wrl (x * 27) + rd m4 5 (Int.toNat (rd m4 1 6))) - 97) + 1)) : v = nmV (uB m 5) (Int.toNat (rd m 1 6)) (Int.toNat (min (c + 1) 8)) := by
  have xb := ltr_b h h0.1.1
  have a := h.1
  have eb : rd m4 5 (Int.toNat (rd m4 1 6)) = uB m 5 (Int.toNat (rd m 1 6) + Int.toNat c) := by
    have e1 : Int.toNat (rd m4 1 6) = Int.toNat (rd m 1 6) + Int.toNat c := by omega
    have e2 := h.2.1 5 (Int.toNat (rd m4 1 6)) (by omega)
    have := uB_v (m := m4) (r := 5) (j := Int.toNat (rd m4 1 6)) (by omega)
    rw [← e1, ← uB_eq e2]
    omega
  have en : Int.toNat (min (c + 1) 8) = Int.toNat c + 1 := by omega
  have ex : x = nmV (uB m 5) (Int.toNat (rd m 1 6)) (Int.toNat c) := by rw [h.2.2.2.2, show min c 8 = c by omega]
  rw [en]
  show v = nmV (uB m 5) (Int.toNat (rd m 1 6)) (Int.toNat c) * 27 + (uB m 5 (Int.toNat (rd m 1 6) + Int.toNat c) - 96)
  rw [← ex, ← eb, e, wrl_id (x := x * 27) (by omega) (by omega), wrl_id (x := x * 27 + _) (by omega) (by omega), wrl_id (x := x * 27 + _ - 97) (by omega) (by omega), wrl_id (by omega) (by omega)]
  omega
theorem ltr_s {m m4 m64 : Mm} {c x y : Int} (h : ltI m m4 c x) (hs : (rd m4 1 6 < rd m 1 0 ∧ 0 ≤ rd m 1 6 ∧ rd m 1 0 ≤ 2000)) (hl : Lt (uB m4 5 (Int.toNat (rd m4 1 6)))) (ey : y = nmV (uB m 5) (Int.toNat (rd m 1 6)) (Int.toNat (min (c + 1) 8))) (e : m64 = wt m4 1 6 (wr (rd m4 1 6 + 1))) : ltI m m64 (c + 1) y := by
  have a := h.1
  have w : wr (rd m4 1 6 + 1) = rd m4 1 6 + 1 := wr_id (by omega) (by omega)
  have n : rd m64 1 6 = rd m4 1 6 + 1 := by rw [e, rd_wt, if_pos ⟨rfl, rfl⟩, w, w]
  refine ⟨by omega, fun i j q => by rw [e, rd_wt, if_neg q]; exact h.2.1 i j q, fun i j => by rw [e]; exact h.2.2.1 i j, fun k p q => ?_, ey⟩
  by_cases z : (k : Int) < rd m4 1 6
  · exact h.2.2.2.1 k p z
  · have ek : k = Int.toNat (rd m4 1 6) := by omega
    rw [ek, ← uB_eq (h.2.1 5 (Int.toNat (rd m4 1 6)) (by omega))]
    exact hl
theorem ltr_e {m m4 m70 m76 m98a m98 : Mm} {x c y s : Int} (p0 : 0 ≤ x ∧ x ≤ 400) (h : ltI m m4 c y) (h70 : m70 = m4 ∧ (rd m4 1 6 < rd m4 1 0 → ¬ Lt (uB m4 5 (Int.toNat (rd m4 1 6))))) (e76 : m76 = wl m70 4 (Int.toNat x) y) (h98 : m98a = m76 ∧ ((8 < c ∧ s = 24) ∨ (c ≤ 8 ∧ wkC m76 6 y s))) (rs : rg s) (e98 : m98 = wt m98a 2 (Int.toNat x) s) (h0 : 0 ≤ rd m 1 6 := by omega) : ltP m m98 x := by
  obtain ⟨rfl, hn⟩ := h70
  obtain ⟨rfl, hk⟩ := h98
  have yb := ltr_b h h0
  obtain ⟨a, f, g, l, ey⟩ := h
  have F : ∀ i j : Nat, ¬ (i = 2 ∧ (j : Int) = x) → rd m98 i j = rd m70 i j := fun i j q => by rw [e98, rd_wt, if_neg (by omega), e76, rd_wl]
  have n : rd m98 1 6 = rd m70 1 6 := F 1 6 (by omega)
  have v : ld m98 4 (Int.toNat x) = y := by rw [e98]; show ld m98a 4 (Int.toNat x) = y; rw [e76, ld_wl, if_pos ⟨rfl, rfl⟩, wrl_id (by omega) (by omega)]
  have k : rd m98 2 (Int.toNat x) = s := by rw [e98, rd_wt, if_pos ⟨rfl, rfl⟩, wr_i rs]
  refine ⟨⟨fun i j p q => (F i j q).trans (f i j p), fun i j q => ?_⟩, ⟨by omega, fun q p r => l q p (by omega), fun q => ?_⟩, ?_⟩
  · rw [e98]
    show ld m98a i j = ld m i j
    rw [e76, ld_wl, if_neg (by omega)]
    exact g i j
  · rw [n, ← uB_eq (f 5 (Int.toNat (rd m70 1 6)) (by omega))]
    exact hn (by rw [f 1 0 (by omega)]; omega)
  · rw [v, k]
    rcases hk with ⟨q1, q2⟩ | ⟨q1, q2⟩
    · exact Or.inl ⟨by omega, q2⟩
    · refine Or.inr ⟨by omega, ?_, ?_⟩
      · rw [ey, show Int.toNat (min c 8) = Int.toNat (rd m98 1 6 - rd m 1 6) by omega]
      · have w6 : ∀ q : Nat, ld m98a 6 q = ld m 6 q := fun q => by rw [e76, ld_wl, if_neg (by omega)]; exact g 6 q
        unfold wkC at q2 ⊢
        rw [w6] at q2
        rcases q2 with ⟨z1, z2, z3, z4⟩ | ⟨z1, z2⟩
        · exact Or.inl ⟨z1, z2, z3, fun q hq => by rw [← w6]; exact z4 q hq⟩
        · exact Or.inr ⟨z1, fun q hq => by rw [← w6]; exact z2 q hq⟩
theorem dv_b {b : Nat → Int} {p : Nat} : ∀ c : Nat, (∀ k : Nat, k < c → Dg (b (p + k))) → 0 ≤ dgV b p c ∧ dgV b p c + 1 ≤ (10 : Int) ^ c
  | 0, _ => ⟨Int.le_refl 0, Int.le_refl 1⟩
  | c + 1, h => by
    have i := dv_b c (fun k hk => h k (by omega))
    have l := h c (by omega)
    unfold Dg at l
    show 0 ≤ dgV b p c * 10 + (b (p + c) - 48) ∧ dgV b p c * 10 + (b (p + c) - 48) + 1 ≤ (10 : Int) ^ (c + 1)
    rw [Int.pow_succ]
    omega
theorem dv_4 {b : Nat → Int} {p c : Nat} (hc : c ≤ 4) (h : ∀ k : Nat, k < c → Dg (b (p + k))) : 0 ≤ dgV b p c ∧ dgV b p c ≤ 9999 := by
  have i := dv_b c h
  have : (10 : Int) ^ c ≤ 10000 := by
    have hc2 : c = 0 ∨ c = 1 ∨ c = 2 ∨ c = 3 ∨ c = 4 := by omega
    rcases hc2 with rfl | rfl | rfl | rfl | rfl <;> decide
  omega
def dgI (m m4 : Mm) (c x : Int) : Prop := (0 ≤ c ∧ rd m4 1 6 = rd m 1 6 + c ∧ rd m4 1 6 ≤ rd m 1 0) ∧ (∀ i j : Nat, ¬ (i = 1 ∧ j = 6) → rd m4 i j = rd m i j) ∧ (∀ i j : Nat, ld m4 i j = ld m i j) ∧ (∀ k : Nat, rd m 1 6 ≤ k → (k : Int) < rd m4 1 6 → Dg (uB m 5 k)) ∧ x = dgV (uB m 5) (Int.toNat (rd m 1 6)) (Int.toNat (min c 4))
def dgP (m m2 : Mm) (x : Int) : Prop := tkFr m m2 x ∧ rnE Dg (uB m 5) (rd m 1 0) (rd m 1 6) (rd m2 1 6) ∧ ((4 < rd m2 1 6 - rd m 1 6 ∧ rd m2 2 (Int.toNat x) = 24) ∨ (rd m2 1 6 - rd m 1 6 ≤ 4 ∧ ld m2 4 (Int.toNat x) = dgV (uB m 5) (Int.toNat (rd m 1 6)) (Int.toNat (rd m2 1 6 - rd m 1 6)) ∧ rd m2 2 (Int.toNat x) = 22))
theorem dg_0 {m : Mm} (h : rd m 1 6 ≤ rd m 1 0) : dgI m m 0 0 := ⟨⟨by omega, by omega, h⟩, fun _ _ _ => rfl, fun _ _ => rfl, fun k a b => by omega, rfl⟩
theorem dg_k {m m4 : Mm} {c x : Int} (h : dgI m m4 c x) (h0 : 0 ≤ rd m 1 6) : ∀ k : Nat, k < Int.toNat (min c 4) → Dg (uB m 5 (Int.toNat (rd m 1 6) + k)) := fun k hk => by
  have a := h.1
  exact h.2.2.2.1 (Int.toNat (rd m 1 6) + k) (by omega) (by omega)
theorem dg_b {m m4 : Mm} {c x : Int} (h : dgI m m4 c x) (h0 : 0 ≤ rd m 1 6 := by omega) : 0 ≤ x ∧ x ≤ 9999 := by
  rw [h.2.2.2.2]
  exact dv_4 (by omega) (dg_k h h0)
theorem dg_n4 {m m4 : Mm} {c x : Int} (h : dgI m m4 c x) (hc : 4 ≤ c) : x = dgV (uB m 5) (Int.toNat (rd m 1 6)) (Int.toNat (min (c + 1) 4)) := by
  rw [h.2.2.2.2, show min c 4 = 4 by omega, show min (c + 1) 4 = 4 by omega]
theorem dg_n {m m4 : Mm} {c x v : Int} (h : dgI m m4 c x) (hc : c ≤ 3) (h0 : (0 ≤ rd m 1 6 ∧ rd m 1 6 ≤ 2000) ∧ (48 ≤ rd m4 5 (Int.toNat (rd m4 1 6)) ∧ rd m4 5 (Int.toNat (rd m4 1 6)) ≤ 57)) (e : v = wrl (wrl (wrl (x * 10) + rd m4 5 (Int.toNat (rd m4 1 6))) - 48)) : v = dgV (uB m 5) (Int.toNat (rd m 1 6)) (Int.toNat (min (c + 1) 4)) := by
  have xb := dg_b h h0.1.1
  have a := h.1
  have eb : rd m4 5 (Int.toNat (rd m4 1 6)) = uB m 5 (Int.toNat (rd m 1 6) + Int.toNat c) := by
    have e1 : Int.toNat (rd m4 1 6) = Int.toNat (rd m 1 6) + Int.toNat c := by omega
    have e2 := h.2.1 5 (Int.toNat (rd m4 1 6)) (by omega)
    have := uB_v (m := m4) (r := 5) (j := Int.toNat (rd m4 1 6)) (by omega)
    rw [← e1, ← uB_eq e2]
    omega
  have en : Int.toNat (min (c + 1) 4) = Int.toNat c + 1 := by omega
  have ex : x = dgV (uB m 5) (Int.toNat (rd m 1 6)) (Int.toNat c) := by rw [h.2.2.2.2, show min c 4 = c by omega]
  rw [en]
  show v = dgV (uB m 5) (Int.toNat (rd m 1 6)) (Int.toNat c) * 10 + (uB m 5 (Int.toNat (rd m 1 6) + Int.toNat c) - 48)
  rw [← ex, ← eb, e, wrl_id (x := x * 10) (by omega) (by omega), wrl_id (x := x * 10 + _) (by omega) (by omega), wrl_id (by omega) (by omega)]
  omega
theorem dg_s {m m4 m64 : Mm} {c x y : Int} (h : dgI m m4 c x) (hs : (rd m4 1 6 < rd m 1 0 ∧ 0 ≤ rd m 1 6 ∧ rd m 1 0 ≤ 2000)) (hl : Dg (uB m4 5 (Int.toNat (rd m4 1 6)))) (ey : y = dgV (uB m 5) (Int.toNat (rd m 1 6)) (Int.toNat (min (c + 1) 4))) (e : m64 = wt m4 1 6 (wr (rd m4 1 6 + 1))) : dgI m m64 (c + 1) y := by
  have a := h.1
  have w : wr (rd m4 1 6 + 1) = rd m4 1 6 + 1 := wr_id (by omega) (by omega)
  have n : rd m64 1 6 = rd m4 1 6 + 1 := by rw [e, rd_wt, if_pos ⟨rfl, rfl⟩, w, w]
  refine ⟨by omega, fun i j q => by rw [e, rd_wt, if_neg q]; exact h.2.1 i j q, fun i j => by rw [e]; exact h.2.2.1 i j, fun k p q => ?_, ey⟩
  by_cases z : (k : Int) < rd m4 1 6
  · exact h.2.2.2.1 k p z
  · have ek : k = Int.toNat (rd m4 1 6) := by omega
    rw [ek, ← uB_eq (h.2.1 5 (Int.toNat (rd m4 1 6)) (by omega))]
    exact hl
theorem dg_e {m m4 m70 m76 m98 : Mm} {x c y s : Int} (p0 : 0 ≤ x ∧ x ≤ 400) (h : dgI m m4 c y) (h70 : m70 = m4 ∧ (rd m4 1 6 < rd m4 1 0 → ¬ Dg (uB m4 5 (Int.toNat (rd m4 1 6))))) (e76 : m76 = wl m70 4 (Int.toNat x) y) (hk : (4 < c ∧ s = 24) ∨ (c ≤ 4 ∧ s = 22)) (rs : rg s) (e98 : m98 = wt m76 2 (Int.toNat x) s) (h0 : 0 ≤ rd m 1 6 := by omega) : dgP m m98 x := by
  obtain ⟨rfl, hn⟩ := h70
  have yb := dg_b h h0
  obtain ⟨a, f, g, l, ey⟩ := h
  have F : ∀ i j : Nat, ¬ (i = 2 ∧ (j : Int) = x) → rd m98 i j = rd m70 i j := fun i j q => by rw [e98, rd_wt, if_neg (by omega), e76, rd_wl]
  have n : rd m98 1 6 = rd m70 1 6 := F 1 6 (by omega)
  have v : ld m98 4 (Int.toNat x) = y := by rw [e98]; show ld m76 4 (Int.toNat x) = y; rw [e76, ld_wl, if_pos ⟨rfl, rfl⟩, wrl_id (by omega) (by omega)]
  have k : rd m98 2 (Int.toNat x) = s := by rw [e98, rd_wt, if_pos ⟨rfl, rfl⟩, wr_i rs]
  refine ⟨⟨fun i j p q => (F i j q).trans (f i j p), fun i j q => ?_⟩, ⟨by omega, fun q p r => l q p (by omega), fun q => ?_⟩, ?_⟩
  · rw [e98]
    show ld m76 i j = ld m i j
    rw [e76, ld_wl, if_neg (by omega)]
    exact g i j
  · rw [n, ← uB_eq (f 5 (Int.toNat (rd m70 1 6)) (by omega))]
    exact hn (by rw [f 1 0 (by omega)]; omega)
  · rw [v, k]
    rcases hk with ⟨q1, q2⟩ | ⟨q1, q2⟩
    · exact Or.inl ⟨by omega, q2⟩
    · refine Or.inr ⟨by omega, ?_, q2⟩
      rw [ey, show Int.toNat (min c 4) = Int.toNat (rd m98 1 6 - rd m 1 6) by omega]
/-- a token from p on, of this kind and value, ends at e -/
def tokF (b : Nat → Int) (n : Int) (w : Nat → Int) (p k v e : Int) : Prop := (Lt (b (Int.toNat p)) ∧ rnE Lt b n p e ∧ ((8 < e - p ∧ k = 24) ∨ (e - p ≤ 8 ∧ v = nmV b (Int.toNat p) (Int.toNat (e - p)) ∧ ((0 ≤ k ∧ k ≤ 20 ∧ w (Int.toNat k) = v ∧ ∀ q : Nat, (q : Int) < k → ¬ w q = v) ∨ (k = 21 ∧ ∀ q : Nat, q < 21 → ¬ w q = v)))))
  ∨ (¬ Lt (b (Int.toNat p)) ∧ Dg (b (Int.toNat p)) ∧ rnE Dg b n p e ∧ ((4 < e - p ∧ k = 24) ∨ (e - p ≤ 4 ∧ v = dgV b (Int.toNat p) (Int.toNat (e - p)) ∧ k = 22)))
  ∨ (¬ Lt (b (Int.toNat p)) ∧ ¬ Dg (b (Int.toNat p)) ∧ e = p + 1 ∧ ((Sg (b (Int.toNat p)) ∧ k = b (Int.toNat p)) ∨ (¬ Sg (b (Int.toNat p)) ∧ k = 24)))
def toP (m m2 : Mm) (x : Int) : Prop := tkFr m m2 x ∧ tokF (uB m 5) (rd m 1 0) (ld m 6) (rd m 1 6) (rd m2 2 (Int.toNat x)) (ld m2 4 (Int.toNat x)) (rd m2 1 6)
theorem to_l {m m2 : Mm} {x : Int} (hl : Lt (uB m 5 (Int.toNat (rd m 1 6)))) (h : ltP m m2 x) : toP m m2 x := ⟨h.1, Or.inl ⟨hl, h.2.1, h.2.2⟩⟩
theorem to_d {m m2 : Mm} {x : Int} (hl : ¬ Lt (uB m 5 (Int.toNat (rd m 1 6)))) (hd : Dg (uB m 5 (Int.toNat (rd m 1 6)))) (h : dgP m m2 x) : toP m m2 x := ⟨h.1, Or.inr (Or.inl ⟨hl, hd, h.2.1, h.2.2⟩)⟩
theorem to_s {m m65 m73 : Mm} {x s : Int} (p0 : 0 ≤ x ∧ x ≤ 400) (hn : 0 ≤ rd m 1 6 ∧ rd m 1 6 ≤ 2000) (hl : ¬ Lt (uB m 5 (Int.toNat (rd m 1 6)))) (hd : ¬ Dg (uB m 5 (Int.toNat (rd m 1 6)))) (e65 : m65 = wt m 2 (Int.toNat x) s) (hk : (Sg (uB m 5 (Int.toNat (rd m 1 6))) ∧ s = uB m 5 (Int.toNat (rd m 1 6))) ∨ (¬ Sg (uB m 5 (Int.toNat (rd m 1 6))) ∧ s = 24)) (rs : rg s) (e73 : m73 = wt m65 1 6 (wr (rd m65 1 6 + 1))) : toP m m73 x := by
  have n65 : rd m65 1 6 = rd m 1 6 := by rw [e65, rd_wt, if_neg (by omega)]
  have w : wr (rd m 1 6 + 1) = rd m 1 6 + 1 := wr_id (by omega) (by omega)
  have n73 : rd m73 1 6 = rd m 1 6 + 1 := by rw [e73, rd_wt, if_pos ⟨rfl, rfl⟩, n65, w, w]
  have k73 : rd m73 2 (Int.toNat x) = s := by rw [e73, rd_wt, if_neg (by omega), e65, rd_wt, if_pos ⟨rfl, rfl⟩, wr_i rs]
  refine ⟨⟨fun i j p q => by rw [e73, rd_wt, if_neg p, e65, rd_wt, if_neg (by omega)], fun i j _ => by rw [e73, e65]; rfl⟩, Or.inr (Or.inr ⟨hl, hd, n73, ?_⟩)⟩
  rw [k73]
  exact hk
/-- what the cutting leaves as it was; N tokens are cut, E: where they end -/
def ctFr (m m2 : Mm) : Prop := (∀ i j : Nat, ¬ (i = 1 ∧ j = 6) → ¬ i = 2 → ¬ i = 3 → rd m2 i j = rd m i j) ∧ ∀ i j : Nat, ¬ i = 4 → ld m2 i j = ld m i j
def tkS (b : Nat → Int) (n : Int) (w : Nat → Int) (m : Mm) (N : Int) (E : Nat → Int) : Prop := E 0 = 0 ∧ ∀ j : Nat, (j : Int) < N → rnE Bl b n (E j) (rd m 3 j) ∧ rd m 3 j < n ∧ tokF b n w (rd m 3 j) (rd m 2 j) (ld m 4 j) (E (j + 1))
def tksC (b : Nat → Int) (n : Int) (w : Nat → Int) (m : Mm) : Prop := ∃ (N : Int) (E : Nat → Int), (0 ≤ N ∧ N ≤ 401) ∧ tkS b n w m N E ∧ (N ≤ 400 → rnE Bl b n (E (Int.toNat N)) (rd m 3 (Int.toNat N)) ∧ rd m 3 (Int.toNat N) = n ∧ rd m 2 (Int.toNat N) = 23)
theorem cfr_0 {m m2 : Mm} (e : m2 = wt m 1 6 0) : ctFr m m2 := ⟨fun i j a _ _ => by rw [e, rd_wt, if_neg a], fun i j _ => by rw [e]; rfl⟩
theorem tk_nil {b : Nat → Int} {n : Int} {w : Nat → Int} {m : Mm} : tkS b n w m 0 (fun _ => 0) := ⟨rfl, fun j h => by omega⟩
def skI (m7 m14 : Mm) : Prop := (rd m7 1 6 ≤ rd m14 1 6 ∧ rd m14 1 6 ≤ rd m7 1 0) ∧ (∀ i j : Nat, ¬ (i = 1 ∧ j = 6) → rd m14 i j = rd m7 i j) ∧ (∀ i j : Nat, ld m14 i j = ld m7 i j) ∧ ∀ k : Nat, rd m7 1 6 ≤ k → (k : Int) < rd m14 1 6 → Bl (uB m7 5 k)
theorem sk_0 {m : Mm} (h : rd m 1 6 ≤ rd m 1 0) : skI m m := ⟨⟨Int.le_refl _, h⟩, fun _ _ _ => rfl, fun _ _ => rfl, fun k a b => by omega⟩
theorem sk_s {m7 m14 m47 : Mm} (h : skI m7 m14) (hs : (rd m14 1 6 < rd m7 1 0 ∧ 0 ≤ rd m14 1 6) ∧ rd m7 1 0 ≤ 2000) (hb : Bl (uB m14 5 (Int.toNat (rd m14 1 6)))) (e : m47 = wt m14 1 6 (wr (rd m14 1 6 + 1))) : skI m7 m47 := by
  have w : wr (rd m14 1 6 + 1) = rd m14 1 6 + 1 := wr_id (by omega) (by omega)
  have n : rd m47 1 6 = rd m14 1 6 + 1 := by rw [e, rd_wt, if_pos ⟨rfl, rfl⟩, w, w]
  have a := h.1
  refine ⟨by omega, fun i j q => by rw [e, rd_wt, if_neg q]; exact h.2.1 i j q, fun i j => by rw [e]; exact h.2.2.1 i j, fun k p q => ?_⟩
  by_cases z : (k : Int) < rd m14 1 6
  · exact h.2.2.2 k p z
  · have ek : k = Int.toNat (rd m14 1 6) := by omega
    rw [ek, ← uB_eq (h.2.1 5 (Int.toNat (rd m14 1 6)) (by omega))]
    exact hb
theorem sk_r {m m7 m14 m53 : Mm} {n : Int} (hn : n = rd m 1 0) (f : ctFr m m7) (h : skI m7 m14) (hr : m53 = m14 ∧ (rd m14 1 6 < rd m14 1 0 → ¬ Bl (uB m14 5 (Int.toNat (rd m14 1 6))))) : rnE Bl (uB m 5) n (rd m7 1 6) (rd m53 1 6) := by
  obtain ⟨rfl, hb⟩ := hr
  have g := f.1 1 0 (by omega) (by omega) (by omega)
  have a := h.1
  have s := h.2.1 1 0 (by omega)
  refine ⟨by omega, fun k p q => ?_, fun q => ?_⟩
  · rw [← uB_eq (f.1 5 k (by omega) (by omega) (by omega))]
    exact h.2.2.2 k p q
  · rw [← uB_eq (f.1 5 _ (by omega) (by omega) (by omega)), ← uB_eq (h.2.1 5 _ (by omega))]
    exact hb (by omega)
theorem tk_push {m m7 m14 m53 m62 m85 : Mm} {x n : Int} {E : Nat → Int} (hx : 0 ≤ x ∧ x ≤ 400) (f : ctFr m m7) (t : tkS (uB m 5) n (ld m 6) m7 x E) (te : E (Int.toNat x) = rd m7 1 6) (hn : n = rd m 1 0) (h : skI m7 m14) (hr : m53 = m14 ∧ (rd m14 1 6 < rd m14 1 0 → ¬ Bl (uB m14 5 (Int.toNat (rd m14 1 6))))) (e62 : m62 = wt m53 3 (Int.toNat x) (rd m53 1 6)) (hl : rd m53 1 6 < n) (to : toP m62 m85 x) : ctFr m m85 ∧ tkS (uB m 5) n (ld m 6) m85 (x + 1) (fun j => if (j : Int) = x + 1 then rd m85 1 6 else E j) ∧ (if ((Int.toNat (x + 1) : Nat) : Int) = x + 1 then rd m85 1 6 else E (Int.toNat (x + 1))) = rd m85 1 6 ∧ rd m85 1 6 ≤ n := by
  have rn := sk_r hn f h hr
  obtain ⟨q53, -⟩ := hr
  have F62 : ∀ i j : Nat, ¬ (i = 3 ∧ (j : Int) = x) → rd m62 i j = rd m53 i j := fun i j q => by rw [e62, rd_wt, if_neg (by omega)]
  have s62 : rd m62 3 (Int.toNat x) = rd m53 1 6 := by rw [e62, rd_wt, if_pos ⟨rfl, rfl⟩, wr_i (rd_rg _ _ _)]
  have L62 : ∀ i j : Nat, ld m62 i j = ld m7 i j := fun i j => by rw [e62, q53]; exact h.2.2.1 i j
  have F7 : ∀ i j : Nat, ¬ (i = 1 ∧ j = 6) → ¬ (i = 3 ∧ (j : Int) = x) → rd m62 i j = rd m7 i j := fun i j p q => (F62 i j q).trans (by rw [q53]; exact h.2.1 i j p)
  obtain ⟨⟨g1, g2⟩, tf⟩ := to
  have F85 : ∀ i j : Nat, ¬ (i = 1 ∧ j = 6) → ¬ (i = 2 ∧ (j : Int) = x) → ¬ (i = 3 ∧ (j : Int) = x) → rd m85 i j = rd m7 i j := fun i j p q r => (g1 i j p q).trans (F7 i j p r)
  have eb : uB m62 5 = uB m 5 := funext fun k => uB_eq ((F7 5 k (by omega) (by omega)).trans (f.1 5 k (by omega) (by omega) (by omega)))
  have ew : ld m62 6 = ld m 6 := funext fun k => (L62 6 k).trans (f.2 6 k (by omega))
  have en : rd m62 1 0 = n := (F7 1 0 (by omega) (by omega)).trans ((f.1 1 0 (by omega) (by omega) (by omega)).trans hn.symm)
  have ep : rd m62 1 6 = rd m53 1 6 := F62 1 6 (by omega)
  rw [eb, ew, en, ep] at tf
  have e3 : rd m85 3 (Int.toNat x) = rd m53 1 6 := (g1 3 _ (by omega) (by omega)).trans s62
  refine ⟨⟨fun i j p q r => (F85 i j p (by omega) (by omega)).trans (f.1 i j p q r), fun i j q => (g2 i j (by omega)).trans ((L62 i j).trans (f.2 i j q))⟩, ⟨?_, fun j hj => ?_⟩, if_pos (by omega), ?_⟩
  · show (if ((0 : Nat) : Int) = x + 1 then rd m85 1 6 else E 0) = 0
    rw [if_neg (by omega)]
    exact t.1
  · show rnE Bl (uB m 5) n (if (j : Int) = x + 1 then rd m85 1 6 else E j) (rd m85 3 j) ∧ _ ∧ tokF (uB m 5) n (ld m 6) (rd m85 3 j) (rd m85 2 j) (ld m85 4 j) (if ((j + 1 : Nat) : Int) = x + 1 then rd m85 1 6 else E (j + 1))
    rw [if_neg (by omega)]
    by_cases z : (j : Int) < x
    · rw [if_neg (by omega), F85 3 j (by omega) (by omega) (by omega), F85 2 j (by omega) (by omega) (by omega), g2 4 j (by omega), L62]
      exact t.2 j z
    · have ej : j = Int.toNat x := by omega
      subst ej
      rw [if_pos (by omega), e3, te]
      exact ⟨rn, hl, tf⟩
  · rcases tf with ⟨-, r, -⟩ | ⟨-, -, r, -⟩ | ⟨-, -, r, -⟩
    · exact r.1.2
    · exact r.1.2
    · omega
theorem tk_end {m m7 m14 m53 m62 m81 : Mm} {x n : Int} {E : Nat → Int} (hx : 0 ≤ x ∧ x ≤ 400) (f : ctFr m m7) (t : tkS (uB m 5) n (ld m 6) m7 x E) (te : E (Int.toNat x) = rd m7 1 6) (hn : n = rd m 1 0) (h : skI m7 m14) (hr : m53 = m14 ∧ (rd m14 1 6 < rd m14 1 0 → ¬ Bl (uB m14 5 (Int.toNat (rd m14 1 6))))) (e62 : m62 = wt m53 3 (Int.toNat x) (rd m53 1 6)) (hl : n ≤ rd m53 1 6) (e81 : m81 = wt m62 2 (Int.toNat x) 23) : tksC (uB m 5) n (ld m 6) m81 := by
  have rn := sk_r hn f h hr
  obtain ⟨q53, -⟩ := hr
  have F : ∀ i j : Nat, ¬ (i = 2 ∧ (j : Int) = x) → ¬ (i = 3 ∧ (j : Int) = x) → rd m81 i j = rd m53 i j := fun i j p q => by rw [e81, rd_wt, if_neg (by omega), e62, rd_wt, if_neg (by omega)]
  have s : rd m81 3 (Int.toNat x) = rd m53 1 6 := by rw [e81, rd_wt, if_neg (by omega), e62, rd_wt, if_pos ⟨rfl, rfl⟩, wr_i (rd_rg _ _ _)]
  have k : rd m81 2 (Int.toNat x) = 23 := by rw [e81, rd_wt, if_pos ⟨rfl, rfl⟩]; rfl
  refine ⟨x, E, by omega, ⟨t.1, fun j hj => ?_⟩, fun _ => ⟨by rw [s, te]; exact rn, by have := rn.1; omega, k⟩⟩
  have e4 : ld m81 4 j = ld m7 4 j := by rw [e81, e62, q53]; exact h.2.2.1 4 j
  rw [F 3 j (by omega) (by omega), F 2 j (by omega) (by omega), e4, q53, h.2.1 3 j (by omega), h.2.1 2 j (by omega)]
  exact t.2 j hj
-- TippedCrates$Tape.kindOf(J)I
set_option maxRecDepth 20000 in
theorem cx_90 {m : Mm} {x1 : Int}  (T_m : Ty m) (r_x1 : rgl x1)  : CK 1 90 [.ref 1, lv x1] m (fun m2 v => m2 = m ∧ (wkC m 6 x1 v)) := by
  refine br_90 r_x1 ?_
  unfold P_90
  refine ⟨fun x3_2 => (0 ≤ x3_2 ∧ x3_2 ≤ 21) ∧ ∀ q : Nat, (q : Int) < x3_2 → ¬ ld m 6 q = x1, fun x3_2 => Int.toNat (21 - x3_2), ?_, ?_⟩
  · exact ⟨by omega, fun q h => by omega⟩
  · intro x3_2 r_x3_2 hI_2
    refine ⟨fun hq => ?_, fun hq => ?_⟩
    · skip
      exact ⟨rfl, by first | exact Or.inr ⟨rfl, fun q h => hI_2.2 q (by omega)⟩ | exact Or.inl ⟨by omega, by omega, lcm_z.mp hq, hI_2.2⟩⟩
    · skip
      refine ⟨⟨by omega, by omega⟩, ?_⟩
      refine ⟨fun hq => ?_, fun hq => ?_⟩
      · skip
        try have w1 : wr (x3_2 + 1) = x3_2 + 1 := wr_id (by omega) (by omega)
        intro z3_21 e_z3_21
        have r_z3_21 : rg z3_21 := by rw [e_z3_21]; exact wr_rg _
        have k2 : ∀ q : Nat, (q : Int) < x3_2 + 1 → ¬ ld m 6 q = x1 := fun q h w => by
          by_cases e : (q : Int) < x3_2
          · exact hI_2.2 q e w
          · have eq : q = Int.toNat x3_2 := by omega
            subst eq
            exact hq (lcm_z.mpr w)
        exact ⟨by exact ⟨by omega, fun q h => k2 q (by omega)⟩, by (try dsimp only); omega⟩
      · skip
        exact ⟨rfl, by first | exact Or.inr ⟨rfl, fun q h => hI_2.2 q (by omega)⟩ | exact Or.inl ⟨by omega, by omega, lcm_z.mp hq, hI_2.2⟩⟩
-- TippedCrates$Tape.cutLetters(I)V
set_option maxRecDepth 20000 in
theorem cx_89 {m0 m : Mm} {x1 : Int}  (g_m : CX m0 m) (r_x1 : rg x1) (p0 : 0 ≤ x1 ∧ x1 ≤ 400) (p1 : rd m 1 6 ≤ rd m 1 0) : CV 2 89 [.ref 1, iv x1] m (fun m2 => CX m0 m2 ∧ (ltP m m2 x1)) := by
  refine br_89 r_x1 ?_
  unfold P_89
  have tn := ty_1_6 g_m.1
  have ts := ty_1_0 g_m.1
  refine ⟨fun x2_4 x3_4 m_4 => CX m0 m_4 ∧ (ltI m m_4 x2_4 x3_4), fun x2_4 x3_4 m_4 => Int.toNat (2000 - rd m_4 1 6), ?_, ?_⟩
  · exact ⟨g_m, by exact ltr_0 p1⟩
  · intro x2_4 x3_4 m_4 r_x2_4 r_x3_4 hI_4
    obtain ⟨g_m_4, hI_4⟩ := hI_4
    have ts4 := ty_1_0 g_m_4.1
    have tn4 := ty_1_6 g_m_4.1
    have z4 := hI_4.1
    have s4 : rd m_4 1 0 = rd m 1 0 := hI_4.2.1 1 0 (by omega)
    have b4 := uB_v (ty_5 g_m_4.1 (Int.toNat (rd m_4 1 6)))
    have xb := ltr_b hI_4
    have t1 := ty_1_0 g_m_4.1
    have t2 := ty_1_6 g_m_4.1
    refine ⟨fun m_70 => CX m0 m_70 ∧ (m_70 = m_4 ∧ (rd m_4 1 6 < rd m_4 1 0 → ¬ Lt (uB m_4 5 (Int.toNat (rd m_4 1 6))))), ?_, ?_⟩
    · skip
      refine ⟨fun hq => ?_, fun hq => ?_⟩
      · skip
        exact ⟨g_m_4, by first | exact ⟨rfl, fun h => absurd h (by omega)⟩ | exact ⟨rfl, fun h => by unfold Lt; omega⟩⟩
      · skip
        refine ⟨⟨by omega, by omega⟩, ?_⟩
        have t3 := ty_5 g_m_4.1 (Int.toNat (rd m_4 1 6))
        refine CK.mono (ct_94   (rd_rg _ _ _)) (by decide) ?_
        rintro m24 v24 r_v24 ⟨e_m24, h_m24⟩
        replace e_m24 := e_m24.symm
        subst e_m24
        refine ⟨fun hq => ?_, fun hq => ?_⟩
        · skip
          exact ⟨g_m_4, by first | exact ⟨rfl, fun h => absurd h (by omega)⟩ | exact ⟨rfl, fun h => by unfold Lt; omega⟩⟩
        · skip
          refine ⟨fun s0_53 m_53 => CX m0 m_53 ∧ (m_53 = m_4 ∧ s0_53 = nmV (uB m 5) (Int.toNat (rd m 1 6)) (Int.toNat (min (x2_4 + 1) 8))), ?_, ?_⟩
          · skip
            refine ⟨fun hq => ?_, fun hq => ?_⟩
            · skip
              exact ⟨g_m_4, by first | exact ⟨rfl, ltr_n8 hI_4 (by omega)⟩ | exact ⟨rfl, ltr_n hI_4 (by omega) (by omega) h_m46⟩⟩
            · skip
              refine ⟨⟨by omega, by omega⟩, ?_⟩
              refine CL.mono (ct_92   r_x3_4 (rd_rg _ _ _) (by omega)) (by decide) ?_
              rintro m46 v46 r_v46 ⟨e_m46, h_m46⟩
              replace e_m46 := e_m46.symm
              subst e_m46
              exact ⟨g_m_4, by first | exact ⟨rfl, ltr_n8 hI_4 (by omega)⟩ | exact ⟨rfl, ltr_n hI_4 (by omega) (by omega) h_m46⟩⟩
          · intro s0_53 m_53 r_s0_53 hR_53
            obtain ⟨g_m_53, hR_53⟩ := hR_53
            have e53 : rd m_53 1 6 = rd m_4 1 6 := by rw [hR_53.1]
            have f53 : rd m_53 1 0 = rd m_4 1 0 := by rw [hR_53.1]
            try have w4 : wr (x2_4 + 1) = x2_4 + 1 := wr_id (by omega) (by omega)
            intro z2_54 e_z2_54
            have r_z2_54 : rg z2_54 := by rw [e_z2_54]; exact wr_rg _
            have t5 := ty_1_6 g_m_53.1
            try have w6 : wr ((rd m_53 1 6) + 1) = (rd m_53 1 6) + 1 := wr_id (by omega) (by omega)
            intro m64 e_m64
            have g_m64 : CX m0 m64 := by rw [e_m64]; exact CX.wt g_m_53 (tw_1_6 g_m_53.1 ⟨by omega, by omega⟩) (Eq.refl true)
            have lt64 : ltI m m64 (x2_4 + 1) s0_53 := by
              obtain ⟨q53, r53⟩ := hR_53
              subst q53
              exact ltr_s hI_4 (by omega) (by unfold Lt; omega) r53 e_m64
            have n64 : rd m64 1 6 = rd m_4 1 6 + 1 := by have := lt64.1; omega
            exact ⟨⟨g_m64, by (rw [e_z2_54, wr_id (by omega) (by omega)]; exact lt64)⟩, by (try dsimp only); omega⟩
    · intro m_70  hR_70
      obtain ⟨g_m_70, hR_70⟩ := hR_70
      refine ⟨⟨by omega, by omega⟩, ?_⟩
      intro m76 e_m76
      have g_m76 : CX m0 m76 := by rw [e_m76]; exact CX.wl g_m_70
      refine ⟨fun s2_98 m_98 => CX m0 m_98 ∧ (m_98 = m76 ∧ ((8 < x2_4 ∧ s2_98 = 24) ∨ (x2_4 ≤ 8 ∧ wkC m76 6 x3_4 s2_98))), ?_, ?_⟩
      · skip
        refine ⟨fun hq => ?_, fun hq => ?_⟩
        · skip
          refine CK.mono (cx_90   g_m76.1 r_x3_4) (by decide) ?_
          rintro m95 v95 r_v95 ⟨e_m95, h_m95⟩
          replace e_m95 := e_m95.symm
          subst e_m95
          exact ⟨g_m76, by first | exact ⟨rfl, Or.inl ⟨by omega, rfl⟩⟩ | exact ⟨rfl, Or.inr ⟨by omega, h_m95⟩⟩⟩
        · skip
          exact ⟨g_m76, by first | exact ⟨rfl, Or.inl ⟨by omega, rfl⟩⟩ | exact ⟨rfl, Or.inr ⟨by omega, h_m95⟩⟩⟩
      · intro s2_98 m_98 r_s2_98 hR_98
        obtain ⟨g_m_98, hR_98⟩ := hR_98
        refine ⟨⟨by omega, by omega⟩, ?_⟩
        intro m98 e_m98
        have g_m98 : CX m0 m98 := by rw [e_m98]; exact CX.wt g_m_98 (tw_2 g_m_98.1 (by first | assumption | omega)) (Eq.refl true)
        have lt98 : ltP m m98 x1 := ltr_e p0 hI_4 hR_70 e_m76 hR_98 r_s2_98 e_m98
        exact ⟨g_m98, by exact lt98⟩
-- TippedCrates$Tape.cutDigits(I)V
set_option maxRecDepth 20000 in
theorem cx_91 {m0 m : Mm} {x1 : Int}  (g_m : CX m0 m) (r_x1 : rg x1) (p0 : 0 ≤ x1 ∧ x1 ≤ 400) (p1 : rd m 1 6 ≤ rd m 1 0) : CV 2 91 [.ref 1, iv x1] m (fun m2 => CX m0 m2 ∧ (dgP m m2 x1)) := by
  refine br_91 r_x1 ?_
  unfold P_91
  have tn := ty_1_6 g_m.1
  have ts := ty_1_0 g_m.1
  refine ⟨fun x2_4 x3_4 m_4 => CX m0 m_4 ∧ (dgI m m_4 x2_4 x3_4), fun x2_4 x3_4 m_4 => Int.toNat (2000 - rd m_4 1 6), ?_, ?_⟩
  · exact ⟨g_m, by exact dg_0 p1⟩
  · intro x2_4 x3_4 m_4 r_x2_4 r_x3_4 hI_4
    obtain ⟨g_m_4, hI_4⟩ := hI_4
    have ts4 := ty_1_0 g_m_4.1
    have tn4 := ty_1_6 g_m_4.1
    have z4 := hI_4.1
    have s4 : rd m_4 1 0 = rd m 1 0 := hI_4.2.1 1 0 (by omega)
    have b4 := uB_v (ty_5 g_m_4.1 (Int.toNat (rd m_4 1 6)))
    have xb := dg_b hI_4
    have t1 := ty_1_0 g_m_4.1
    have t2 := ty_1_6 g_m_4.1
    refine ⟨fun m_76 => CX m0 m_76 ∧ (m_76 = m_4 ∧ (rd m_4 1 6 < rd m_4 1 0 → ¬ Dg (uB m_4 5 (Int.toNat (rd m_4 1 6))))), ?_, ?_⟩
    · skip
      refine ⟨fun hq => ?_, fun hq => ?_⟩
      · skip
        exact ⟨g_m_4, by first | exact ⟨rfl, fun h => absurd h (by omega)⟩ | exact ⟨rfl, fun h => by unfold Dg; omega⟩⟩
      · skip
        refine ⟨⟨by omega, by omega⟩, ?_⟩
        have t3 := ty_5 g_m_4.1 (Int.toNat (rd m_4 1 6))
        refine CK.mono (ct_95   (rd_rg _ _ _)) (by decide) ?_
        rintro m24 v24 r_v24 ⟨e_m24, h_m24⟩
        replace e_m24 := e_m24.symm
        subst e_m24
        refine ⟨fun hq => ?_, fun hq => ?_⟩
        · skip
          exact ⟨g_m_4, by first | exact ⟨rfl, fun h => absurd h (by omega)⟩ | exact ⟨rfl, fun h => by unfold Dg; omega⟩⟩
        · skip
          refine ⟨fun s0_59 => s0_59 = dgV (uB m 5) (Int.toNat (rd m 1 6)) (Int.toNat (min (x2_4 + 1) 4)), ?_, ?_⟩
          · skip
            refine ⟨fun hq => ?_, fun hq => ?_⟩
            · skip
              (first | exact dg_n4 hI_4 (by omega) | exact dg_n hI_4 (by omega) (by omega) rfl)
            · skip
              refine ⟨⟨by omega, by omega⟩, ?_⟩
              try have w4 : wrl (x3_4 * 10) = x3_4 * 10 := wrl_id (by omega) (by omega)
              try have w5 : wrl ((wrl (x3_4 * 10)) + (rd m_4 5 (Int.toNat (rd m_4 1 6)))) = (wrl (x3_4 * 10)) + (rd m_4 5 (Int.toNat (rd m_4 1 6))) := wrl_id (by omega) (by omega)
              try have w6 : wrl ((wrl ((wrl (x3_4 * 10)) + (rd m_4 5 (Int.toNat (rd m_4 1 6))))) - 48) = (wrl ((wrl (x3_4 * 10)) + (rd m_4 5 (Int.toNat (rd m_4 1 6))))) - 48 := wrl_id (by omega) (by omega)
              (first | exact dg_n4 hI_4 (by omega) | exact dg_n hI_4 (by omega) (by omega) rfl)
          · intro s0_59 r_s0_59 hR_59
            try have w7 : wr (x2_4 + 1) = x2_4 + 1 := wr_id (by omega) (by omega)
            intro z2_60 e_z2_60
            have r_z2_60 : rg z2_60 := by rw [e_z2_60]; exact wr_rg _
            try have w8 : wr ((rd m_4 1 6) + 1) = (rd m_4 1 6) + 1 := wr_id (by omega) (by omega)
            intro m70 e_m70
            have g_m70 : CX m0 m70 := by rw [e_m70]; exact CX.wt g_m_4 (tw_1_6 g_m_4.1 ⟨by omega, by omega⟩) (Eq.refl true)
            have dg70 : dgI m m70 (x2_4 + 1) s0_59 := dg_s hI_4 (by omega) (by unfold Dg; omega) hR_59 e_m70
            have n70 : rd m70 1 6 = rd m_4 1 6 + 1 := by have := dg70.1; omega
            exact ⟨⟨g_m70, by (rw [e_z2_60, wr_id (by omega) (by omega)]; exact dg70)⟩, by (try dsimp only); omega⟩
    · intro m_76  hR_76
      obtain ⟨g_m_76, hR_76⟩ := hR_76
      refine ⟨⟨by omega, by omega⟩, ?_⟩
      intro m82 e_m82
      have g_m82 : CX m0 m82 := by rw [e_m82]; exact CX.wl g_m_76
      refine ⟨fun s2_100 => (4 < x2_4 ∧ s2_100 = 24) ∨ (x2_4 ≤ 4 ∧ s2_100 = 22), ?_, ?_⟩
      · skip
        refine ⟨fun hq => ?_, fun hq => ?_⟩
        · skip
          (first | exact Or.inl ⟨by omega, rfl⟩ | exact Or.inr ⟨by omega, rfl⟩)
        · skip
          (first | exact Or.inl ⟨by omega, rfl⟩ | exact Or.inr ⟨by omega, rfl⟩)
      · intro s2_100 r_s2_100 hR_100
        refine ⟨⟨by omega, by omega⟩, ?_⟩
        intro m100 e_m100
        have g_m100 : CX m0 m100 := by rw [e_m100]; exact CX.wt g_m82 (tw_2 g_m82.1 (by first | assumption | omega)) (Eq.refl true)
        have dg100 : dgP m m100 x1 := dg_e p0 hI_4 hR_76 e_m82 hR_100 r_s2_100 e_m100
        exact ⟨g_m100, by exact dg100⟩
-- TippedCrates$Tape.cutToken(I)V
set_option maxRecDepth 20000 in
theorem cx_88 {m0 m : Mm} {x1 : Int}  (g_m : CX m0 m) (r_x1 : rg x1) (p0 : 0 ≤ x1 ∧ x1 ≤ 400) (p1 : rd m 1 6 < rd m 1 0) : CV 5 88 [.ref 1, iv x1] m (fun m2 => CX m0 m2 ∧ (toP m m2 x1)) := by
  refine br_88 r_x1 ?_
  unfold P_88
  have ts := ty_1_0 g_m.1
  have tn := ty_1_6 g_m.1
  have b0 := uB_v (ty_5 g_m.1 (Int.toNat (rd m 1 6)))
  have t1 := ty_1_6 g_m.1
  refine ⟨⟨by omega, by omega⟩, ?_⟩
  have t2 := ty_5 g_m.1 (Int.toNat (rd m 1 6))
  intro z2_13 e_z2_13
  have r_z2_13 : rg z2_13 := by rw [e_z2_13]; exact (io_rg _ _ _)
  have hz : 0 ≤ z2_13 ∧ z2_13 ≤ 255 := by rw [e_z2_13]; exact an255 _
  have hc : ncI z2_13 = z2_13 := nc_id hz
  have hu : z2_13 = uB m 5 (Int.toNat (rd m 1 6)) := e_z2_13
  refine CK.mono (ct_94   r_z2_13) (by decide) ?_
  rintro m15 v15 r_v15 ⟨e_m15, h_m15⟩
  replace e_m15 := e_m15.symm
  subst e_m15
  refine ⟨fun m_76 => CX m0 m_76 ∧ (toP m m_76 x1), ?_, ?_⟩
  · skip
    refine ⟨fun hq => ?_, fun hq => ?_⟩
    · skip
      refine CK.mono (ct_95   r_z2_13) (by decide) ?_
      rintro m30 v30 r_v30 ⟨e_m30, h_m30⟩
      replace e_m30 := e_m30.symm
      subst e_m30
      refine ⟨fun hq => ?_, fun hq => ?_⟩
      · skip
        refine CK.mono (ct_290   (i1o_rg _ _) (by rw [hc]; exact hz)) (by decide) ?_
        rintro m53 v53 r_v53 ⟨e_m53, h_m53⟩
        replace e_m53 := e_m53.symm
        subst e_m53
        refine ⟨fun s2_65 => (Sg z2_13 ∧ s2_65 = z2_13) ∨ (¬ Sg z2_13 ∧ s2_65 = 24), ?_, ?_⟩
        · skip
          refine ⟨fun hq => ?_, fun hq => ?_⟩
          · skip
            (first | exact Or.inl ⟨by unfold Sg; omega, rfl⟩ | exact Or.inr ⟨by unfold Sg; omega, rfl⟩)
          · skip
            (first | exact Or.inl ⟨by unfold Sg; omega, rfl⟩ | exact Or.inr ⟨by unfold Sg; omega, rfl⟩)
        · intro s2_65 r_s2_65 hR_65
          refine ⟨⟨by omega, by omega⟩, ?_⟩
          intro m65 e_m65
          have g_m65 : CX m0 m65 := by rw [e_m65]; exact CX.wt g_m (tw_2 g_m.1 (by first | assumption | omega)) (Eq.refl true)
          have n65 : rd m65 1 6 = rd m 1 6 := by rw [e_m65, rd_wt, if_neg (by omega)]
          have t3 := ty_1_6 g_m65.1
          try have w4 : wr ((rd m65 1 6) + 1) = (rd m65 1 6) + 1 := wr_id (by omega) (by omega)
          intro m73 e_m73
          have g_m73 : CX m0 m73 := by rw [e_m73]; exact CX.wt g_m65 (tw_1_6 g_m65.1 ⟨by omega, by omega⟩) (Eq.refl true)
          have to73 : toP m m73 x1 := to_s p0 (by omega) (by unfold Lt; omega) (by unfold Dg; omega) e_m65 (by have := hR_65; rw [← hu]; exact this) r_s2_65 e_m73
          exact ⟨g_m73, by first | exact to73 | exact to_d (by unfold Lt; omega) (by unfold Dg; omega) h_m38 | exact to_l (by unfold Lt; omega) h_m23⟩
      · skip
        refine CV.mono (cx_91   g_m r_x1 (by omega) (by omega)) (by decide) ?_
        rintro m38 ⟨g_m38, h_m38⟩
        exact ⟨g_m38, by first | exact to73 | exact to_d (by unfold Lt; omega) (by unfold Dg; omega) h_m38 | exact to_l (by unfold Lt; omega) h_m23⟩
    · skip
      refine CV.mono (cx_89   g_m r_x1 (by omega) (by omega)) (by decide) ?_
      rintro m23 ⟨g_m23, h_m23⟩
      exact ⟨g_m23, by first | exact to73 | exact to_d (by unfold Lt; omega) (by unfold Dg; omega) h_m38 | exact to_l (by unfold Lt; omega) h_m23⟩
  · intro m_76  hR_76
    obtain ⟨g_m_76, hR_76⟩ := hR_76
    exact ⟨g_m_76, by exact hR_76⟩
-- TippedCrates$Tape.cutIntoTokens()V
set_option maxRecDepth 20000 in
theorem cx_87 {m0 m : Mm}   (g_m : CX m0 m)   : CV 6 87 [.ref 1] m (fun m2 => CX m0 m2 ∧ (tksC (uB m 5) (rd m 1 0) (ld m 6) m2)) := by
  refine br_87  ?_
  unfold P_87
  have ts := ty_1_0 g_m.1
  intro m2 e_m2
  have g_m2 : CX m0 m2 := by rw [e_m2]; exact CX.wt g_m (tw_1_6 g_m.1 ⟨by omega, by omega⟩) (Eq.refl true)
  refine ⟨fun x1_7 m_7 => CX m0 m_7 ∧ ((0 ≤ x1_7 ∧ x1_7 ≤ 401) ∧ ctFr m m_7 ∧ ∃ E : Nat → Int, tkS (uB m 5) (rd m 1 0) (ld m 6) m_7 x1_7 E ∧ E (Int.toNat x1_7) = rd m_7 1 6 ∧ rd m_7 1 6 ≤ rd m 1 0), fun x1_7 m_7 => Int.toNat (401 - x1_7), ?_, ?_⟩
  · exact ⟨g_m2, by exact ⟨by omega, cfr_0 e_m2, fun _ => 0, tk_nil, by rw [e_m2, rd_wt, if_pos ⟨rfl, rfl⟩]; rfl, by rw [e_m2, rd_wt, if_pos ⟨rfl, rfl⟩]; show (0 : Int) ≤ _; omega⟩⟩
  · intro x1_7 m_7 r_x1_7 hI_7
    obtain ⟨g_m_7, hI_7⟩ := hI_7
    refine ⟨fun hq => ?_, fun hq => ?_⟩
    · skip
      exact ⟨g_m_7, by first | exact en | (obtain ⟨E, t1, t2, t3⟩ := hI_7.2.2; exact ⟨x1_7, E, by omega, t1, fun h => by omega⟩)⟩
    · skip
      refine ⟨fun m_14 => CX m0 m_14 ∧ (skI m_7 m_14), fun m_14 => Int.toNat (2000 - rd m_14 1 6), ?_, ?_⟩
      · exact ⟨g_m_7, by exact sk_0 (by obtain ⟨E, t1, t2, t3⟩ := hI_7.2.2; have := hI_7.2.1.1 1 0 (by omega) (by omega) (by omega); omega)⟩
      · intro m_14  hI_14
        obtain ⟨g_m_14, hI_14⟩ := hI_14
        have ts14 := ty_1_0 g_m_14.1
        have tn14 := ty_1_6 g_m_14.1
        have b14 := uB_v (ty_5 g_m_14.1 (Int.toNat (rd m_14 1 6)))
        have sk1 := hI_14.1
        have s14 : rd m_14 1 0 = rd m_7 1 0 := hI_14.2.1 1 0 (by omega)
        have t1 := ty_1_0 g_m_14.1
        have t2 := ty_1_6 g_m_14.1
        refine ⟨fun m_53 => CX m0 m_53 ∧ (m_53 = m_14 ∧ (rd m_14 1 6 < rd m_14 1 0 → ¬ Bl (uB m_14 5 (Int.toNat (rd m_14 1 6))))), ?_, ?_⟩
        · skip
          refine ⟨fun hq => ?_, fun hq => ?_⟩
          · skip
            exact ⟨g_m_14, by first | exact ⟨rfl, fun h => absurd h (by omega)⟩ | exact ⟨rfl, fun h => by unfold Bl; omega⟩⟩
          · skip
            refine ⟨⟨by omega, by omega⟩, ?_⟩
            have t3 := ty_5 g_m_14.1 (Int.toNat (rd m_14 1 6))
            refine CK.mono (ct_93   (rd_rg _ _ _)) (by decide) ?_
            rintro m34 v34 r_v34 ⟨e_m34, h_m34⟩
            replace e_m34 := e_m34.symm
            subst e_m34
            refine ⟨fun hq => ?_, fun hq => ?_⟩
            · skip
              exact ⟨g_m_14, by first | exact ⟨rfl, fun h => absurd h (by omega)⟩ | exact ⟨rfl, fun h => by unfold Bl; omega⟩⟩
            · skip
              try have w4 : wr ((rd m_14 1 6) + 1) = (rd m_14 1 6) + 1 := wr_id (by omega) (by omega)
              intro m47 e_m47
              have g_m47 : CX m0 m47 := by rw [e_m47]; exact CX.wt g_m_14 (tw_1_6 g_m_14.1 ⟨by omega, by omega⟩) (Eq.refl true)
              have sk47 : skI m_7 m47 := sk_s hI_14 (by omega) (by unfold Bl; omega) e_m47
              have n47 : rd m47 1 6 = rd m_14 1 6 + 1 := by rw [e_m47, rd_wt, if_pos ⟨rfl, rfl⟩, wr_i (wr_rg _), wr_id (by omega) (by omega)]
              exact ⟨⟨g_m47, by exact sk47⟩, by (try dsimp only); omega⟩
        · intro m_53  hR_53
          obtain ⟨g_m_53, hR_53⟩ := hR_53
          refine ⟨⟨by omega, by omega⟩, ?_⟩
          have t5 := ty_1_6 g_m_53.1
          intro m62 e_m62
          have g_m62 : CX m0 m62 := by rw [e_m62]; exact CX.wt g_m_53 (tw_3 g_m_53.1 (rd_rg _ _ _)) (Eq.refl true)
          have n62 : rd m62 1 6 = rd m_53 1 6 := by rw [e_m62, rd_wt, if_neg (by omega)]
          have z62 : rd m62 1 0 = rd m_53 1 0 := by rw [e_m62, rd_wt, if_neg (by omega)]
          have f62 : rd m_14 1 0 = rd m_7 1 0 := hI_14.2.1 1 0 (by omega)
          have g62 : rd m_7 1 0 = rd m 1 0 := hI_7.2.1.1 1 0 (by omega) (by omega) (by omega)
          have q53 : m_53 = m_14 := hR_53.1
          have i53 : rd m_53 1 6 = rd m_14 1 6 := by rw [q53]
          have j53 : rd m_53 1 0 = rd m_14 1 0 := by rw [q53]
          have t6 := ty_1_6 g_m62.1
          have t7 := ty_1_0 g_m62.1
          refine ⟨fun hq => ?_, fun hq => ?_⟩
          · skip
            refine CV.mono (cx_88   g_m62 r_x1_7 (by omega) (by omega)) (by decide) ?_
            rintro m85 ⟨g_m85, h_m85⟩
            obtain ⟨E, t1, t2, t3⟩ := hI_7.2.2
            have pu := tk_push (n := rd m 1 0) (by omega) hI_7.2.1 t1 t2 (by omega) hI_14 hR_53 e_m62 (by omega) h_m85
            try have w8 : wr (x1_7 + 1) = x1_7 + 1 := wr_id (by omega) (by omega)
            intro z1_88 e_z1_88
            have r_z1_88 : rg z1_88 := by rw [e_z1_88]; exact wr_rg _
            exact ⟨⟨g_m85, by exact ⟨by omega, pu.1, _, by rw [e_z1_88, wr_id (by omega) (by omega)]; exact pu.2.1, by rw [e_z1_88, wr_id (by omega) (by omega)]; exact pu.2.2.1, pu.2.2.2⟩⟩, by (try dsimp only); omega⟩
          · skip
            refine ⟨⟨by omega, by omega⟩, ?_⟩
            intro m81 e_m81
            have g_m81 : CX m0 m81 := by rw [e_m81]; exact CX.wt g_m62 (tw_2 g_m62.1 (by first | assumption | omega)) (Eq.refl true)
            obtain ⟨E, t1, t2, t3⟩ := hI_7.2.2
            have en := tk_end (n := rd m 1 0) (by omega) hI_7.2.1 t1 t2 (by omega) hI_14 hR_53 e_m62 (by omega) e_m81
            exact ⟨g_m81, by first | exact en | (obtain ⟨E, t1, t2, t3⟩ := hI_7.2.2; exact ⟨x1_7, E, by omega, t1, fun h => by omega⟩)⟩
