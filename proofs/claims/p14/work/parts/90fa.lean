/-! Bits of ints of 32 bits -/
def gb (x : Int) (n : Nat) : Bool := (Int32.ofInt x).toBitVec.getLsbD n
theorem gb_or (a b : Int) (n : Nat) : gb (orI a b) n = (gb a n || gb b n) := by
  unfold gb orI
  rw [io_of]
  exact BitVec.getLsbD_or
theorem gb_and (a b : Int) (n : Nat) : gb (anI a b) n = (gb a n && gb b n) := by
  unfold gb anI
  rw [io_of]
  exact BitVec.getLsbD_and
theorem gb_m1 : ∀ n : Nat, n < 32 → gb (-1) n = true := by decide +kernel
theorem gb_not (a : Int) {n : Nat} (h : n < 32) : gb (xoI a (-1)) n = !gb a n := by
  have e : gb (xoI a (-1)) n = (gb a n ^^ gb (-1) n) := by
    unfold gb xoI
    rw [io_of]
    exact BitVec.getLsbD_xor
  rw [e, gb_m1 n h, Bool.xor_true]
theorem gb_z : ∀ n : Nat, n < 32 → gb 0 n = false := by decide +kernel
theorem gb_sl : ∀ f : Nat, f < 32 → ∀ n : Nat, n < 32 → gb (slI 1 (f : Int)) n = decide (n = f) := by decide +kernel
theorem sm_k : ∀ n : Nat, n < 32 → ((Int32.ofInt (n : Int) &&& 31).toBitVec.smod 32) = BitVec.ofNat 32 n := by decide +kernel
theorem gb_sr (x : Int) {n k : Nat} (hk : n + k < 32) : gb (srI x (n : Int)) k = gb x (n + k) := by
  unfold gb srI
  rw [io_of]
  show ((Int32.ofInt x).toBitVec.sshiftRight' ((Int32.ofInt (n : Int) &&& 31).toBitVec.smod 32)).getLsbD k = _
  rw [sm_k n (by omega), BitVec.sshiftRight'_ofNat_eq_sshiftRight, Nat.mod_eq_of_lt (by omega), BitVec.getLsbD_sshiftRight, if_pos hk, decide_eq_false (by omega)]
  rfl
theorem an_1 (x : Int) : anI x 1 = if gb x 0 = true then 1 else 0 := by
  have e : anI x 1 = ((Int32.ofInt x).toBitVec &&& 1#32).toInt := rfl
  rw [e, BitVec.and_one_eq_setWidth_ofBool_getLsbD]
  unfold gb
  cases (Int32.ofInt x).toBitVec.getLsbD 0 <;> decide
/-- whether bit n is there -/
theorem bt_n (x : Int) {n : Nat} (h : n < 32) : anI (srI x (n : Int)) 1 = if gb x n = true then 1 else 0 := by
  rw [an_1, gb_sr x (by omega)]
  rfl
theorem bt_i (x : Int) {f : Int} (h : 0 ≤ f ∧ f < 32) : anI (srI x f) 1 = if gb x (Int.toNat f) = true then 1 else 0 := by
  have e := bt_n x (n := Int.toNat f) (by omega)
  rw [show ((Int.toNat f : Nat) : Int) = f by omega] at e
  exact e
theorem gb_fc {F : Nat → Int} {n : Nat} (hn : n < 32) : ∀ {k : Nat}, (∀ c, c < k → 0 ≤ F c ∧ F c < 32) → (gb (fcF F k) n = true ↔ ∃ c, c < k ∧ F c = (n : Int))
  | 0, _ => by
    show gb 0 n = true ↔ _
    rw [gb_z n hn]
    exact ⟨fun h => absurd h (by decide), fun ⟨c, h, _⟩ => absurd h (Nat.not_lt_zero c)⟩
  | k + 1, h => by
    have ih := gb_fc hn (k := k) (fun c hc => h c (by omega))
    have b := h k (by omega)
    have e := gb_sl (Int.toNat (F k)) (by omega) n hn
    rw [show ((Int.toNat (F k) : Nat) : Int) = F k by omega] at e
    show gb (orI (fcF F k) (slI 1 (F k))) n = true ↔ _
    rw [gb_or, e, Bool.or_eq_true, ih, decide_eq_true_iff]
    constructor
    · rintro (⟨c, h1, h2⟩ | q)
      · exact ⟨c, by omega, h2⟩
      · exact ⟨k, by omega, by omega⟩
    · rintro ⟨c, h1, h2⟩
      by_cases q : c = k
      · subst q; exact Or.inr (by omega)
      · exact Or.inl ⟨c, by omega, h2⟩
/-! Where a crate can be tipped: the flag (or -1), the standing (or -1); T: how it lies behind a way -/
def freN (Y r : Ro) (c f k : Int) : Int := if nxN Y f k = -1 ∨ anI (srI (Y 2) (nxN Y f k)) 1 = 1 ∨ (¬ c = 0 ∧ 1 ≤ Y 3 ∧ r 43 = nxN Y f k) ∨ (¬ c = 1 ∧ 2 ≤ Y 3 ∧ r 44 = nxN Y f k) ∨ (¬ c = 2 ∧ 3 ≤ Y 3 ∧ r 45 = nxN Y f k) then -1 else nxN Y f k
def mvN (Y r : Ro) (T : Nat → Int) (c s k : Int) : Int := if freN Y r c (s / 24) k = -1 then -1 else 24 * freN Y r c (s / 24) k + T (Int.toNat (4 * (s % 24) + k))
theorem fre_b {Y r : Ro} {c f k : Int} (y : okY Y) (hf : 0 ≤ f ∧ f < Y 0 * Y 1) (hk : 0 ≤ k ∧ k ≤ 3) : freN Y r c f k = -1 ∨ (freN Y r c f k = nxN Y f k ∧ 0 ≤ freN Y r c f k ∧ freN Y r c f k < Y 0 * Y 1) := by
  have b := nx_b y hf hk
  by_cases q : freN Y r c f k = -1
  · exact Or.inl q
  · have e : freN Y r c f k = nxN Y f k := by
      unfold freN at q ⊢
      split at q
      · exact absurd rfl q
      · next w => rw [if_neg w]
    rw [e] at q ⊢
    exact Or.inr ⟨rfl, (b.resolve_left q).1.1, (b.resolve_left q).1.2⟩
/-- a walk's next standing is in the yard -/
def cloN (mv : Int → Int → Int) (N : Int) : Prop := ∀ s k : Int, 0 ≤ s → s < N → 0 ≤ k → k ≤ 3 → mv s k = -1 ∨ (0 ≤ mv s k ∧ mv s k < N)
theorem mv_clo {Y r : Ro} {T : Nat → Int} {c : Int} (y : okY Y) (hT : ∀ j, j < 96 → 0 ≤ T j ∧ T j ≤ 23) : cloN (mvN Y r T c) (24 * (Y 0 * Y 1)) := fun s k h0 h1 k0 k1 => by
  have b := fre_b (r := r) (c := c) y (f := s / 24) (k := k) ⟨by omega, by omega⟩ ⟨k0, k1⟩
  unfold mvN
  by_cases q : freN Y r c (s / 24) k = -1
  · rw [if_pos q]; exact Or.inl rfl
  · rw [if_neg q]
    have t := hT (Int.toNat (4 * (s % 24) + k)) (by omega)
    have b2 := b.resolve_left q
    exact Or.inr ⟨by omega, by omega⟩
/-! Standing by standing, as class and model go through them: row 0: 0 how many; 1 in which order; 2 by how many tippings (-1: not yet) -/
abbrev Wk : Type := Nat → Nat → Int
def wu (W : Wk) (i j : Nat) (v : Int) : Wk := fun a b => if a = i ∧ b = j then v else W a b
theorem wu_e {W : Wk} {i j : Nat} {v : Int} : wu W i j v i j = v := if_pos ⟨rfl, rfl⟩
theorem wu_n {W : Wk} {i j a b : Nat} {v : Int} (h : ¬ (a = i ∧ b = j)) : wu W i j v a b = W a b := if_neg h
def vis (W : Wk) (s v : Int) : Wk := if W 0 0 < 600 then wu (wu (wu W 1 (Int.toNat (W 0 0)) s) 0 0 (W 0 0 + 1)) 2 (Int.toNat s) v else W
def vk (mv : Int → Int → Int) (W : Wk) (s k : Int) : Wk := if mv s k = -1 then W else if W 2 (Int.toNat (mv s k)) = -1 then vis W (mv s k) (wr (W 2 (Int.toNat s) + 1)) else W
def v4 (mv : Int → Int → Int) (W : Wk) (s : Int) : Nat → Wk
  | 0 => W
  | k + 1 => vk mv (v4 mv W s k) s (k : Int)
def vr (mv : Int → Int → Int) : Nat → Nat → Wk → Wk
  | 0, _, W => W
  | f + 1, i, W => if (i : Int) < W 0 0 then vr mv f (i + 1) (v4 mv W (W 1 i) 4) else W
def w00 : Wk := fun a _ => if a = 2 then -1 else 0
def FIN (mv : Int → Int → Int) (st : Int) : Wk := vr mv 600 0 (vis w00 st 0)
/-- those come to are in the yard, by fewer tippings than there are -/
def okWk (N : Int) (W : Wk) : Prop := (0 ≤ W 0 0 ∧ W 0 0 ≤ 600) ∧ (∀ i : Nat, (i : Int) < W 0 0 → 0 ≤ W 1 i ∧ W 1 i < N) ∧ (∀ j : Nat, -1 ≤ W 2 j ∧ W 2 j < W 0 0) ∧ ∀ i : Nat, (i : Int) < W 0 0 → 0 ≤ W 2 (Int.toNat (W 1 i))
theorem okW_0 (N : Int) : okWk N w00 := ⟨by decide, fun i hi => absurd hi (by show ¬ (i : Int) < 0; omega), fun j => by show -1 ≤ (-1 : Int) ∧ (-1 : Int) < 0; omega, fun i hi => absurd hi (by show ¬ (i : Int) < 0; omega)⟩
section VIS
variable {W : Wk} {s v N : Int} {mv : Int → Int → Int}
theorem vis_0 (h : W 0 0 < 600) : vis W s v 0 0 = W 0 0 + 1 := by
  unfold vis
  rw [if_pos h, wu_n (by omega), wu_e]
theorem vis_le : W 0 0 ≤ vis W s v 0 0 := by
  by_cases h : W 0 0 < 600
  · rw [vis_0 h]; omega
  · unfold vis; rw [if_neg h]; exact Int.le_refl _
theorem vis_1 {i : Nat} (h0 : 0 ≤ W 0 0) (hi : (i : Int) < W 0 0) : vis W s v 1 i = W 1 i := by
  unfold vis
  split
  · rw [wu_n (by omega), wu_n (by omega), wu_n (by omega)]
  · rfl
theorem vis_n (h : W 0 0 < 600) {i : Nat} (hi : (i : Int) = W 0 0) : vis W s v 1 i = s := by
  unfold vis
  rw [if_pos h, wu_n (by omega), wu_n (by omega), show i = Int.toNat (W 0 0) by omega, wu_e]
theorem vis_2 (h : W 0 0 < 600) {j : Nat} : vis W s v 2 j = if j = Int.toNat s then v else W 2 j := by
  unfold vis
  rw [if_pos h]
  by_cases q : j = Int.toNat s
  · rw [if_pos q, q, wu_e]
  · rw [if_neg q, wu_n (fun w => q w.2), wu_n (by omega), wu_n (by omega)]
theorem vis_ok (o : okWk N W) (hs : 0 ≤ s ∧ s < N) (hv : 0 ≤ v ∧ v ≤ W 0 0) : okWk N (vis W s v) := by
  by_cases h : W 0 0 < 600
  · obtain ⟨o0, o1, o2, o3⟩ := o
    refine ⟨by rw [vis_0 h]; omega, fun i hi => ?_, fun j => ?_, fun i hi => ?_⟩
    · rw [vis_0 h] at hi
      by_cases q : (i : Int) < W 0 0
      · rw [vis_1 o0.1 q]; exact o1 i q
      · rw [vis_n h (by omega)]; exact hs
    · have b := o2 j
      rw [vis_0 h, vis_2 h]
      split <;> omega
    · rw [vis_0 h] at hi
      rw [vis_2 h]
      by_cases q : (i : Int) < W 0 0
      · have b := o3 i q
        rw [vis_1 o0.1 q]
        split <;> omega
      · rw [vis_n h (by omega), if_pos rfl]; exact hv.1
  · unfold vis; rw [if_neg h]; exact o
theorem vk_2 {k : Int} {j : Nat} (h : 0 ≤ W 2 j) : vk mv W s k 2 j = W 2 j := by
  unfold vk
  split
  · rfl
  · split
    · next q =>
      by_cases w : W 0 0 < 600
      · rw [vis_2 w, if_neg (fun e => by rw [e] at h; omega)]
      · unfold vis; rw [if_neg w]
    · rfl
theorem vk_ok {k : Int} (c : cloN mv N) (o : okWk N W) (hs : 0 ≤ s ∧ s < N) (h2 : 0 ≤ W 2 (Int.toNat s)) (hk : 0 ≤ k ∧ k ≤ 3) : okWk N (vk mv W s k) := by
  unfold vk
  split
  · exact o
  · next q =>
    split
    · have b := o.2.2.1 (Int.toNat s)
      have n := o.1
      have e : wr (W 2 (Int.toNat s) + 1) = W 2 (Int.toNat s) + 1 := wr_id (by omega) (by omega)
      exact vis_ok o ((c s k hs.1 hs.2 hk.1 hk.2).resolve_left q) (by rw [e]; omega)
    · exact o
theorem vk_1 {k : Int} {i : Nat} (h0 : 0 ≤ W 0 0) (hi : (i : Int) < W 0 0) : vk mv W s k 1 i = W 1 i := by
  unfold vk
  split
  · rfl
  · split
    · exact vis_1 h0 hi
    · rfl
theorem vk_le {k : Int} : W 0 0 ≤ vk mv W s k 0 0 := by
  unfold vk
  split
  · exact Int.le_refl _
  · split
    · exact vis_le
    · exact Int.le_refl _
theorem v4_le : ∀ k : Nat, W 0 0 ≤ v4 mv W s k 0 0
  | 0 => Int.le_refl _
  | k + 1 => Int.le_trans (v4_le k) vk_le
theorem v4_2 {j : Nat} (h : 0 ≤ W 2 j) : ∀ k : Nat, v4 mv W s k 2 j = W 2 j
  | 0 => rfl
  | k + 1 => by
    have e := v4_2 h k
    exact (vk_2 (by rw [e]; exact h)).trans e
theorem v4_ok (c : cloN mv N) (o : okWk N W) (hs : 0 ≤ s ∧ s < N) (h2 : 0 ≤ W 2 (Int.toNat s)) : ∀ k : Nat, k ≤ 4 → okWk N (v4 mv W s k)
  | 0, _ => o
  | k + 1, hk => vk_ok c (v4_ok c o hs h2 k (by omega)) hs (by rw [v4_2 h2]; exact h2) ⟨by omega, by omega⟩
theorem v4_1 {i : Nat} (h0 : 0 ≤ W 0 0) (hi : (i : Int) < W 0 0) : ∀ k : Nat, v4 mv W s k 1 i = W 1 i
  | 0 => rfl
  | k + 1 => by
    have l := v4_le (mv := mv) (W := W) (s := s) k
    exact (vk_1 (by omega) (by omega)).trans (v4_1 h0 hi k)
end VIS
/-- the rows a, b and the number at p q are W -/
def wkR (m : Mm) (p q a b : Nat) (W : Wk) : Prop := rd m p q = W 0 0 ∧ (∀ j : Nat, (j : Int) < W 0 0 → rd m a j = W 1 j) ∧ ∀ j : Nat, j < 600 → rd m b j = W 2 j
theorem wkR_fr {m m2 : Mm} {p q a b : Nat} {W : Wk} (h : wkR m p q a b W) (e : rd m2 p q = rd m p q) (ea : ∀ j, rd m2 a j = rd m a j) (eb : ∀ j, rd m2 b j = rd m b j) : wkR m2 p q a b W :=
  ⟨e.trans h.1, fun j hj => (ea j).trans (h.2.1 j hj), fun j hj => (eb j).trans (h.2.2 j hj)⟩
theorem wkR_vis {m m2 : Mm} {p q a b : Nat} {W : Wk} {s v : Int} (h : wkR m p q a b W) (lt : rd m p q < 600) (n0 : 0 ≤ rd m p q) (e : rd m2 p q = rd m p q + 1) (ea : ∀ j : Nat, rd m2 a j = if j = Int.toNat (rd m p q) then s else rd m a j) (eb : ∀ j : Nat, rd m2 b j = if j = Int.toNat s then v else rd m b j) : wkR m2 p q a b (vis W s v) := by
  have l2 : W 0 0 < 600 := by rw [← h.1]; exact lt
  have e0 := h.1
  refine ⟨by rw [vis_0 l2, e, h.1], fun j hj => ?_, fun j hj => ?_⟩
  · rw [vis_0 l2] at hj
    rw [ea j]
    by_cases w : (j : Int) < W 0 0
    · rw [if_neg (by omega), vis_1 (by omega) w]; exact h.2.1 j w
    · rw [if_pos (by omega), vis_n l2 (by omega)]
  · rw [eb j, vis_2 l2]
    split
    · rfl
    · exact h.2.2 j hj
theorem vr_s {mv : Int → Int → Int} {W : Wk} {i z : Int} (h0 : 0 ≤ i) (h6 : i < 600) (hi : i < W 0 0) (ez : z = i + 1) : vr mv (Int.toNat (600 - i)) (Int.toNat i) W = vr mv (Int.toNat (600 - z)) (Int.toNat z) (v4 mv W (W 1 (Int.toNat i)) 4) := by
  rw [show Int.toNat (600 - i) = Int.toNat (600 - z) + 1 by omega, show Int.toNat z = Int.toNat i + 1 by omega]
  show (if ((Int.toNat i : Nat) : Int) < W 0 0 then vr mv (Int.toNat (600 - z)) (Int.toNat i + 1) (v4 mv W (W 1 (Int.toNat i)) 4) else W) = _
  rw [if_pos (by omega)]
theorem vr_e {mv : Int → Int → Int} {W : Wk} {i : Int} (h0 : 0 ≤ i) (h : W 0 0 ≤ i ∨ 600 ≤ i) : vr mv (Int.toNat (600 - i)) (Int.toNat i) W = W := by
  by_cases q : 600 ≤ i
  · rw [show Int.toNat (600 - i) = 0 by omega]; rfl
  · rw [show Int.toNat (600 - i) = Int.toNat (600 - (i + 1)) + 1 by omega]
    show (if ((Int.toNat i : Nat) : Int) < W 0 0 then _ else W) = W
    rw [if_neg (by omega)]
