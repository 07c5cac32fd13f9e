/-! The richest: the most of what is there, -1 where nothing is -/
def mxP (E : Int → Prop) (v : Int) : Prop := (v = -1 ∧ ∀ x, ¬ E x) ∨ (E v ∧ ∀ x, E x → x ≤ v)
def dmP (E F : Int → Prop) : Prop := ∀ x, E x → ∃ y, F y ∧ x ≤ y
section MX
variable {E F : Int → Prop} {v w : Int}
theorem mxP_d (h : mxP E v) (a : dmP E F) (b : dmP F E) : mxP F v := by
  rcases h with ⟨h1, h2⟩ | ⟨h1, h2⟩
  · refine Or.inl ⟨h1, fun y hy => ?_⟩
    obtain ⟨x, hx, -⟩ := b y hy
    exact h2 x hx
  · have up : ∀ y, F y → y ≤ v := fun y hy => by
      obtain ⟨x, hx, l⟩ := b y hy
      exact Int.le_trans l (h2 x hx)
    obtain ⟨y, hy, l⟩ := a v h1
    have e : y = v := Int.le_antisymm (up y hy) l
    subst e
    exact Or.inr ⟨hy, up⟩
theorem mxP_cg (h : mxP E v) (e : ∀ x, E x ↔ F x) : mxP F v := mxP_d h (fun x hx => ⟨x, (e x).mp hx, Int.le_refl x⟩) (fun x hx => ⟨x, (e x).mpr hx, Int.le_refl x⟩)
theorem mxP_u (h : mxP E v) (k : mxP E w) : v = w := by
  rcases h with ⟨h1, h2⟩ | ⟨h1, h2⟩ <;> rcases k with ⟨k1, k2⟩ | ⟨k1, k2⟩
  · omega
  · exact absurd k1 (h2 w)
  · exact absurd h1 (k2 v)
  · exact Int.le_antisymm (k2 v h1) (h2 w k1)
theorem mxP_add {z : Int} (h : mxP E v) (hz : -1 ≤ z) : mxP (fun x => E x ∨ x = z) (max v z) := by
  rcases h with ⟨h1, h2⟩ | ⟨h1, h2⟩
  · rw [h1, Int.max_eq_right hz]
    refine Or.inr ⟨Or.inr rfl, fun x hx => ?_⟩
    rcases hx with hx | hx
    · exact absurd hx (h2 x)
    · omega
  · by_cases q : z ≤ v
    · rw [Int.max_eq_left q]
      refine Or.inr ⟨Or.inl h1, fun x hx => ?_⟩
      rcases hx with hx | hx
      · exact h2 x hx
      · omega
    · rw [Int.max_eq_right (by omega)]
      refine Or.inr ⟨Or.inr rfl, fun x hx => ?_⟩
      rcases hx with hx | hx
      · have := h2 x hx
        omega
      · omega
theorem mxP_0 (h : ∀ x, ¬ E x) : mxP E (-1) := Or.inl ⟨rfl, h⟩
theorem mxP_b {b : Int} (h : mxP E v) (k : ∀ x, E x → 0 ≤ x ∧ x ≤ b) (hb : -1 ≤ b) : -1 ≤ v ∧ v ≤ b := by
  rcases h with ⟨h1, h2⟩ | ⟨h1, h2⟩
  · omega
  · have := k v h1
    omega
end MX
/-! from the end: the most that n tippings from s can bring, -1 where none are; by which way first -/
section RICH
variable (mv : Int → Int → Int) (mk : Int → Int)
def rwV (u : Int → Int) (s k : Int) : Int := if mv s k = -1 then -1 else if u (mv s k) < 0 then -1 else u (mv s k) + mk (mv s k)
def rxF (u : Int → Int) (s : Int) : Nat → Int
  | 0 => -1
  | k + 1 => max (rxF u s k) (rwV mv mk u s (k : Int))
def ryF (u : Int → Int) (s : Int) : Nat → Int
  | 0 => -2
  | k + 1 => if rxF mv mk u s k < rwV mv mk u s (k : Int) then (k : Int) else ryF u s k
def rvF : Nat → Int → Int
  | 0, _ => 0
  | n + 1, s => rxF mv mk (rvF n) s 4
/-- from the start: what came to t by one tipping more -/
def enP (B : Int → Int) (f : Int → Int) (X : Int → Int → Prop) (t x : Int) : Prop := ∃ s k, X s k ∧ mv s k = t ∧ 0 ≤ B s ∧ x = B s + 4 * mk t + f k
def XA : Int → Int → Prop := fun s k => 0 ≤ s ∧ s < 600 ∧ 0 ≤ k ∧ k < 4
def ffP (j : Nat) (k : Int) : Int := if j = 0 then 3 - k else 0
def fwP (st : Int) : Nat → (Int → Int) → Prop
  | 0, B => ∀ t, 0 ≤ t → t < 600 → B t = if t = st then 0 else -1
  | j + 1, B => ∃ C, fwP st j C ∧ ∀ t, 0 ≤ t → t < 600 → mxP (enP mv mk C (ffP j) XA t) (B t)
end RICH
def okK (mk : Int → Int) (L : Int) : Prop := ∀ s : Int, 0 ≤ s → s < L → 0 ≤ mk s ∧ mk s ≤ 9
section RICHT
variable {mv : Int → Int → Int} {mk : Int → Int} {L st : Int}
theorem rwV_p (cl : cloN mv L) (hm : okK mk L) {u : Int → Int} {s k : Int} (hs : 0 ≤ s ∧ s < L) (hk : 0 ≤ k ∧ k ≤ 3) : (rwV mv mk u s k = -1 ∧ (mv s k = -1 ∨ u (mv s k) < 0)) ∨ (0 ≤ rwV mv mk u s k ∧ ¬ mv s k = -1 ∧ (0 ≤ mv s k ∧ mv s k < L) ∧ 0 ≤ u (mv s k) ∧ rwV mv mk u s k = u (mv s k) + mk (mv s k)) := by
  unfold rwV
  by_cases h : mv s k = -1
  · rw [if_pos h]
    exact Or.inl ⟨rfl, Or.inl h⟩
  · rw [if_neg h]
    have c := (cl s k hs.1 hs.2 hk.1 hk.2).resolve_left h
    by_cases q : u (mv s k) < 0
    · rw [if_pos q]
      exact Or.inl ⟨rfl, Or.inr q⟩
    · rw [if_neg q]
      have b := hm (mv s k) c.1 c.2
      exact Or.inr ⟨by omega, h, c, by omega, rfl⟩
/-- the most and the first way that brings it -/
theorem rxy {u : Int → Int} {s : Int} (hp : ∀ k : Nat, k < 4 → rwV mv mk u s (k : Int) = -1 ∨ 0 ≤ rwV mv mk u s (k : Int)) : ∀ n : Nat, n ≤ 4 → (rxF mv mk u s n = -1 ∧ ryF mv mk u s n = -2 ∧ ∀ k : Nat, k < n → rwV mv mk u s (k : Int) = -1) ∨ (∃ q : Nat, q < n ∧ ryF mv mk u s n = (q : Int) ∧ rxF mv mk u s n = rwV mv mk u s (q : Int) ∧ 0 ≤ rxF mv mk u s n ∧ (∀ k : Nat, k < n → rwV mv mk u s (k : Int) ≤ rxF mv mk u s n) ∧ ∀ k : Nat, k < q → rwV mv mk u s (k : Int) < rxF mv mk u s n)
  | 0, _ => Or.inl ⟨rfl, rfl, fun k h => absurd h (Nat.not_lt_zero k)⟩
  | n + 1, h => by
    have ih := rxy hp n (by omega)
    have hn := hp n (by omega)
    have ex : rxF mv mk u s (n + 1) = max (rxF mv mk u s n) (rwV mv mk u s (n : Int)) := rfl
    have ey : ryF mv mk u s (n + 1) = if rxF mv mk u s n < rwV mv mk u s (n : Int) then (n : Int) else ryF mv mk u s n := rfl
    rw [ex, ey]
    rcases ih with ⟨i1, i2, i3⟩ | ⟨q, q1, q2, q3, q4, q5, q6⟩
    · rcases hn with z | z
      · rw [i1, i2, z, if_neg (by decide), Int.max_eq_left (by decide)]
        refine Or.inl ⟨rfl, rfl, fun k hk => ?_⟩
        by_cases w : k = n
        · rw [w]; exact z
        · exact i3 k (by omega)
      · rw [i1, if_pos (by omega), Int.max_eq_right (by omega)]
        refine Or.inr ⟨n, by omega, rfl, rfl, z, fun k hk => ?_, fun k hk => ?_⟩
        · by_cases w : k = n
          · rw [w]; exact Int.le_refl _
          · have := i3 k (by omega)
            omega
        · have := i3 k hk
          omega
    · by_cases z : rxF mv mk u s n < rwV mv mk u s (n : Int)
      · rw [if_pos z, Int.max_eq_right (by omega)]
        refine Or.inr ⟨n, by omega, rfl, rfl, by omega, fun k hk => ?_, fun k hk => ?_⟩
        · by_cases w : k = n
          · rw [w]; exact Int.le_refl _
          · have := q5 k (by omega)
            omega
        · have := q5 k hk
          omega
      · rw [if_neg z, Int.max_eq_left (by omega)]
        refine Or.inr ⟨q, by omega, q2, q3, q4, fun k hk => ?_, q6⟩
        by_cases w : k = n
        · rw [w]; omega
        · exact q5 k (by omega)
theorem rxy_p (cl : cloN mv L) (hm : okK mk L) {u : Int → Int} {s : Int} (hs : 0 ≤ s ∧ s < L) : ∀ k : Nat, k < 4 → rwV mv mk u s (k : Int) = -1 ∨ 0 ≤ rwV mv mk u s (k : Int) := fun k hk => by
  rcases rwV_p (u := u) cl hm hs (k := (k : Int)) ⟨by omega, by omega⟩ with h | h
  · exact Or.inl h.1
  · exact Or.inr h.1
/-- rows come to in j tippings -/
theorem fw_lt (cl : cloN mv L) (hst : 0 ≤ st ∧ st < L) : ∀ (j : Nat) (B : Int → Int), fwP mv mk st j B → ∀ t, 0 ≤ t → t < 600 → 0 ≤ B t → t < L
  | 0, B, h, t, t0, t1, b => by
    have e := h t t0 t1
    by_cases q : t = st
    · omega
    · rw [if_neg q] at e
      omega
  | j + 1, B, ⟨C, hC, hB⟩, t, t0, t1, b => by
    rcases hB t t0 t1 with ⟨e, -⟩ | ⟨⟨s, k, ⟨s0, s1, k0, k1⟩, e, c, -⟩, -⟩
    · omega
    · have l := fw_lt cl hst j C hC s s0 s1 c
      have w := cl s k s0 l k0 (by omega)
      omega
theorem fw_b (cl : cloN mv L) (hm : okK mk L) (hst : 0 ≤ st ∧ st < L) : ∀ (j : Nat) (B : Int → Int), fwP mv mk st j B → ∀ t, 0 ≤ t → t < 600 → -1 ≤ B t ∧ B t ≤ 36 * (j : Int) + (if j = 0 then 0 else 3)
  | 0, B, h, t, t0, t1 => by
    have e := h t t0 t1
    rw [if_pos rfl]
    split at e <;> omega
  | j + 1, B, ⟨C, hC, hB⟩, t, t0, t1 => by
    rw [if_neg (by omega)]
    refine mxP_b (hB t t0 t1) (fun x hx => ?_) (by omega)
    obtain ⟨s, k, ⟨s0, s1, k0, k1⟩, e, c, ex⟩ := hx
    have l := fw_lt cl hst j C hC s s0 s1 c
    have w := cl s k s0 l k0 (by omega)
    have m := hm t t0 (by omega)
    have b := fw_b cl hm hst j C hC s s0 s1
    unfold ffP at ex
    by_cases q : j = 0
    · rw [if_pos q] at b ex
      omega
    · rw [if_neg q] at b ex
      omega
/-! what is gained and what can still be gained -/
def exS (mv : Int → Int → Int) (mk : Int → Int) (B : Int → Int) (q : Nat) (x : Int) : Prop := ∃ t, (0 ≤ t ∧ t < 600) ∧ 0 ≤ B t ∧ 0 ≤ rvF mv mk q t ∧ x = B t + 4 * rvF mv mk q t
def exK (mv : Int → Int → Int) (mk : Int → Int) (C : Int → Int) (j q : Nat) (x : Int) : Prop := ∃ t k, (0 ≤ t ∧ t < 600) ∧ (0 ≤ k ∧ k < 4) ∧ 0 ≤ C t ∧ 0 ≤ rwV mv mk (rvF mv mk q) t k ∧ x = C t + 4 * rwV mv mk (rvF mv mk q) t k + ffP j k
def ex0 (mv : Int → Int → Int) (mk : Int → Int) (st : Int) (q : Nat) (x : Int) : Prop := ∃ k : Nat, k < 4 ∧ 0 ≤ rwV mv mk (rvF mv mk q) st (k : Int) ∧ x = 4 * rwV mv mk (rvF mv mk q) st (k : Int) + 3 - (k : Int)
theorem ff_b (j : Nat) {k : Int} (h : 0 ≤ k ∧ k < 4) : 0 ≤ ffP j k := by
  unfold ffP
  split <;> omega
theorem ex_1 (cl : cloN mv L) (hm : okK mk L) (hst : 0 ≤ st ∧ st < L) (hL : L ≤ 600) {j q : Nat} {B C : Int → Int} (hC : fwP mv mk st j C) (hB : ∀ t, 0 ≤ t → t < 600 → mxP (enP mv mk C (ffP j) XA t) (B t)) : dmP (exK mv mk C j q) (exS mv mk B q) ∧ dmP (exS mv mk B q) (exK mv mk C j q) := by
  constructor
  · rintro x ⟨t, k, ht, hk, c, w, ex⟩
    have l := fw_lt cl hst j C hC t ht.1 ht.2 c
    rcases rwV_p (u := rvF mv mk q) cl hm ⟨ht.1, l⟩ (k := k) ⟨hk.1, by omega⟩ with h | ⟨h1, h2, h3, h4, h5⟩
    · omega
    · have m := hm _ h3.1 h3.2
      have f := ff_b j hk
      have en : enP mv mk C (ffP j) XA (mv t k) (C t + 4 * mk (mv t k) + ffP j k) := ⟨t, k, ⟨ht.1, ht.2, hk.1, hk.2⟩, rfl, c, rfl⟩
      have up : C t + 4 * mk (mv t k) + ffP j k ≤ B (mv t k) := by
        rcases hB (mv t k) h3.1 (by omega) with ⟨-, z⟩ | ⟨-, z⟩
        · exact absurd en (z _)
        · exact z _ en
      exact ⟨_, ⟨mv t k, ⟨h3.1, by omega⟩, by omega, h4, rfl⟩, by omega⟩
  · rintro x ⟨t, ht, b, r, ex⟩
    rcases hB t ht.1 ht.2 with ⟨z, -⟩ | ⟨⟨s, k, ⟨s0, s1, k0, k1⟩, e, c, eb⟩, -⟩
    · omega
    · have l := fw_lt cl hst j C hC s s0 s1 c
      rcases rwV_p (u := rvF mv mk q) cl hm ⟨s0, l⟩ (k := k) ⟨k0, by omega⟩ with ⟨-, h | h⟩ | ⟨h1, -, -, -, h5⟩
      · omega
      · rw [e] at h
        omega
      · rw [e] at h5
        exact ⟨_, ⟨s, k, ⟨s0, s1⟩, ⟨k0, k1⟩, c, h1, rfl⟩, by omega⟩
theorem ex_2 (cl : cloN mv L) (hm : okK mk L) (hst : 0 ≤ st ∧ st < L) {j q : Nat} {C : Int → Int} (hC : fwP mv mk st (j + 1) C) : dmP (exK mv mk C (j + 1) q) (exS mv mk C (q + 1)) ∧ dmP (exS mv mk C (q + 1)) (exK mv mk C (j + 1) q) := by
  have ff : ∀ k, ffP (j + 1) k = 0 := fun k => by
    unfold ffP
    rw [if_neg (by omega)]
  have rv : ∀ t, rvF mv mk (q + 1) t = rxF mv mk (rvF mv mk q) t 4 := fun _ => rfl
  constructor
  · rintro x ⟨t, k, ht, hk, c, w, ex⟩
    have l := fw_lt cl hst (j + 1) C hC t ht.1 ht.2 c
    rw [ff] at ex
    rcases rxy (rxy_p (u := rvF mv mk q) cl hm ⟨ht.1, l⟩) 4 (Nat.le_refl 4) with ⟨-, -, h⟩ | ⟨p, -, -, -, h4, h5, -⟩
    · have := h (Int.toNat k) (by omega)
      rw [show ((Int.toNat k : Nat) : Int) = k by omega] at this
      omega
    · have := h5 (Int.toNat k) (by omega)
      rw [show ((Int.toNat k : Nat) : Int) = k by omega, ← rv] at this
      exact ⟨_, ⟨t, ht, c, h4, rfl⟩, by omega⟩
  · rintro x ⟨t, ht, c, r, ex⟩
    have l := fw_lt cl hst (j + 1) C hC t ht.1 ht.2 c
    rw [rv] at r ex
    rcases rxy (rxy_p (u := rvF mv mk q) cl hm ⟨ht.1, l⟩) 4 (Nat.le_refl 4) with ⟨h, -⟩ | ⟨p, h1, -, h3, -⟩
    · omega
    · refine ⟨_, ⟨t, (p : Int), ht, ⟨by omega, by omega⟩, c, by omega, rfl⟩, ?_⟩
      rw [ff]
      omega
theorem ex_3 (cl : cloN mv L) (hm : okK mk L) (hst : 0 ≤ st ∧ st < L) (hL : L ≤ 600) {v : Int} : ∀ (j q : Nat) (B : Int → Int), fwP mv mk st (j + 1) B → mxP (exS mv mk B q) v → mxP (ex0 mv mk st (j + q)) v
  | 0, q, B, ⟨C, hC, hB⟩, h => by
    have a := ex_1 (q := q) cl hm hst hL hC hB
    have h1 := mxP_d h a.2 a.1
    rw [Nat.zero_add]
    have cs : ∀ t, 0 ≤ t → t < 600 → 0 ≤ C t → t = st ∧ C t = 0 := fun t t0 t1 c => by
      have e := hC t t0 t1
      by_cases w : t = st
      · rw [if_pos w] at e
        exact ⟨w, e⟩
      · rw [if_neg w] at e
        omega
    refine mxP_cg h1 (fun x => ⟨?_, ?_⟩)
    · rintro ⟨t, k, ht, hk, c, w, ex⟩
      obtain ⟨e1, e2⟩ := cs t ht.1 ht.2 c
      subst e1
      refine ⟨Int.toNat k, by omega, ?_, ?_⟩
      · rw [show ((Int.toNat k : Nat) : Int) = k by omega]
        exact w
      · rw [show ((Int.toNat k : Nat) : Int) = k by omega, ex, e2]
        show 0 + _ + (3 - k) = _
        omega
    · rintro ⟨k, hk, w, ex⟩
      have c0 : C st = 0 := by
        have e := hC st hst.1 (by omega)
        rw [if_pos rfl] at e
        exact e
      refine ⟨st, (k : Int), ⟨hst.1, by omega⟩, ⟨by omega, by omega⟩, by omega, w, ?_⟩
      rw [ex, c0]
      show _ = 0 + _ + (3 - (k : Int))
      omega
  | j + 1, q, B, ⟨C, hC, hB⟩, h => by
    have a := ex_1 (q := q) cl hm hst hL hC hB
    have b := ex_2 (q := q) cl hm hst hC
    have h2 := ex_3 cl hm hst hL j (q + 1) C hC (mxP_d (mxP_d h a.2 a.1) b.1 b.2)
    rw [show j + 1 + q = j + (q + 1) by omega]
    exact h2
/-- what is the most from the start is what the way back says -/
theorem rich_e (cl : cloN mv L) (hm : okK mk L) (hst : 0 ≤ st ∧ st < L) (hL : L ≤ 600) {n : Nat} {B : Int → Int} {v : Int} (hB : fwP mv mk st (n + 1) B) (h : mxP (fun x => ∃ t, (0 ≤ t ∧ t < 600) ∧ 0 ≤ B t ∧ x = B t) v) : (v = -1 ∧ rxF mv mk (rvF mv mk n) st 4 = -1 ∧ ryF mv mk (rvF mv mk n) st 4 = -2) ∨ (0 ≤ rxF mv mk (rvF mv mk n) st 4 ∧ (0 ≤ ryF mv mk (rvF mv mk n) st 4 ∧ ryF mv mk (rvF mv mk n) st 4 ≤ 3) ∧ v = 4 * rxF mv mk (rvF mv mk n) st 4 + 3 - ryF mv mk (rvF mv mk n) st 4) := by
  have h1 : mxP (exS mv mk B 0) v := mxP_cg h (fun x => ⟨fun ⟨t, a, b, c⟩ => ⟨t, a, b, Int.le_refl 0, by
    rw [c]
    show B t = B t + 4 * 0
    omega⟩, fun ⟨t, a, b, _, c⟩ => ⟨t, a, b, by
    rw [c]
    show B t + 4 * 0 = B t
    omega⟩⟩)
  have h2 := ex_3 cl hm hst hL n 0 B hB h1
  rw [Nat.add_zero] at h2
  rcases rxy (rxy_p (u := rvF mv mk n) cl hm hst) 4 (Nat.le_refl 4) with ⟨r1, r2, r3⟩ | ⟨p, p1, p2, p3, p4, p5, p6⟩
  · refine Or.inl ⟨?_, r1, r2⟩
    refine mxP_u h2 (mxP_0 (fun x hx => ?_))
    obtain ⟨k, k1, k2, -⟩ := hx
    have := r3 k k1
    omega
  · refine Or.inr ⟨p4, by omega, ?_⟩
    refine mxP_u h2 (Or.inr ⟨⟨p, p1, by omega, by omega⟩, fun x hx => ?_⟩)
    obtain ⟨k, k1, k2, k3⟩ := hx
    have a := p5 k k1
    by_cases w : k < p
    · have := p6 k w
      omega
    · omega
end RICHT
/-- what is answered -/
def ricF (mv : Int → Int → Int) (mk : Int → Int) (st : Int) : Nat → Int → Int
  | 0, what => if what = 0 then 0 else -2
  | n + 1, what => if ryF mv mk (rvF mv mk n) st 4 < 0 then -2 else if what = 0 then rxF mv mk (rvF mv mk n) st 4 else ryF mv mk (rvF mv mk n) st 4
