/-! What stays over every step: beyond the yard no marks, of crates that are not there none -/
theorem ti_lo {Y r : Ro} {E : Lw} {c k : Int} {j : Nat} (hc : 0 ≤ c ∧ c < Y 3) (y3 : Y 3 ≤ 3) (h : j < 25 ∨ (25 + 6 * Y 3 ≤ (j : Int) ∧ j < 43)) (hn : ¬ j = Int.toNat (nxN Y (fC r c) k)) : tiN Y E r c k j = r j := by
  have b : tiB Y E r c k j = r j := by
    unfold tiB
    rw [ro_ne (by omega), ro_ne (by omega), ro_ne (by omega)]
    unfold trn
    rw [if_neg (by omega)]
  unfold tiN
  split
  · rw [ro_ne hn]; exact b
  · split
    · rw [ro_ne (by omega)]; exact b
    · exact b
/-- crates stand in the yard, and beyond it nothing is marked -/
def oz (Y r : Ro) : Prop := okR Y r ∧ zQ Y r
theorem cn_ne {Y r : Ro} {c k d : Int} (cn : canN Y r c k) (y3 : Y 3 ≤ 3) (d0 : 0 ≤ d) (d1 : d < Y 3) : ¬ fC r d = nxN Y (fC r c) k := by
  have h : d = 0 ∨ d = 1 ∨ d = 2 := by omega
  rcases h with rfl | rfl | rfl
  · exact fun w => cn.2.2.1 ⟨by omega, w⟩
  · exact fun w => cn.2.2.2.1 ⟨by omega, w⟩
  · exact fun w => cn.2.2.2.2 ⟨by omega, w⟩
theorem oz_ti {Y r : Ro} {E : Lw} {c k : Int} (oY : okY Y) (h : oz Y r) (hc : 0 ≤ c ∧ c < Y 3) (hk : 0 ≤ k ∧ k ≤ 3) (cn : canN Y r c k) : oz Y (tiN Y E r c k) := by
  have nz_ := cn.1
  have nb := (nx_b oY (h.1 c hc.1 hc.2) hk).resolve_left nz_
  have b := wh_b oY.1 oY.2.1
  have y3 := oY.2.2
  refine ⟨okR_ti oY h.1 hc hk nz_, ⟨fun j h1 h2 => ?_, fun j h1 h2 => ?_⟩, fun d e d0 d1 e0 e1 q => ?_⟩
  · rw [ti_lo hc y3.2 (Or.inl h2) (by omega)]
    exact h.2.1.1 j h1 h2
  · rw [ti_lo hc y3.2 (Or.inr ⟨h1, h2⟩) (by omega)]
    exact h.2.1.2 j h1 h2
  · rw [fC_ti ⟨hc.1, by omega⟩ ⟨d0, by omega⟩ (by omega), fC_ti ⟨hc.1, by omega⟩ ⟨e0, by omega⟩ (by omega)] at q
    by_cases a : d = c
    · by_cases b : e = c
      · omega
      · rw [if_pos a, if_neg b] at q
        exact absurd q.symm (cn_ne cn y3.2 e0 e1)
    · by_cases b : e = c
      · rw [if_neg a, if_pos b] at q
        exact absurd q (cn_ne cn y3.2 d0 d1)
      · rw [if_neg a, if_neg b] at q
        exact h.2.2 d e d0 d1 e0 e1 q
theorem oz_sl {Y r : Ro} {E : Lw} {S c k w : Int} (oY : okY Y) (h : oz Y r) (hc : 0 ≤ c ∧ c < Y 3) (hk : 0 ≤ k ∧ k ≤ 3) (cn : canN Y r c k) : oz Y (slN Y E S r c k w) := by
  unfold slN
  split
  · exact oz_ti oY h hc hk cn
  · exact h
theorem oz_pa {Y r : Ro} {E : Lw} {S c : Int} (oY : okY Y) (h : oz Y r) (hc : 0 ≤ c ∧ c < Y 3) : oz Y (paN Y E S r c) := by
  have l := lot_b (n := 4) (s := S) (w := whN r c) (by decide)
  have hk : 0 ≤ lotI 4 S (whN r c) ∧ lotI 4 S (whN r c) ≤ 3 := ⟨l.1, by omega⟩
  unfold paN
  generalize lotI 4 S (whN r c) = k at hk
  by_cases q : canB Y r c k = true
  · rw [if_pos q]
    have h2 := oz_ti (E := E) oY h hc hk (canB_t.mp q)
    by_cases q2 : canB Y (tiN Y E r c k) c k = true
    · rw [if_pos q2]
      exact oz_sl oY h2 hc hk (canB_t.mp q2)
    · rw [if_neg q2]
      exact h2
  · rw [if_neg q]
    exact h
theorem oz_ps {Y r : Ro} {E : Lw} {S : Int} (oY : okY Y) (h : oz Y r) : ∀ n : Nat, (n : Int) ≤ Y 3 → oz Y (psN Y E S r n)
  | 0, _ => h
  | n + 1, hn => oz_pa oY (oz_ps oY h n (by omega)) ⟨by omega, by omega⟩
theorem oz_u {Y r : Ro} {i : Nat} {v : Int} (oY : okY Y) (h : oz Y r) (hi : 46 ≤ i) : oz Y (ro_u r i v) := by
  have y3 := oY.2.2
  refine ⟨fun c c0 c1 => ?_, ⟨fun j h1 h2 => ?_, fun j h1 h2 => ?_⟩, fun d e d0 d1 e0 e1 q => ?_⟩
  · rw [fC_ne (by omega)]; exact h.1 c c0 c1
  · rw [ro_ne (by omega)]; exact h.2.1.1 j h1 h2
  · rw [ro_ne (by omega)]; exact h.2.1.2 j h1 h2
  · rw [fC_ne (by omega), fC_ne (by omega)] at q
    exact h.2.2 d e d0 d1 e0 e1 q
theorem oz_go {Y r : Ro} {E : Lw} {S : Int} (oY : okY Y) (h : oz Y r) : ∀ n : Nat, oz Y (goN Y E S r n)
  | 0 => h
  | n + 1 => by
    have h2 := oz_go (E := E) (S := S) oY h n
    show oz Y (miN Y E S (goN Y E S r n))
    unfold miN
    exact oz_u oY (oz_ps oY h2 _ (by have := oY.2.2; omega)) (by decide)
theorem zR_pa {A : Ab} {x k : Int} (h : zQ A.Y A.r) (hx : 0 ≤ x ∧ x < A.Y 0 * A.Y 1) (b : A.Y 0 * A.Y 1 ≤ 25) (y3 : 0 ≤ A.Y 3) : zQ A.Y (ro_u A.r (Int.toNat x) k) := by
  refine ⟨⟨fun j h1 h2 => ?_, fun j h1 h2 => ?_⟩, fun d e d0 d1 e0 e1 q => ?_⟩
  · rw [ro_ne (by omega)]; exact h.1.1 j h1 h2
  · rw [ro_ne (by omega)]; exact h.1.2 j h1 h2
  · rw [fC_ne (by omega), fC_ne (by omega)] at q
    exact h.2 d e d0 d1 e0 e1 q
/-- of all rows that are kept -/
def okZ (A : Ab) : Prop := zQ A.Y A.r ∧ (∀ q : Nat, q < A.n → zQ A.Y (A.H q)) ∧ ∀ s : Nat, s < 3 → ¬ A.K s = 0 → zQ A.Y (A.S s)
theorem okZ_no {A : Ab} {r : Ro} (h : okZ A) (n40 : A.n ≤ 40) (hr : zQ A.Y r) : okZ (noA A r) := by
  refine ⟨hr, fun q hq => ?_, h.2.2⟩
  have hq2 : q < noN A.n := hq
  show zQ A.Y (noH A.n A.H A.r q)
  unfold noN at hq2
  unfold noH
  by_cases z : A.n = 40
  · rw [if_pos z] at hq2 ⊢
    by_cases y : q = 39
    · rw [if_pos y]; exact h.1
    · rw [if_neg y]; exact h.2.1 _ (by omega)
  · rw [if_neg z] at hq2 ⊢
    by_cases y : q = A.n
    · rw [if_pos y]; exact h.1
    · rw [if_neg y]; exact h.2.1 _ (by omega)
theorem okZ_un {A : Ab} (h : okZ A) (n0 : ¬ A.n = 0) : okZ (unB A) := ⟨h.2.1 _ (by omega), fun q hq => h.2.1 q (by have hq2 : q < A.n - 1 := hq; omega), h.2.2⟩
theorem okZ_ho {A : Ab} {s : Nat} (h : okZ A) : okZ (hoA A s) := by
  refine ⟨h.1, h.2.1, fun t ht z => ?_⟩
  have z2 : ¬ (if t = s then 1 else A.K t) = 0 := z
  show zQ A.Y (if t = s then A.r else A.S t)
  by_cases q : t = s
  · rw [if_pos q]; exact h.1
  · rw [if_neg q] at z2 ⊢
    exact h.2.2 t ht z2
theorem okZ_re {A : Ab} {s : Nat} (h : okZ A) (hs : s < 3) (z : ¬ A.K s = 0) : okZ (reA A s) := ⟨h.2.2 s hs z, fun q hq => absurd hq (Nat.not_lt_zero q), h.2.2⟩
theorem okZ_bg {s : Ps} {E : Lw} (h : zQ (bgY s) (bgR s)) : okZ (bgA s E) := ⟨h, fun q hq => absurd hq (Nat.not_lt_zero q), fun t _ z => absurd rfl z⟩
