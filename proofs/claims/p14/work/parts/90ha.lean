/-! The cheapest: walks and what they cost -/
def wlkN (mv cs : Int → Int → Int) (st : Int) : Nat → Int → Int → Prop
  | 0, s, c => s = st ∧ c = 0
  | n + 1, s, c => ∃ s1 c1 k, wlkN mv cs st n s1 c1 ∧ (0 ≤ k ∧ k ≤ 3) ∧ ¬ mv s1 k = -1 ∧ s = mv s1 k ∧ c = c1 + cs s1 k
def wlkC (mv cs : Int → Int → Int) (st s c : Int) : Prop := ∃ n, wlkN mv cs st n s c
def csB (cs : Int → Int → Int) : Prop := ∀ s k : Int, 0 ≤ cs s k ∧ cs s k ≤ 99
section WKC
variable {mv cs : Int → Int → Int} {st L : Int}
theorem wlkC_0 : wlkC mv cs st st 0 := ⟨0, rfl, rfl⟩
theorem wlkC_s {s c k : Int} (h : wlkC mv cs st s c) (hk : 0 ≤ k ∧ k ≤ 3) (n : ¬ mv s k = -1) : wlkC mv cs st (mv s k) (c + cs s k) := by
  obtain ⟨q, h⟩ := h
  exact ⟨q + 1, s, c, k, h, hk, n, rfl, rfl⟩
theorem wlkN_b (cl : cloN mv L) (hb : csB cs) (hst : 0 ≤ st ∧ st < L) : ∀ (n : Nat) (s c : Int), wlkN mv cs st n s c → (0 ≤ s ∧ s < L) ∧ 0 ≤ c
  | 0, s, c, h => by
    obtain ⟨h1, h2⟩ := h
    omega
  | n + 1, s, c, ⟨s1, c1, k, h, hk, nz, es, ec⟩ => by
    have ih := wlkN_b cl hb hst n s1 c1 h
    have c2 := (cl s1 k ih.1.1 ih.1.2 hk.1 hk.2).resolve_left nz
    have b := hb s1 k
    omega
/-- the least that brings it to a flag -/
def lcP (mv cs : Int → Int → Int) (st f v : Int) : Prop := (v = -2 ∧ ∀ s c, wlkC mv cs st s c → ¬ s / 24 = f) ∨ ((∃ s, wlkC mv cs st s v ∧ s / 24 = f) ∧ ∀ s c, wlkC mv cs st s c → s / 24 = f → v ≤ c)
theorem lcP_u {f v w : Int} (h : lcP mv cs st f v) (k : lcP mv cs st f w) : v = w := by
  rcases h with ⟨h1, h2⟩ | ⟨⟨s, h1, h2⟩, h3⟩ <;> rcases k with ⟨k1, k2⟩ | ⟨⟨t, k1, k2⟩, k3⟩
  · omega
  · exact absurd k2 (h2 t w k1)
  · exact absurd h2 (k2 s v h1)
  · have a := h3 t w k1 k2
    have b := k3 s v h1 h2
    omega
/-- what no tipping makes less is least -/
theorem bf_le {D : Int → Int} (cl : cloN mv L) (hst : 0 ≤ st ∧ st < L) (d0 : D st = 0) (d1 : ∀ s k : Int, 0 ≤ s → s < L → 0 ≤ k → k ≤ 3 → 0 ≤ D s → ¬ mv s k = -1 → 0 ≤ D (mv s k) ∧ D (mv s k) ≤ D s + cs s k) : ∀ (n : Nat) (s c : Int), wlkN mv cs st n s c → (0 ≤ s ∧ s < L) ∧ 0 ≤ D s ∧ D s ≤ c
  | 0, s, c, h => by
    obtain ⟨h1, h2⟩ := h
    subst h1
    omega
  | n + 1, s, c, ⟨s1, c1, k, h, hk, nz, es, ec⟩ => by
    have ih := bf_le cl hst d0 d1 n s1 c1 h
    have c2 := (cl s1 k ih.1.1 ih.1.2 hk.1 hk.2).resolve_left nz
    have q := d1 s1 k ih.1.1 ih.1.2 hk.1 hk.2 ih.2.1 nz
    rw [es, ec]
    omega
end WKC
/-! how many -/
def cnF (w : Nat → Bool) : Nat → Nat
  | 0 => 0
  | n + 1 => cnF w n + (bif w n then 1 else 0)
def bw (w : Nat → Bool) (s : Nat) (b : Bool) : Nat → Bool := fun i => if i = s then b else w i
theorem bw_e (w : Nat → Bool) (s : Nat) (b : Bool) : bw w s b s = b := if_pos rfl
theorem bw_n {w : Nat → Bool} {s i : Nat} {b : Bool} (h : ¬ i = s) : bw w s b i = w i := if_neg h
theorem cnF_cg {w v : Nat → Bool} : ∀ n : Nat, (∀ i, i < n → w i = v i) → cnF w n = cnF v n
  | 0, _ => rfl
  | n + 1, h => by
    show cnF w n + (bif w n then 1 else 0) = cnF v n + (bif v n then 1 else 0)
    rw [cnF_cg n (fun i hi => h i (by omega)), h n (by omega)]
theorem cnF_t {w : Nat → Bool} {s : Nat} (h : w s = false) : ∀ n : Nat, s < n → cnF (bw w s true) n = cnF w n + 1
  | 0, l => by omega
  | n + 1, l => by
    show cnF (bw w s true) n + (bif bw w s true n then 1 else 0) = cnF w n + (bif w n then 1 else 0) + 1
    by_cases q : n = s
    · subst q
      rw [bw_e, h, cnF_cg n (fun i hi => bw_n (by omega))]
      rfl
    · rw [bw_n q, cnF_t h n (by omega)]
      omega
theorem cnF_f {w : Nat → Bool} {s : Nat} (h : w s = true) : ∀ n : Nat, s < n → cnF (bw w s false) n + 1 = cnF w n
  | 0, l => by omega
  | n + 1, l => by
    show cnF (bw w s false) n + (bif bw w s false n then 1 else 0) + 1 = cnF w n + (bif w n then 1 else 0)
    by_cases q : n = s
    · subst q
      rw [bw_e, h, cnF_cg n (fun i hi => bw_n (by omega))]
      rfl
    · rw [bw_n q]
      have := cnF_f h n (by omega)
      omega
theorem cnF_le (w : Nat → Bool) : ∀ n : Nat, cnF w n ≤ n
  | 0 => Nat.le_refl 0
  | n + 1 => by
    have ih := cnF_le w n
    show cnF w n + (bif w n then 1 else 0) ≤ n + 1
    cases w n
    · show cnF w n + 0 ≤ n + 1
      omega
    · show cnF w n + 1 ≤ n + 1
      omega
theorem cnF_z {w : Nat → Bool} : ∀ n : Nat, cnF w n = 0 → ∀ i, i < n → w i = false
  | 0, _, i, hi => by omega
  | n + 1, h, i, hi => by
    have h : cnF w n + (bif w n then 1 else 0) = 0 := h
    by_cases q : i = n
    · subst q
      cases e : w i with
      | false => rfl
      | true =>
        rw [e] at h
        have h : cnF w i + 1 = 0 := h
        omega
    · exact cnF_z n (by omega) i (by omega)
theorem cnF_a {w : Nat → Bool} : ∀ n : Nat, cnF w n = n → ∀ i, i < n → w i = true
  | 0, _, i, hi => by omega
  | n + 1, h, i, hi => by
    have h : cnF w n + (bif w n then 1 else 0) = n + 1 := h
    have l := cnF_le w n
    by_cases q : i = n
    · subst q
      cases e : w i with
      | true => rfl
      | false =>
        rw [e] at h
        have h : cnF w i + 0 = i + 1 := h
        omega
    · refine cnF_a n ?_ i (by omega)
      cases e : w n with
      | true =>
        rw [e] at h
        have h : cnF w n + 1 = n + 1 := h
        omega
      | false =>
        rw [e] at h
        have h : cnF w n + 0 = n + 1 := h
        omega
/-! lists of those that wait, one by one: each knows the one before and the one behind; r: later put in, higher -/
def liP (hd bf bh be : Nat → Int) (w : Nat → Bool) (r : Nat → Nat) : Prop := (∀ s : Nat, s < 600 → w s = true → ((bf s = -1 ∧ hd (Int.toNat (be s % 100)) = (s : Int)) ∨ ∃ p : Nat, p < 600 ∧ bf s = (p : Int) ∧ w p = true ∧ be p % 100 = be s % 100 ∧ bh p = (s : Int) ∧ r s < r p) ∧ (bh s = -1 ∨ ∃ q : Nat, q < 600 ∧ bh s = (q : Int) ∧ w q = true ∧ be q % 100 = be s % 100 ∧ bf q = (s : Int))) ∧ ∀ n : Nat, n < 100 → hd n = -1 ∨ ∃ s : Nat, s < 600 ∧ hd n = (s : Int) ∧ w s = true ∧ be s % 100 = (n : Int) ∧ bf s = -1
section LIP
variable {hd bf bh be : Nat → Int} {w : Nat → Bool} {r : Nat → Nat}
theorem r_top (r : Nat → Nat) : ∀ n : Nat, ∃ b, ∀ s, s < n → r s ≤ b
  | 0 => ⟨0, fun s h => by omega⟩
  | n + 1 => by
    obtain ⟨b, h⟩ := r_top r n
    refine ⟨b + r n, fun s hs => ?_⟩
    by_cases q : s = n
    · rw [q]
      omega
    · have := h s (by omega)
      omega
/-- an empty head: none waits there -/
theorem li_0 (h : liP hd bf bh be w r) {n : Nat} (_hn : n < 100) (e : hd n = -1) : ∀ s : Nat, s < 600 → w s = true → ¬ be s % 100 = (n : Int) := by
  obtain ⟨b, hb⟩ := r_top r 600
  have k : ∀ d s : Nat, s < 600 → w s = true → b - r s ≤ d → ¬ be s % 100 = (n : Int) := by
    intro d
    induction d with
    | zero =>
      intro s hs ws l eq
      rcases (h.1 s hs ws).1 with ⟨-, a⟩ | ⟨p, p1, -, -, -, -, p6⟩
      · rw [show Int.toNat (be s % 100) = n by omega, e] at a
        omega
      · have := hb p p1
        omega
    | succ d ih =>
      intro s hs ws l eq
      rcases (h.1 s hs ws).1 with ⟨-, a⟩ | ⟨p, p1, -, p3, p4, -, p6⟩
      · rw [show Int.toNat (be s % 100) = n by omega, e] at a
        omega
      · have := hb p p1
        exact ih p p1 p3 (by omega) (p4.trans eq)
  exact fun s hs ws => k (b - r s) s hs ws (Nat.le_refl _)
/-- one is put in at the head -/
theorem li_in (h : liP hd bf bh be w r) {hd2 bf2 bh2 be2 : Nat → Int} {t : Nat} {c : Int} (ht : t < 600) (wt : w t = false) (_hc : 0 ≤ c) (a1 : hd2 (Int.toNat (c % 100)) = (t : Int)) (a2 : ∀ n : Nat, ¬ n = Int.toNat (c % 100) → hd2 n = hd n) (b1 : bf2 t = -1) (b2 : ∀ s : Nat, ¬ s = t → hd (Int.toNat (c % 100)) = (s : Int) → bf2 s = (t : Int)) (b3 : ∀ s : Nat, ¬ s = t → ¬ hd (Int.toNat (c % 100)) = (s : Int) → bf2 s = bf s) (d1 : bh2 t = hd (Int.toNat (c % 100))) (d2 : ∀ s : Nat, ¬ s = t → bh2 s = bh s) (e1 : be2 t = c) (e2 : ∀ s : Nat, ¬ s = t → be2 s = be s) : ∃ r2, liP hd2 bf2 bh2 be2 (bw w t true) r2 := by
  have hn : Int.toNat (c % 100) < 100 := by omega
  have nt : ∀ s, w s = true → ¬ s = t := fun s ws q => by
    rw [q, wt] at ws
    exact absurd ws (by decide)
  have hz := h.2 _ hn
  refine ⟨fun i => if i = t then r (Int.toNat (hd (Int.toNat (c % 100)))) + 1 else r i, fun s hs ws => ?_, fun n hn2 => ?_⟩
  · by_cases q : s = t
    · rw [q]
      refine ⟨Or.inl ⟨b1, by rw [e1]; exact a1⟩, ?_⟩
      rcases hz with e | ⟨z, z1, z2, z3, z4, z5⟩
      · exact Or.inl (d1.trans e)
      · have zt := nt z z3
        exact Or.inr ⟨z, z1, d1.trans z2, (bw_n zt).trans z3, by rw [e1, e2 z zt]; omega, b2 z zt z2⟩
    · rw [bw_n q] at ws
      obtain ⟨k1, k2⟩ := h.1 s hs ws
      constructor
      · by_cases y : hd (Int.toNat (c % 100)) = (s : Int)
        · refine Or.inr ⟨t, ht, b2 s q y, bw_e _ _ _, ?_, d1.trans y, ?_⟩
          · rw [e1, e2 s q]
            rcases hz with e | ⟨z, z1, z2, z3, z4, z5⟩
            · omega
            · rw [show z = s by omega] at z4
              clear k1 k2
              omega
          · show (if s = t then r (Int.toNat (hd (Int.toNat (c % 100)))) + 1 else r s) < (if t = t then r (Int.toNat (hd (Int.toNat (c % 100)))) + 1 else r t)
            rw [if_neg q, if_pos rfl, show Int.toNat (hd (Int.toNat (c % 100))) = s by omega]
            omega
        · have f := b3 s q y
          rcases k1 with ⟨p1, p2⟩ | ⟨p, p1, p2, p3, p4, p5, p6⟩
          · refine Or.inl ⟨f.trans p1, ?_⟩
            rw [e2 s q, a2]
            · exact p2
            · intro z
              rw [z] at p2
              exact y p2
          · have pt := nt p p3
            refine Or.inr ⟨p, p1, f.trans p2, (bw_n pt).trans p3, by rw [e2 p pt, e2 s q]; exact p4, (d2 p pt).trans p5, ?_⟩
            show (if s = t then r (Int.toNat (hd (Int.toNat (c % 100)))) + 1 else r s) < (if p = t then r (Int.toNat (hd (Int.toNat (c % 100)))) + 1 else r p)
            rw [if_neg q, if_neg pt]
            exact p6
      · rcases k2 with p1 | ⟨p, p1, p2, p3, p4, p5⟩
        · exact Or.inl ((d2 s q).trans p1)
        · have pt := nt p p3
          refine Or.inr ⟨p, p1, (d2 s q).trans p2, (bw_n pt).trans p3, by rw [e2 p pt, e2 s q]; exact p4, ?_⟩
          rw [b3 p pt]
          · exact p5
          · intro y
            rcases hz with e | ⟨z, z1, z2, z3, z4, z5⟩
            · omega
            · rw [show z = p by omega] at z5
              omega
  · by_cases q : n = Int.toNat (c % 100)
    · rw [q]
      exact Or.inr ⟨t, ht, a1, bw_e _ _ _, by rw [e1]; clear hz; omega, b1⟩
    · rw [a2 n q]
      rcases h.2 n hn2 with p1 | ⟨s, s1, s2, s3, s4, s5⟩
      · exact Or.inl p1
      · have st := nt s s3
        refine Or.inr ⟨s, s1, s2, (bw_n st).trans s3, by rw [e2 s st]; exact s4, ?_⟩
        rw [b3 s st]
        · exact s5
        · intro y
          rcases hz with e | ⟨z, z1, z2, z3, z4, z5⟩
          · omega
          · rw [show z = s by omega] at z4
            omega
/-- one is taken out -/
theorem li_out (h : liP hd bf bh be w r) {hd2 bf2 bh2 : Nat → Int} {x : Nat} (hx : x < 600) (wx : w x = true) (_hb : 0 ≤ be x) (F1 : ∀ s : Nat, ¬ bh x = (s : Int) → bf2 s = bf s) (F2 : ∀ s : Nat, bh x = (s : Int) → bf2 s = bf x) (H1 : ∀ s : Nat, ¬ bf x = (s : Int) → bh2 s = bh s) (H2 : ∀ s : Nat, bf x = (s : Int) → bh2 s = bh x) (D1 : ∀ n : Nat, ¬ (bf x = -1 ∧ n = Int.toNat (be x % 100)) → hd2 n = hd n) (D2 : bf x = -1 → hd2 (Int.toNat (be x % 100)) = bh x) : liP hd2 bf2 bh2 be (bw w x false) r := by
  obtain ⟨x1, x2⟩ := h.1 x hx wx
  have nx : ∀ {s : Nat}, bw w x false s = true → ¬ s = x ∧ w s = true := fun {s} ws => by
    by_cases q : s = x
    · rw [q, bw_e] at ws
      exact absurd ws (by decide)
    · rw [bw_n q] at ws
      exact ⟨q, ws⟩
  have yw : ∀ {s : Nat}, ¬ s = x → w s = true → bw w x false s = true := fun {s} q ws => (bw_n q).trans ws
  -- who knows x
  have kb : ∀ s : Nat, s < 600 → w s = true → bh s = (x : Int) → bf x = (s : Int) := fun s hs ws e => by
    rcases (h.1 s hs ws).2 with a | ⟨q, q1, q2, q3, q4, q5⟩
    · omega
    · rw [show q = x by omega] at q5
      exact q5
  have kf : ∀ s : Nat, s < 600 → w s = true → bf s = (x : Int) → bh x = (s : Int) := fun s hs ws e => by
    rcases (h.1 s hs ws).1 with ⟨a, -⟩ | ⟨q, q1, q2, q3, q4, q5, q6⟩
    · omega
    · rw [show q = x by omega] at q5
      exact q5
  refine ⟨fun s hs ws0 => ?_, fun n hn => ?_⟩
  · obtain ⟨sx, ws⟩ := nx ws0
    obtain ⟨k1, k2⟩ := h.1 s hs ws
    constructor
    · by_cases q : bh x = (s : Int)
      · have f := F2 s q
        have sb : be x % 100 = be s % 100 ∧ r s < r x := by
          rcases x2 with a | ⟨q2, a1, a2, a3, a4, a5⟩
          · omega
          · rw [show q2 = s by omega] at a4 a5
            rcases k1 with ⟨b1, -⟩ | ⟨p, p1, p2, p3, p4, p5, p6⟩
            · omega
            · rw [show p = x by omega] at p6
              exact ⟨a4.symm, p6⟩
        rcases x1 with ⟨a1, a2⟩ | ⟨p, p1, p2, p3, p4, p5, p6⟩
        · refine Or.inl ⟨f.trans a1, ?_⟩
          rw [← sb.1, D2 a1]
          exact q
        · have px : ¬ p = x := fun y => by
            rw [y] at p6
            omega
          exact Or.inr ⟨p, p1, f.trans p2, yw px p3, p4.trans sb.1, (H2 p p2).trans q, by omega⟩
      · have f := F1 s q
        rcases k1 with ⟨a1, a2⟩ | ⟨p, p1, p2, p3, p4, p5, p6⟩
        · refine Or.inl ⟨f.trans a1, ?_⟩
          rw [D1]
          · exact a2
          · rintro ⟨y, z⟩
            rcases x1 with ⟨-, b⟩ | ⟨p, p1, p2, -⟩
            · rw [z, b] at a2
              clear x2 k2
              omega
            · omega
        · have px : ¬ p = x := fun y => by
            rw [y] at p2
            exact q (kf s hs ws p2)
          refine Or.inr ⟨p, p1, f.trans p2, yw px p3, p4, ?_, p6⟩
          rw [H1]
          · exact p5
          · intro z
            rcases x1 with ⟨b, -⟩ | ⟨p7, a1, a2, a3, a4, a5, a6⟩
            · omega
            · rw [show p7 = p by omega, p5] at a5
              clear x2 k2
              omega
    · by_cases q : bf x = (s : Int)
      · have f := H2 s q
        have sb : be s % 100 = be x % 100 := by
          rcases x1 with ⟨b, -⟩ | ⟨p7, a1, a2, a3, a4, a5, a6⟩
          · omega
          · rw [show p7 = s by omega] at a4
            exact a4
        rcases x2 with a | ⟨p, p1, p2, p3, p4, p5⟩
        · exact Or.inl (f.trans a)
        · have px : ¬ p = x := fun y => by
            rcases (h.1 p p1 p3).1 with ⟨b1, -⟩ | ⟨p7, -, b2, -, -, -, b6⟩
            · omega
            · rw [show p7 = p by omega] at b6
              omega
          exact Or.inr ⟨p, p1, f.trans p2, yw px p3, p4.trans sb.symm, (F2 p p2).trans q⟩
      · have f := H1 s q
        rcases k2 with a | ⟨p, p1, p2, p3, p4, p5⟩
        · exact Or.inl (f.trans a)
        · have px : ¬ p = x := fun y => by
            rw [y] at p2
            exact q (kb s hs ws p2)
          refine Or.inr ⟨p, p1, f.trans p2, yw px p3, p4, ?_⟩
          rw [F1]
          · exact p5
          · intro z
            rcases x2 with b | ⟨p7, a1, a2, a3, a4, a5⟩
            · omega
            · rw [show p7 = p by omega, p5] at a5
              clear x1 k1
              omega
  · by_cases y : bf x = -1 ∧ n = Int.toNat (be x % 100)
    · obtain ⟨y1, y2⟩ := y
      rw [y2, D2 y1]
      rcases x2 with a | ⟨p, p1, p2, p3, p4, p5⟩
      · exact Or.inl a
      · have px : ¬ p = x := fun z => by
          rw [z] at p5
          omega
        exact Or.inr ⟨p, p1, p2, yw px p3, by omega, (F2 p p2).trans y1⟩
    · rw [D1 n y]
      rcases h.2 n hn with a | ⟨s, s1, s2, s3, s4, s5⟩
      · exact Or.inl a
      · have sx : ¬ s = x := fun z => by
          rw [z] at s4 s5
          exact y ⟨s5, by omega⟩
        refine Or.inr ⟨s, s1, s2, yw sx s3, s4, ?_⟩
        by_cases z : bh x = (s : Int)
        · rcases x2 with b | ⟨p7, a1, a2, a3, a4, a5⟩
          · omega
          · rw [show p7 = s by omega] at a5
            omega
        · exact (F1 s z).trans s5
end LIP
