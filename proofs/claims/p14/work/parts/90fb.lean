/-! All that is come to stands in the order once, by tippings that never fall -/
/-- who has a number of tippings stands in the order -/
def okV (W : Wk) : Prop := ∀ j : Nat, 0 ≤ W 2 j → ∃ i : Nat, (i : Int) < W 0 0 ∧ Int.toNat (W 1 i) = j
def okM (W : Wk) : Prop := ∀ a b : Nat, a ≤ b → (b : Int) < W 0 0 → W 2 (Int.toNat (W 1 a)) ≤ W 2 (Int.toNat (W 1 b))
def okB (W : Wk) (d : Int) : Prop := ∀ b : Nat, (b : Int) < W 0 0 → W 2 (Int.toNat (W 1 b)) ≤ d
section MONO
variable {W : Wk} {s v d N : Int} {mv : Int → Int → Int}
theorem vis_V (o : okWk N W) (k : okV W) (hv : 0 ≤ v) : okV (vis W s v) := by
  by_cases h : W 0 0 < 600
  · intro j hj
    rw [vis_2 h] at hj
    by_cases q : j = Int.toNat s
    · exact ⟨Int.toNat (W 0 0), by have := o.1.1; rw [vis_0 h]; omega, by rw [vis_n h (by have := o.1.1; omega)]; exact q.symm⟩
    · rw [if_neg q] at hj
      obtain ⟨i, i1, i2⟩ := k j hj
      exact ⟨i, by rw [vis_0 h]; omega, by rw [vis_1 o.1.1 i1]; exact i2⟩
  · have e : vis W s v = W := by unfold vis; rw [if_neg h]
    rw [e]; exact k
/-- a new one, by as many tippings as any -/
theorem vis_M (o : okWk N W) (k : okM W) (b : okB W v) (n : W 2 (Int.toNat s) = -1) : okM (vis W s v) ∧ okB (vis W s v) v := by
  by_cases h : W 0 0 < 600
  · have e : ∀ i : Nat, (i : Int) < W 0 0 → vis W s v 2 (Int.toNat (vis W s v 1 i)) = W 2 (Int.toNat (W 1 i)) := fun i hi => by
      rw [vis_1 o.1.1 hi, vis_2 h, if_neg]
      intro q
      have z := o.2.2.2 i hi
      rw [q, n] at z
      omega
    have e2 : ∀ i : Nat, (i : Int) = W 0 0 → vis W s v 2 (Int.toNat (vis W s v 1 i)) = v := fun i hi => by
      rw [vis_n h hi, vis_2 h, if_pos rfl]
    refine ⟨fun x y l hy => ?_, fun y hy => ?_⟩
    · rw [vis_0 h] at hy
      by_cases q : (y : Int) < W 0 0
      · rw [e y q, e x (by omega)]
        exact k x y l q
      · rw [e2 y (by omega)]
        by_cases q2 : (x : Int) < W 0 0
        · rw [e x q2]; exact b x q2
        · rw [e2 x (by omega)]; exact Int.le_refl _
    · rw [vis_0 h] at hy
      by_cases q : (y : Int) < W 0 0
      · rw [e y q]; exact b y q
      · rw [e2 y (by omega)]; exact Int.le_refl _
  · have e : vis W s v = W := by unfold vis; rw [if_neg h]
    rw [e]; exact ⟨k, b⟩
theorem vk_M {k : Int} (c : cloN mv N) (o : okWk N W) (kV : okV W) (kM : okM W) (kB : okB W (d + 1)) (hs : 0 ≤ s ∧ s < N) (hd : W 2 (Int.toNat s) = d ∧ 0 ≤ d) (_hk : 0 ≤ k ∧ k ≤ 3) : okV (vk mv W s k) ∧ okM (vk mv W s k) ∧ okB (vk mv W s k) (d + 1) := by
  unfold vk
  split
  · exact ⟨kV, kM, kB⟩
  · split
    · next q2 =>
      have b := o.2.2.1 (Int.toNat s)
      have n := o.1
      have e : wr (W 2 (Int.toNat s) + 1) = d + 1 := by
        rw [wr_id (by omega) (by omega), hd.1]
      rw [e]
      have m := vis_M o kM kB q2
      exact ⟨vis_V o kV (by omega), m.1, m.2⟩
    · exact ⟨kV, kM, kB⟩
theorem v4_M (c : cloN mv N) (o : okWk N W) (kV : okV W) (kM : okM W) (kB : okB W (d + 1)) (hs : 0 ≤ s ∧ s < N) (hd : W 2 (Int.toNat s) = d ∧ 0 ≤ d) : ∀ k : Nat, k ≤ 4 → okV (v4 mv W s k) ∧ okM (v4 mv W s k) ∧ okB (v4 mv W s k) (d + 1)
  | 0, _ => ⟨kV, kM, kB⟩
  | k + 1, hk => by
    have ih := v4_M c o kV kM kB hs hd k (by omega)
    have o4 := v4_ok c o hs (by rw [hd.1]; exact hd.2) k (by omega)
    exact vk_M c o4 ih.1 ih.2.1 ih.2.2 hs ⟨(v4_2 (by rw [hd.1]; exact hd.2) k).trans hd.1, hd.2⟩ ⟨by omega, by omega⟩
end MONO
/-- the walk as a whole -/
theorem vr_M {mv : Int → Int → Int} {N : Int} (c : cloN mv N) : ∀ (f i : Nat) (W : Wk), okWk N W → okV W → okM W → ((i : Int) < W 0 0 → okB W (W 2 (Int.toNat (W 1 i)) + 1)) → okV (vr mv f i W) ∧ okM (vr mv f i W)
  | 0, _, _, _, kV, kM, _ => ⟨kV, kM⟩
  | f + 1, i, W, o, kV, kM, kB => by
    show okV (if (i : Int) < W 0 0 then vr mv f (i + 1) (v4 mv W (W 1 i) 4) else W) ∧ okM (if (i : Int) < W 0 0 then vr mv f (i + 1) (v4 mv W (W 1 i) 4) else W)
    by_cases h : (i : Int) < W 0 0
    · rw [if_pos h]
      have hs := o.2.1 i h
      have hd := o.2.2.2 i h
      have k := v4_M (d := W 2 (Int.toNat (W 1 i))) c o kV kM (kB h) hs ⟨rfl, hd⟩ 4 (Nat.le_refl _)
      have o4 := v4_ok c o hs hd 4 (Nat.le_refl _)
      refine vr_M c f (i + 1) _ o4 k.1 k.2.1 (fun h2 b hb => ?_)
      have m := k.2.1 i (i + 1) (by omega) h2
      have e : v4 mv W (W 1 i) 4 2 (Int.toNat (v4 mv W (W 1 i) 4 1 i)) = W 2 (Int.toNat (W 1 i)) := by
        rw [v4_1 o.1.1 h, v4_2 hd]
      have q := k.2.2 b hb
      omega
    · rw [if_neg h]; exact ⟨kV, kM⟩
theorem FIN_M {mv : Int → Int → Int} {N st : Int} (c : cloN mv N) (h : 0 ≤ st ∧ st < N) : okV (FIN mv st) ∧ okM (FIN mv st) := by
  have o := vis_ok (v := 0) (okW_0 N) h ⟨Int.le_refl _, Int.le_refl _⟩
  have l : w00 0 0 < 600 := by decide
  have k0 : okV w00 := fun j hj => by
    have : (0 : Int) ≤ -1 := hj
    omega
  have m0 : okM w00 := fun a b _ hb => by
    have : (b : Int) < 0 := hb
    omega
  have b0 : okB w00 0 := fun b hb => by
    have : (b : Int) < 0 := hb
    omega
  have m := vis_M (s := st) (v := 0) (okW_0 N) m0 b0 rfl
  refine vr_M c 600 0 _ o (vis_V (okW_0 N) k0 (Int.le_refl _)) m.1 (fun h2 b hb => ?_)
  have q := m.2 b hb
  have z := o.2.2.2 0 h2
  omega
/-- the start stands first -/
theorem vr_1 {mv : Int → Int → Int} : ∀ (f i : Nat) (W : Wk), 0 < W 0 0 → vr mv f i W 1 0 = W 1 0 ∧ W 0 0 ≤ vr mv f i W 0 0 ∧ ∀ j, 0 ≤ W 2 j → vr mv f i W 2 j = W 2 j
  | 0, _, _, _ => ⟨rfl, Int.le_refl _, fun _ _ => rfl⟩
  | f + 1, i, W, h => by
    show (if (i : Int) < W 0 0 then vr mv f (i + 1) (v4 mv W (W 1 i) 4) else W) 1 0 = W 1 0 ∧ W 0 0 ≤ (if (i : Int) < W 0 0 then vr mv f (i + 1) (v4 mv W (W 1 i) 4) else W) 0 0 ∧ ∀ j, 0 ≤ W 2 j → (if (i : Int) < W 0 0 then vr mv f (i + 1) (v4 mv W (W 1 i) 4) else W) 2 j = W 2 j
    by_cases q : (i : Int) < W 0 0
    · rw [if_pos q]
      have l := v4_le (mv := mv) (W := W) (s := W 1 i) 4
      have ih := vr_1 (mv := mv) f (i + 1) (v4 mv W (W 1 i) 4) (by omega)
      refine ⟨ih.1.trans (v4_1 (by omega) (by show ((0 : Nat) : Int) < W 0 0; omega) 4), by omega, fun j hj => ?_⟩
      have e := v4_2 (mv := mv) (s := W 1 i) hj 4
      exact (ih.2.2 j (by rw [e]; exact hj)).trans e
    · rw [if_neg q]; exact ⟨rfl, Int.le_refl _, fun _ _ => rfl⟩
theorem FIN_1 {mv : Int → Int → Int} {st : Int} : FIN mv st 1 0 = st ∧ 1 ≤ FIN mv st 0 0 ∧ FIN mv st 2 (Int.toNat st) = 0 := by
  have l : w00 0 0 < 600 := by decide
  have e0 : vis w00 st 0 0 0 = 1 := vis_0 l
  have e1 : vis w00 st 0 1 0 = st := vis_n l rfl
  have e2 : vis w00 st 0 2 (Int.toNat st) = 0 := by rw [vis_2 l, if_pos rfl]
  have k := vr_1 (mv := mv) 600 0 (vis w00 st 0) (by rw [e0]; decide)
  exact ⟨k.1.trans e1, by rw [← e0]; exact k.2.1, (k.2.2 _ (by rw [e2]; decide)).trans e2⟩
/-! The nearest of those that are so: its flag a, its tippings b -/
def nrP (N : Int) (W : Wk) (D : Int → Prop) (a b : Int) : Prop := (a = -2 ∧ b = -2 ∧ ∀ s : Int, 0 ≤ s → s < N → 0 ≤ W 2 (Int.toNat s) → ¬ D s) ∨ ∃ s : Int, (0 ≤ s ∧ s < N) ∧ 0 ≤ W 2 (Int.toNat s) ∧ D s ∧ a = s / 24 ∧ b = W 2 (Int.toNat s) ∧ ∀ t : Int, 0 ≤ t → t < N → 0 ≤ W 2 (Int.toNat t) → D t → b < W 2 (Int.toNat t) ∨ (b = W 2 (Int.toNat t) ∧ a ≤ t / 24)
theorem nrP_u {N : Int} {W : Wk} {D : Int → Prop} {a b c d : Int} (h : nrP N W D a b) (k : nrP N W D c d) : a = c ∧ b = d := by
  rcases h with ⟨h1, h2, h3⟩ | ⟨s, s1, s2, s3, s4, s5, s6⟩ <;> rcases k with ⟨k1, k2, k3⟩ | ⟨t, t1, t2, t3, t4, t5, t6⟩
  · exact ⟨h1.trans k1.symm, h2.trans k2.symm⟩
  · exact absurd t3 (h3 t t1.1 t1.2 t2)
  · exact absurd s3 (k3 s s1.1 s1.2 s2)
  · have p := s6 t t1.1 t1.2 t2 t3
    have q := t6 s s1.1 s1.2 s2 s3
    omega
/-- in the order -/
theorem ord_V {N s : Int} {W : Wk} (o : okWk N W) (k : okV W) (hs : 0 ≤ s ∧ s < N) (h : 0 ≤ W 2 (Int.toNat s)) : ∃ i : Nat, (i : Int) < W 0 0 ∧ W 1 i = s := by
  obtain ⟨i, i1, i2⟩ := k _ h
  have b := o.2.1 i i1
  exact ⟨i, i1, by omega⟩
