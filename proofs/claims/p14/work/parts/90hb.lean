theorem leE_G {m0 m : Mm} (h : ∃ E, LSd m0 11 E) (g : G m0 m) : ∃ E, LSd m 11 E := by
  obtain ⟨E, h⟩ := h
  exact ⟨E, ls_fr h (g.2.1 11 4 rfl) (fun j => g.2.1 13 j rfl) (fun j => g.2.1 14 j rfl)⟩
/-- the class's lists -/
def liM (m : Mm) (w : Nat → Bool) (r : Nat → Nat) : Prop := liP (rd m 46) (rd m 47) (rd m 48) (rd m (Int.toNat (rd m 39 7))) w r ∧ rd m 39 12 = ((cnF w 600 : Nat) : Int)
/-- what the lists' work leaves -/
def frL (m m2 : Mm) : Prop := ∀ i j : Nat, ¬ i = 46 → ¬ i = 47 → ¬ i = 48 → ¬ (i = 39 ∧ j = 12) → rd m2 i j = rd m i j
def u1P (m m50 : Mm) (x1 : Int) : Prop := (rd m 47 (Int.toNat x1) = -1 ∧ m50 = wt m 46 (Int.toNat (rd m (Int.toNat (rd m 39 7)) (Int.toNat x1) % 100)) (rd m 48 (Int.toNat x1))) ∨ (¬ rd m 47 (Int.toNat x1) = -1 ∧ m50 = wt m 48 (Int.toNat (rd m 47 (Int.toNat x1))) (rd m 48 (Int.toNat x1)))
def u2P (m50 m77 : Mm) (x1 : Int) : Prop := (rd m50 48 (Int.toNat x1) = -1 ∧ m77 = m50) ∨ (¬ rd m50 48 (Int.toNat x1) = -1 ∧ m77 = wt m50 47 (Int.toNat (rd m50 48 (Int.toNat x1))) (rd m50 47 (Int.toNat x1)))
/-- behind unlink -/
def ulP (m m2 : Mm) (x1 : Int) : Prop := frL m m2 ∧ ∀ w r, liM m w r → w (Int.toNat x1) = true → liM m2 (bw w (Int.toNat x1) false) r
theorem ul_of {m m50 m77 m84 : Mm} {x1 : Int} (T : Ty m) (hx : 0 ≤ x1 ∧ x1 < 600) (hb : 0 ≤ rd m (Int.toNat (rd m 39 7)) (Int.toNat x1)) (d50 : u1P m m50 x1) (d77 : u2P m50 m77 x1) (e84 : m84 = wt m77 39 12 (wr ((rd m77 39 12) - 1))) : ulP m m84 x1 := by
  have t7 := ty_39_7 T
  have t47 := ty_47 T (Int.toNat x1)
  have t48 := ty_48 T (Int.toNat x1)
  have F50 : ∀ i j : Nat, ¬ i = 46 → ¬ i = 48 → rd m50 i j = rd m i j := fun i j p q => by
    rcases d50 with ⟨-, e⟩ | ⟨-, e⟩
    · rw [e, rd_wt, if_neg (fun w => p w.1)]
    · rw [e, rd_wt, if_neg (fun w => q w.1)]
  have F77 : ∀ i j : Nat, ¬ i = 47 → rd m77 i j = rd m50 i j := fun i j p => by
    rcases d77 with ⟨-, e⟩ | ⟨-, e⟩
    · rw [e]
    · rw [e, rd_wt, if_neg (fun w => p w.1)]
  have F84 : ∀ i j : Nat, ¬ (i = 39 ∧ j = 12) → rd m84 i j = rd m77 i j := fun i j p => by rw [e84, rd_wt, if_neg p]
  refine ⟨fun i j p q r s => (F84 i j s).trans ((F77 i j q).trans (F50 i j p r)), fun w r h wx => ?_⟩
  obtain ⟨h1, h2⟩ := h
  have e7 : rd m84 39 7 = rd m 39 7 := (F84 39 7 (by decide)).trans ((F77 39 7 (by decide)).trans (F50 39 7 (by decide) (by decide)))
  have eb : rd m84 (Int.toNat (rd m84 39 7)) = rd m (Int.toNat (rd m 39 7)) := by
    rw [e7]
    exact funext fun j => (F84 _ j (by omega)).trans ((F77 _ j (by omega)).trans (F50 _ j (by omega) (by omega)))
  have k := h1.1 (Int.toNat x1) (by omega) wx
  -- behind x stays what was
  have e48 : rd m50 48 (Int.toNat x1) = rd m 48 (Int.toNat x1) := by
    rcases d50 with ⟨-, e⟩ | ⟨n, e⟩
    · rw [e, rd_wt, if_neg (by omega)]
    · rw [e, rd_wt]
      by_cases z : Int.toNat x1 = Int.toNat (rd m 47 (Int.toNat x1))
      · rw [if_pos ⟨rfl, z⟩, wr_i (rd_rg _ _ _)]
      · rw [if_neg (fun w => z w.2)]
  have e47 : rd m50 47 (Int.toNat x1) = rd m 47 (Int.toNat x1) := F50 47 _ (by decide) (by decide)
  refine ⟨?_, ?_⟩
  · rw [eb]
    refine li_out h1 (by omega) wx hb (fun s n => ?_) (fun s n => ?_) (fun s n => ?_) (fun s n => ?_) (fun n q => ?_) (fun q => ?_)
    · rw [F84 47 s (by omega)]
      rcases d77 with ⟨-, e⟩ | ⟨z, e⟩
      · rw [e]
        exact F50 47 s (by decide) (by decide)
      · rw [e, rd_wt, if_neg (by rw [e48] at z ⊢; omega)]
        exact F50 47 s (by decide) (by decide)
    · rw [F84 47 s (by omega)]
      rcases d77 with ⟨z, -⟩ | ⟨z, e⟩
      · rw [e48] at z
        omega
      · rw [e, rd_wt, if_pos ⟨rfl, by rw [e48]; omega⟩, wr_i (rd_rg _ _ _), e47]
    · rw [F84 48 s (by omega), F77 48 s (by decide)]
      rcases d50 with ⟨-, e⟩ | ⟨z, e⟩
      · rw [e, rd_wt, if_neg (by omega)]
      · rw [e, rd_wt, if_neg (by omega)]
    · rw [F84 48 s (by omega), F77 48 s (by decide)]
      rcases d50 with ⟨z, -⟩ | ⟨z, e⟩
      · omega
      · rw [e, rd_wt, if_pos ⟨rfl, by omega⟩, wr_i (rd_rg _ _ _)]
    · rw [F84 46 n (by omega), F77 46 n (by decide)]
      rcases d50 with ⟨z, e⟩ | ⟨-, e⟩
      · rw [e, rd_wt, if_neg (fun w => q ⟨z, w.2⟩)]
      · rw [e, rd_wt, if_neg (by omega)]
    · rw [F84 46 _ (by omega), F77 46 _ (by decide)]
      rcases d50 with ⟨z, e⟩ | ⟨z, -⟩
      · rw [e, rd_wt, if_pos ⟨rfl, rfl⟩, wr_i (rd_rg _ _ _)]
      · exact absurd q z
  · have c1 := cnF_f wx 600 (by omega)
    have c2 := cnF_le w 600
    rw [e84, rd_wt, if_pos ⟨rfl, rfl⟩, wr_i (wr_rg _), F77 39 12 (by decide), F50 39 12 (by decide) (by decide), h2, wr_id (by omega) (by omega)]
    omega
/-- behind offer -/
def ofP (m m2 : Mm) (x1 x2 : Int) : Prop := (∀ i j : Nat, ¬ i = 46 → ¬ i = 47 → ¬ i = 48 → ¬ (i = 39 ∧ j = 12) → ¬ i = Int.toNat (rd m 39 7) → rd m2 i j = rd m i j) ∧ (¬ x2 < rd m (Int.toNat (rd m 39 7)) (Int.toNat x1) → m2 = m) ∧ (x2 < rd m (Int.toNat (rd m 39 7)) (Int.toNat x1) → (∀ j : Nat, rd m2 (Int.toNat (rd m 39 7)) j = if j = Int.toNat x1 then x2 else rd m (Int.toNat (rd m 39 7)) j) ∧ ∀ w r, liM m w r → (rd m (Int.toNat (rd m 39 7)) (Int.toNat x1) = 59401 → w (Int.toNat x1) = false) → (¬ rd m (Int.toNat (rd m 39 7)) (Int.toNat x1) = 59401 → w (Int.toNat x1) = true) → ∃ r2, liM m2 (bw w (Int.toNat x1) true) r2)
theorem of_no {m : Mm} {x1 x2 : Int} (n : ¬ x2 < rd m (Int.toNat (rd m 39 7)) (Int.toNat x1)) : ofP m m x1 x2 := ⟨fun _ _ _ _ _ _ _ => rfl, fun _ => rfl, fun z => absurd z n⟩
theorem bw_bw {w : Nat → Bool} {x : Nat} {b c : Bool} : bw (bw w x b) x c = bw w x c := funext fun i => by
  unfold bw
  by_cases q : i = x
  · rw [if_pos q, if_pos q]
  · rw [if_neg q, if_neg q, if_neg q]
theorem of_of {m m27 m43 m53 m60 m67 m80 m87 : Mm} {x1 x2 z3 : Int} (T : Ty m) (hx : 0 ≤ x1 ∧ x1 < 600) (h2 : 0 ≤ x2 ∧ x2 ≤ 59500) (lt : x2 < rd m (Int.toNat (rd m 39 7)) (Int.toNat x1)) (d27 : (rd m (Int.toNat (rd m 39 7)) (Int.toNat x1) = 59401 ∧ m27 = m) ∨ (¬ rd m (Int.toNat (rd m 39 7)) (Int.toNat x1) = 59401 ∧ ulP m m27 x1)) (ez : z3 = rd m27 46 (Int.toNat (x2 % 100))) (rz : rg z3) (e43 : m43 = wt m27 (Int.toNat (rd m27 39 7)) (Int.toNat x1) x2) (e53 : m53 = wt m43 46 (Int.toNat (x2 % 100)) x1) (e60 : m60 = wt m53 47 (Int.toNat x1) (-1)) (e67 : m67 = wt m60 48 (Int.toNat x1) z3) (d80 : (z3 = -1 ∧ m80 = m67) ∨ (¬ z3 = -1 ∧ m80 = wt m67 47 (Int.toNat z3) x1)) (e87 : m87 = wt m80 39 12 (wr ((rd m80 39 12) + 1))) : ofP m m87 x1 x2 := by
  have t7 := ty_39_7 T
  have F27 : frL m m27 := by
    rcases d27 with ⟨-, e⟩ | ⟨-, e⟩
    · rw [e]
      exact fun _ _ _ _ _ _ => rfl
    · exact e.1
  have e7 : rd m27 39 7 = rd m 39 7 := F27 39 7 (by decide) (by decide) (by decide) (by decide)
  rw [e7] at e43
  have F80 : ∀ i j : Nat, ¬ i = 46 → ¬ i = 47 → ¬ i = 48 → ¬ i = Int.toNat (rd m 39 7) → rd m80 i j = rd m27 i j := fun i j p q r s => by
    have f67 : rd m67 i j = rd m27 i j := by rw [e67, rd_wt, if_neg (fun w => r w.1), e60, rd_wt, if_neg (fun w => q w.1), e53, rd_wt, if_neg (fun w => p w.1), e43, rd_wt, if_neg (fun w => s w.1)]
    rcases d80 with ⟨-, e⟩ | ⟨-, e⟩
    · rw [e]
      exact f67
    · rw [e, rd_wt, if_neg (fun w => q w.1)]
      exact f67
  have F87 : ∀ i j : Nat, ¬ (i = 39 ∧ j = 12) → rd m87 i j = rd m80 i j := fun i j p => by rw [e87, rd_wt, if_neg p]
  have B80 : ∀ j : Nat, rd m80 (Int.toNat (rd m 39 7)) j = if j = Int.toNat x1 then x2 else rd m (Int.toNat (rd m 39 7)) j := fun j => by
    have f67 : rd m67 (Int.toNat (rd m 39 7)) j = if j = Int.toNat x1 then x2 else rd m (Int.toNat (rd m 39 7)) j := by
      rw [e67, rd_wt, if_neg (by omega), e60, rd_wt, if_neg (by omega), e53, rd_wt, if_neg (by omega), e43, rd_wt]
      by_cases q : j = Int.toNat x1
      · rw [if_pos ⟨rfl, q⟩, if_pos q, wr_id (by omega) (by omega)]
      · rw [if_neg (fun w => q w.2), if_neg q]
        exact F27 _ j (by omega) (by omega) (by omega) (by omega)
    rcases d80 with ⟨-, e⟩ | ⟨-, e⟩
    · rw [e]
      exact f67
    · rw [e, rd_wt, if_neg (by omega)]
      exact f67
  have B87 : ∀ j : Nat, rd m87 (Int.toNat (rd m 39 7)) j = if j = Int.toNat x1 then x2 else rd m (Int.toNat (rd m 39 7)) j := fun j => (F87 _ j (by omega)).trans (B80 j)
  have e87_7 : rd m87 39 7 = rd m 39 7 := (F87 39 7 (by decide)).trans ((F80 39 7 (by decide) (by decide) (by decide) (by omega)).trans e7)
  refine ⟨fun i j p q r s t => (F87 i j s).trans ((F80 i j p q r t).trans (F27 i j p q r s)), fun n => absurd lt n, fun _ => ⟨B87, fun w r h wf wt_ => ?_⟩⟩
  -- the lists before it is put in
  have li27 : liM m27 (bw w (Int.toNat x1) false) r := by
    rcases d27 with ⟨a, e⟩ | ⟨a, e⟩
    · rw [e]
      have q := wf a
      have we : bw w (Int.toNat x1) false = w := funext fun i => by
        unfold bw
        by_cases z : i = Int.toNat x1
        · rw [if_pos z, z, q]
        · rw [if_neg z]
      rw [we]
      exact h
    · exact e.2 w r h (wt_ a)
  obtain ⟨l1, l2⟩ := li27
  have Z : ∀ s : Nat, z3 = (s : Int) → ¬ z3 = -1 := fun s e => by omega
  have zb : z3 = -1 ∨ 0 ≤ z3 := by
    rcases l1.2 (Int.toNat (x2 % 100)) (by omega) with a | ⟨s, -, a, -⟩ <;> omega
  have key : ∃ r2, liP (rd m87 46) (rd m87 47) (rd m87 48) (rd m87 (Int.toNat (rd m87 39 7))) (bw (bw w (Int.toNat x1) false) (Int.toNat x1) true) r2 := by
    refine li_in l1 (t := Int.toNat x1) (c := x2) (by omega) (bw_e _ _ _) h2.1 ?_ ?_ ?_ ?_ ?_ ?_ ?_ ?_ ?_
    · rw [F87 46 _ (by omega)]
      have f67 : rd m67 46 (Int.toNat (x2 % 100)) = ((Int.toNat x1 : Nat) : Int) := by
        rw [e67, rd_wt, if_neg (by omega), e60, rd_wt, if_neg (by omega), e53, rd_wt, if_pos ⟨rfl, rfl⟩, wr_id (by omega) (by omega)]
        omega
      rcases d80 with ⟨-, e⟩ | ⟨-, e⟩
      · rw [e]; exact f67
      · rw [e, rd_wt, if_neg (by omega)]; exact f67
    · intro n q
      rw [F87 46 _ (by omega)]
      have f67 : rd m67 46 n = rd m27 46 n := by rw [e67, rd_wt, if_neg (by omega), e60, rd_wt, if_neg (by omega), e53, rd_wt, if_neg (fun w => q w.2), e43, rd_wt, if_neg (by omega)]
      rcases d80 with ⟨-, e⟩ | ⟨-, e⟩
      · rw [e]; exact f67
      · rw [e, rd_wt, if_neg (by omega)]; exact f67
    · rw [F87 47 _ (by omega)]
      have f67 : rd m67 47 (Int.toNat x1) = -1 := by
        rw [e67, rd_wt, if_neg (by omega), e60, rd_wt, if_pos ⟨rfl, rfl⟩]
        rfl
      rcases d80 with ⟨-, e⟩ | ⟨n3, e⟩
      · rw [e]; exact f67
      · rw [e, rd_wt, if_neg]
        · exact f67
        · rintro ⟨-, q⟩
          rcases l1.2 (Int.toNat (x2 % 100)) (by omega) with a | ⟨s, s1, a, s3, -⟩
          · omega
          · rw [show s = Int.toNat x1 by omega, bw_e] at s3
            exact absurd s3 (by decide)
    · intro s q a
      rw [← ez] at a
      rw [F87 47 _ (by omega)]
      rcases d80 with ⟨e, -⟩ | ⟨-, e⟩
      · omega
      · rw [e, rd_wt, if_pos ⟨rfl, by omega⟩, wr_id (by omega) (by omega)]
        omega
    · intro s q a
      rw [← ez] at a
      rw [F87 47 _ (by omega)]
      have f67 : rd m67 47 s = rd m27 47 s := by rw [e67, rd_wt, if_neg (by omega), e60, rd_wt, if_neg (fun w => q w.2), e53, rd_wt, if_neg (by omega), e43, rd_wt, if_neg (by omega)]
      rcases d80 with ⟨-, e⟩ | ⟨e0, e⟩
      · rw [e]; exact f67
      · rw [e, rd_wt, if_neg (by omega)]; exact f67
    · rw [F87 48 _ (by omega), ← ez]
      have f67 : rd m67 48 (Int.toNat x1) = z3 := by rw [e67, rd_wt, if_pos ⟨rfl, rfl⟩, wr_i rz]
      rcases d80 with ⟨-, e⟩ | ⟨-, e⟩
      · rw [e]; exact f67
      · rw [e, rd_wt, if_neg (by omega)]; exact f67
    · intro s q
      rw [F87 48 _ (by omega)]
      have f67 : rd m67 48 s = rd m27 48 s := by rw [e67, rd_wt, if_neg (fun w => q w.2), e60, rd_wt, if_neg (by omega), e53, rd_wt, if_neg (by omega), e43, rd_wt, if_neg (by omega)]
      rcases d80 with ⟨-, e⟩ | ⟨-, e⟩
      · rw [e]; exact f67
      · rw [e, rd_wt, if_neg (by omega)]; exact f67
    · rw [e87_7, B87, if_pos rfl]
    · intro s q
      rw [e87_7, B87, if_neg q, e7]
      exact (F27 _ s (by omega) (by omega) (by omega) (by omega)).symm
  obtain ⟨r2, k⟩ := key
  rw [bw_bw] at k
  refine ⟨r2, k, ?_⟩
  have c1 := cnF_t (bw_e w (Int.toNat x1) false) 600 (by omega)
  rw [bw_bw] at c1
  have c2 := cnF_le (bw w (Int.toNat x1) false) 600
  have e12 : rd m80 39 12 = rd m27 39 12 := F80 39 12 (by decide) (by decide) (by decide) (by omega)
  rw [e87, rd_wt, if_pos ⟨rfl, rfl⟩, wr_i (wr_rg _), e12, l2, wr_id (by omega) (by omega)]
  omega
/-! the least cost, as the lists find it -/
def seF (be : Nat → Int) (w : Nat → Bool) : Nat → Bool := fun s => !w s && !decide (be s = 59401)
def dqP (mv cs : Int → Int → Int) (st C f : Int) (be : Nat → Int) (w : Nat → Bool) (K : Nat) (s0 j : Int) : Prop := (∀ s : Nat, s < 600 → be s = 59401 ∨ (0 ≤ be s ∧ wlkC mv cs st (s : Int) (be s))) ∧ (∀ s : Nat, s < 600 → w s = true → ¬ be s = 59401 ∧ (C ≤ be s ∧ be s ≤ C + 99) ∧ be s ≤ 99 * (K : Int)) ∧ (∀ s : Nat, s < 600 → w s = false → ¬ be s = 59401 → be s ≤ C ∧ be s + 99 ≤ 99 * (K : Int) ∧ ¬ (s : Int) / 24 = f ∧ ∀ k : Int, 0 ≤ k → k ≤ 3 → ¬ mv (s : Int) k = -1 → ((s : Int) = s0 ∧ j ≤ k) ∨ be (Int.toNat (mv (s : Int) k)) ≤ be s + cs (s : Int) k) ∧ be (Int.toNat st) = 0 ∧ K = cnF (seF be w) 600 ∧ (0 ≤ s0 → s0 < 600 ∧ be (Int.toNat s0) = C ∧ w (Int.toNat s0) = false)
section DQ
variable {mv cs : Int → Int → Int} {L st C f : Int} {be be2 : Nat → Int} {w : Nat → Bool} {K : Nat} {z k : Int}
theorem se_t {s : Nat} (h : seF be w s = true) : w s = false ∧ ¬ be s = 59401 := by
  unfold seF at h
  rw [Bool.and_eq_true, Bool.not_eq_true', Bool.not_eq_true', decide_eq_false_iff_not] at h
  exact h
theorem se_f {s : Nat} (h : w s = true ∨ be s = 59401) : seF be w s = false := by
  cases e : seF be w s with
  | false => rfl
  | true =>
    have q := se_t e
    rcases h with h | h
    · rw [q.1] at h
      exact absurd h (by decide)
    · exact absurd h q.2
theorem dq_walk (cl : cloN mv L) (hL : L ≤ 600) (hb : csB cs) (hst : 0 ≤ st ∧ st < L) (d : dqP mv cs st C f be w K (-1) 0) : ∀ (n : Nat) (s c : Int), wlkN mv cs st n s c → (0 ≤ s ∧ s < L) ∧ ((∃ u : Nat, u < 600 ∧ w u = true ∧ be u ≤ c) ∨ (w (Int.toNat s) = false ∧ ¬ be (Int.toNat s) = 59401 ∧ be (Int.toNat s) ≤ c))
  | 0, s, c, h => by
    obtain ⟨h1, h2⟩ := h
    subst h1
    have b0 := d.2.2.2.1
    refine ⟨hst, ?_⟩
    cases e : w (Int.toNat s) with
    | true => exact Or.inl ⟨Int.toNat s, by omega, e, by omega⟩
    | false => exact Or.inr ⟨rfl, by omega, by omega⟩
  | n + 1, s, c, ⟨s1, c1, k, h, hk, nz, es, ec⟩ => by
    obtain ⟨r1, r2⟩ := dq_walk cl hL hb hst d n s1 c1 h
    have c2 := (cl s1 k r1.1 r1.2 hk.1 hk.2).resolve_left nz
    have b := hb s1 k
    refine ⟨by omega, ?_⟩
    rcases r2 with ⟨u, u1, u2, u3⟩ | ⟨u1, u2, u3⟩
    · exact Or.inl ⟨u, u1, u2, by omega⟩
    · have t := d.2.2.1 (Int.toNat s1) (by omega) u1 u2
      have kk := cnF_le (seF be w) 600
      have kK := d.2.2.2.2.1
      rw [show ((Int.toNat s1 : Nat) : Int) = s1 by omega] at t
      have q := (t.2.2.2 k hk.1 hk.2 nz).resolve_left (fun z => by omega)
      rw [← es] at q
      cases e : w (Int.toNat s) with
      | true => exact Or.inl ⟨Int.toNat s, by omega, e, by omega⟩
      | false => exact Or.inr ⟨rfl, by omega, by omega⟩
theorem dq_1 (cl : cloN mv L) (hL : L ≤ 600) (hb : csB cs) (hst : 0 ≤ st ∧ st < L) (d : dqP mv cs st C f be w K (-1) 0) {u : Nat} (hu : u < 600) (wu : w u = true) (eu : be u = C) (ef : (u : Int) / 24 = f) : lcP mv cs st f C := by
  have a := d.1 u hu
  have n := (d.2.1 u hu wu).1
  refine Or.inr ⟨⟨(u : Int), ?_, ef⟩, fun s c hw hf => ?_⟩
  · rw [← eu]
    exact (a.resolve_left n).2
  · obtain ⟨q, hq⟩ := hw
    obtain ⟨r1, r2⟩ := dq_walk cl hL hb hst d q s c hq
    rcases r2 with ⟨u, u1, u2, u3⟩ | ⟨u1, u2, u3⟩
    · have := (d.2.1 u u1 u2).2.1.1
      omega
    · have t := (d.2.2.1 (Int.toNat s) (by omega) u1 u2).2.2.1
      rw [show ((Int.toNat s : Nat) : Int) = s by omega] at t
      exact absurd hf t
theorem dq_0 (cl : cloN mv L) (hL : L ≤ 600) (hb : csB cs) (hst : 0 ≤ st ∧ st < L) (d : dqP mv cs st C f be w K (-1) 0) (no : ∀ s : Nat, s < 600 → w s = false) : lcP mv cs st f (-2) := by
  refine Or.inl ⟨rfl, fun s c hw hf => ?_⟩
  obtain ⟨q, hq⟩ := hw
  obtain ⟨r1, r2⟩ := dq_walk cl hL hb hst d q s c hq
  rcases r2 with ⟨u, u1, u2, u3⟩ | ⟨u1, u2, u3⟩
  · rw [no u u1] at u2
    exact absurd u2 (by decide)
  · have t := (d.2.2.1 (Int.toNat s) (by omega) u1 u2).2.2.1
    rw [show ((Int.toNat s : Nat) : Int) = s by omega] at t
    exact absurd hf t
theorem dq_settle (d : dqP mv cs st C f be w K (-1) 0) (hz : 0 ≤ z ∧ z < 600) (wz : w (Int.toNat z) = true) (ez : be (Int.toNat z) = C) (nf : ¬ z / 24 = f) : dqP mv cs st C f be (bw w (Int.toNat z) false) (K + 1) z 0 := by
  obtain ⟨d1, d2, d3, d4, d5, -⟩ := d
  have z2 := d2 (Int.toNat z) (by omega) wz
  refine ⟨d1, fun s hs ws => ?_, fun s hs ws ne => ?_, d4, ?_, fun _ => ⟨hz.2, ez, bw_e _ _ _⟩⟩
  · by_cases q : s = Int.toNat z
    · rw [q, bw_e] at ws
      exact absurd ws (by decide)
    · rw [bw_n q] at ws
      have := d2 s hs ws
      exact ⟨this.1, this.2.1, by omega⟩
  · by_cases q : s = Int.toNat z
    · rw [q, show ((Int.toNat z : Nat) : Int) = z by omega]
      exact ⟨by omega, by omega, nf, fun k k0 k1 _ => Or.inl ⟨rfl, k0⟩⟩
    · rw [bw_n q] at ws
      obtain ⟨a, b, c, e⟩ := d3 s hs ws ne
      exact ⟨a, by omega, c, fun k k0 k1 n => Or.inr ((e k k0 k1 n).resolve_left (fun w => by omega))⟩
  · have e : seF be (bw w (Int.toNat z) false) = bw (seF be w) (Int.toNat z) true := funext fun i => by
      by_cases q : i = Int.toNat z
      · rw [q, bw_e]
        unfold seF
        rw [bw_e, decide_eq_false z2.1]
        rfl
      · rw [bw_n q]
        unfold seF
        rw [bw_n q]
    rw [e, cnF_t (se_f (Or.inl wz)) 600 (by omega), ← d5]
theorem dq_k (d : dqP mv cs st C f be w K z k) (h : mv z k = -1 ∨ be (Int.toNat (mv z k)) ≤ be (Int.toNat z) + cs z k) (hz : 0 ≤ z) : dqP mv cs st C f be w K z (k + 1) := by
  obtain ⟨d1, d2, d3, d4, d5, d6⟩ := d
  refine ⟨d1, d2, fun s hs ws ne => ?_, d4, d5, d6⟩
  obtain ⟨a, b, c, e⟩ := d3 s hs ws ne
  refine ⟨a, b, c, fun k2 k0 k1 n => ?_⟩
  rcases e k2 k0 k1 n with ⟨e1, e2⟩ | e
  · by_cases q : k2 = k
    · subst q
      rw [e1] at n ⊢
      rcases h with h | h
      · exact absurd h n
      · refine Or.inr ?_
        rw [show s = Int.toNat z by omega]
        exact h
    · exact Or.inl ⟨e1, by omega⟩
  · exact Or.inr e
theorem dq_wt (d : dqP mv cs st C f be w K z k) {t : Nat} (ht : t < 600) (lt : C < be t) : (be t = 59401 → w t = false) ∧ (¬ be t = 59401 → w t = true) := by
  obtain ⟨d1, d2, d3, -⟩ := d
  constructor
  · intro e
    cases q : w t with
    | false => rfl
    | true => exact absurd e (d2 t ht q).1
  · intro e
    cases q : w t with
    | true => rfl
    | false =>
      have := (d3 t ht q e).1
      omega
theorem dq_of (cl : cloN mv L) (hL : L ≤ 600) (hb : csB cs) (d : dqP mv cs st C f be w K z k) (hz : 0 ≤ z ∧ z < L) (hk : 0 ≤ k ∧ k ≤ 3) (n : ¬ mv z k = -1) (lt : C + cs z k < be (Int.toNat (mv z k))) (e2 : ∀ j : Nat, be2 j = if j = Int.toNat (mv z k) then C + cs z k else be j) : dqP mv cs st C f be2 (bw w (Int.toNat (mv z k)) true) K z (k + 1) := by
  have c := (cl z k hz.1 hz.2 hk.1 hk.2).resolve_left n
  have b := hb z k
  obtain ⟨d1, d2, d3, d4, d5, d6⟩ := d
  have z6 := d6 hz.1
  have zs := d3 (Int.toNat z) (by omega) z6.2.2
  have z1 := d1 (Int.toNat z) (by omega)
  have kk := cnF_le (seF be w) 600
  have ne : ¬ be (Int.toNat z) = 59401 := by
    rcases d1 (Int.toNat (mv z k)) (by omega) with q | q
    · omega
    · have : be (Int.toNat (mv z k)) ≤ 59401 := by
        cases w2 : w (Int.toNat (mv z k)) with
        | true =>
          have := (d2 _ (by omega) w2).2.2
          omega
        | false =>
          by_cases q2 : be (Int.toNat (mv z k)) = 59401
          · omega
          · have := (d3 _ (by omega) w2 q2).2.1
            omega
      omega
  obtain ⟨s1, s2, -, -⟩ := zs ne
  have wz := (z1.resolve_left ne).2
  rw [show ((Int.toNat z : Nat) : Int) = z by omega, z6.2.1] at wz
  have st_ := wlkC_s wz hk n
  have tz : ¬ Int.toNat z = Int.toNat (mv z k) := fun q => by
    rw [← q] at lt
    omega
  have wt_ := dq_wt (t := Int.toNat (mv z k)) ⟨d1, d2, d3, d4, d5, d6⟩ (by omega) (by omega)
  refine ⟨fun s hs => ?_, fun s hs ws => ?_, fun s hs ws nf => ?_, ?_, ?_, fun z0 => ⟨z6.1, ?_, ?_⟩⟩
  · rw [e2]
    by_cases q : s = Int.toNat (mv z k)
    · rw [if_pos q, q, show ((Int.toNat (mv z k) : Nat) : Int) = mv z k by omega]
      exact Or.inr ⟨by omega, st_⟩
    · rw [if_neg q]
      exact d1 s hs
  · rw [e2]
    by_cases q : s = Int.toNat (mv z k)
    · rw [if_pos q]
      omega
    · rw [bw_n q] at ws
      rw [if_neg q]
      exact d2 s hs ws
  · have q : ¬ s = Int.toNat (mv z k) := fun y => by
      rw [y, bw_e] at ws
      exact absurd ws (by decide)
    rw [bw_n q] at ws
    have es : be2 s = be s := (e2 s).trans (if_neg q)
    rw [es] at nf ⊢
    obtain ⟨a, b2, c2, e⟩ := d3 s hs ws nf
    refine ⟨a, b2, c2, fun k2 k0 k1 n2 => ?_⟩
    have le : be2 (Int.toNat (mv (s : Int) k2)) ≤ be (Int.toNat (mv (s : Int) k2)) := by
      rw [e2]
      by_cases y : Int.toNat (mv (s : Int) k2) = Int.toNat (mv z k)
      · rw [if_pos y, y]
        omega
      · rw [if_neg y]
        exact Int.le_refl _
    rcases e k2 k0 k1 n2 with ⟨y1, y2⟩ | y
    · by_cases x : k2 = k
      · subst x
        refine Or.inr ?_
        rw [y1, e2, if_pos rfl, show s = Int.toNat z by omega, z6.2.1]
        exact Int.le_refl _
      · exact Or.inl ⟨y1, by omega⟩
    · exact Or.inr (by omega)
  · rw [e2, if_neg]
    · exact d4
    · intro q
      rw [← q] at lt
      have := z1.resolve_left ne
      omega
  · rw [d5]
    refine cnF_cg 600 (fun i hi => ?_)
    by_cases q : i = Int.toNat (mv z k)
    · rw [se_f (be := be2) (Or.inl (by rw [q]; exact bw_e _ _ _))]
      refine se_f ?_
      rw [q]
      by_cases y : be (Int.toNat (mv z k)) = 59401
      · exact Or.inr y
      · exact Or.inl (wt_.2 y)
    · unfold seF
      rw [bw_n q, e2, if_neg q]
  · rw [e2, if_neg tz]
    exact z6.2.1
  · rw [bw_n tz]
    exact z6.2.2
theorem dq_n (d : dqP mv cs st C f be w K z 4) : dqP mv cs st C f be w K (-1) 0 := by
  obtain ⟨d1, d2, d3, d4, d5, -⟩ := d
  refine ⟨d1, d2, fun s hs ws ne => ?_, d4, d5, fun q => by omega⟩
  obtain ⟨a, b, c, e⟩ := d3 s hs ws ne
  exact ⟨a, b, c, fun k k0 k1 n => Or.inr ((e k k0 k1 n).resolve_left (fun w => by omega))⟩
theorem dq_up (d : dqP mv cs st C f be w K (-1) 0) (h : ∀ s : Nat, s < 600 → w s = true → ¬ be s = C) : dqP mv cs st (C + 1) f be w K (-1) 0 := by
  obtain ⟨d1, d2, d3, d4, d5, -⟩ := d
  refine ⟨d1, fun s hs ws => ?_, fun s hs ws ne => ?_, d4, d5, fun q => by omega⟩
  · have a := d2 s hs ws
    have b := h s hs ws
    exact ⟨a.1, by omega, a.2.2⟩
  · obtain ⟨a, b, c, e⟩ := d3 s hs ws ne
    exact ⟨by omega, b, c, e⟩
end DQ
/-! .. in the class's memory -/
def frO (m m2 : Mm) : Prop := ∀ i j : Nat, ¬ i = 12 → ¬ i = 15 → ¬ (44 ≤ i ∧ i ≤ 48) → ¬ (i = 39 ∧ j = 12) → rd m2 i j = rd m i j
theorem frO.trans {a b c : Mm} (h : frO a b) (k : frO b c) : frO a c := fun i j p q r s => (k i j p q r s).trans (h i j p q r s)
def tpI (m : Mm) (t : Int) : Int := rd m 38 (Int.toNat (rd m 32 (Int.toNat (t % 24 * 6))))
def bnI (m : Mm) (t : Int) : Int := rd m 38 (Int.toNat (rd m 32 (Int.toNat (t % 24 * 6 + 1))))
/-- what the costs are -/
def hcP (m : Mm) (a : Nat) (x2 : Int) (mv cs : Int → Int → Int) (L : Int) : Prop := (agm m mv L ∧ cloN mv L ∧ csB cs ∧ L ≤ 600) ∧ ∃ E, LSd m 11 E ∧ ∀ s k : Int, 0 ≤ s → s < L → 0 ≤ k → k ≤ 3 → ¬ mv s k = -1 → cs s k = clI 99 (lval (lfI m a x2 (s / 24) k (tpI m (mv s k)) (bnI m (mv s k))) (E 2).1 (E 2).2)
theorem lfI_fr {m m2 : Mm} {a : Nat} {x2 f k o u : Int} (ha : isSt a) (h : frO m m2) : lfI m2 a x2 f k o u = lfI m a x2 f k o u := funext fun i => by
  have a0 := ha.1
  have R : ∀ i j : Nat, ¬ i = 12 ∧ ¬ i = 15 ∧ ¬ (44 ≤ i ∧ i ≤ 48) ∧ ¬ i = 39 → rd m2 i j = rd m i j := fun i j q => h i j q.1 q.2.1 q.2.2.1 (fun w => q.2.2.2 w.1)
  unfold lfI
  rw [R 16 _ (by decide), R 17 _ (by decide), R 18 _ (by decide), R (a + 1) _ (by omega), R (a + 4) _ (by omega), R a 5 (by omega)]
theorem hc_fr {m m2 : Mm} {a : Nat} {x2 L : Int} {mv cs : Int → Int → Int} (ha : isSt a) (h : hcP m a x2 mv cs L) (k : frO m m2) : hcP m2 a x2 mv cs L := by
  obtain ⟨⟨h1, h2, h3, h4⟩, E, e1, e2⟩ := h
  have R : ∀ i j : Nat, ¬ i = 12 ∧ ¬ i = 15 ∧ ¬ (44 ≤ i ∧ i ≤ 48) ∧ ¬ i = 39 → rd m2 i j = rd m i j := fun i j q => k i j q.1 q.2.1 q.2.2.1 (fun w => q.2.2.2 w.1)
  refine ⟨⟨fun s k v s0 s1 k0 k1 p => h1 s k v s0 s1 k0 k1 (by
    unfold tpP at p ⊢
    rw [R 37 _ (by decide), R 33 _ (by decide)] at p
    exact p), h2, h3, h4⟩, E, ls_fr e1 (R 11 4 (by decide)) (fun j => R 13 j (by decide)) (fun j => R 14 j (by decide)), fun s k2 s0 s1 k0 k1 n => ?_⟩
  have et : ∀ t, tpI m2 t = tpI m t := fun t => by
    unfold tpI
    rw [R 38 _ (by decide), R 32 _ (by decide)]
  have eb : ∀ t, bnI m2 t = bnI m t := fun t => by
    unfold bnI
    rw [R 38 _ (by decide), R 32 _ (by decide)]
  rw [lfI_fr ha k, et, eb]
  exact e2 s k2 s0 s1 k0 k1 n
def dqM (m : Mm) (mv cs : Int → Int → Int) (st C f : Int) (K : Nat) (s0 j : Int) : Prop := ∃ w r, liM m w r ∧ dqP mv cs st C f (rd m (Int.toNat (rd m 39 7))) w K s0 j
def onP (m m2 : Mm) (a : Nat) (x2 x3 x4 : Int) : Prop := frO m m2 ∧ ∀ mv cs L st C f K, hcP m a x2 mv cs L → x3 < L → dqM m mv cs st C f K x3 0 → dqM m2 mv cs st C f K x3 x4
def osP (m m2 : Mm) (a : Nat) (x2 x3 x4 : Int) : Prop := frO m m2 ∧ ∀ mv cs L st C f K, hcP m a x2 mv cs L → x3 < L → dqM m mv cs st C f K x3 x4 → dqM m2 mv cs st C f K x3 (x4 + 1)
theorem on_0 (m : Mm) {a : Nat} {x2 x3 : Int} : onP m m a x2 x3 0 := ⟨fun _ _ _ _ _ _ => rfl, fun _ _ _ _ _ _ _ _ _ d => d⟩
theorem on_s {m m3 m99 : Mm} {a : Nat} {x2 x3 x4 z : Int} (d : onP m m3 a x2 x3 x4) (q : osP m3 m99 a x2 x3 x4) (ha : isSt a) (ez : z = x4 + 1) : onP m m99 a x2 x3 z := ⟨d.1.trans q.1, fun mv cs L st C f K h l dq => by
  rw [ez]
  exact q.2 mv cs L st C f K (hc_fr ha h d.1) l (d.2 mv cs L st C f K h l dq)⟩
section OS
variable {m m76 m92 m96 : Mm} {a : Nat} {x2 x3 x4 v v64 v73 v92 : Int}
theorem os_0 (b : (0 ≤ x3 ∧ x3 ≤ 599) ∧ 0 ≤ x4 ∧ x4 ≤ 3) (p : tpP m x3 x4 v) (nv : v = -1) : osP m m a x2 x3 x4 := ⟨fun _ _ _ _ _ _ => rfl, fun mv cs L st C f K h l d => by
  obtain ⟨w, r, li, d⟩ := d
  have e := h.1.1 x3 x4 v b.1.1 l b.2.1 b.2.2 p
  exact ⟨w, r, li, dq_k d (Or.inl (e.symm.trans nv)) b.1.1⟩⟩
theorem os_1 (b : (0 ≤ x3 ∧ x3 ≤ 599) ∧ 0 ≤ x4 ∧ x4 ≤ 3) (p : tpP m x3 x4 v) (_nv : ¬ v = -1) (n : ¬ rd m (Int.toNat (rd m 39 7)) (Int.toNat x3) < rd m (Int.toNat (rd m 39 7)) (Int.toNat v)) : osP m m a x2 x3 x4 := ⟨fun _ _ _ _ _ _ => rfl, fun mv cs L st C f K h l d => by
  obtain ⟨w, r, li, d⟩ := d
  have e := h.1.1 x3 x4 v b.1.1 l b.2.1 b.2.2 p
  have c := h.1.2.2.1 x3 x4
  refine ⟨w, r, li, dq_k d (Or.inr ?_) b.1.1⟩
  rw [← e]
  omega⟩
theorem lx_d {m m2 : Mm} {a : Nat} {x2 x3 x4 o u : Int} (h : lfX m m2 a x2 (dvI x3 24) x4 o u) (hx : 0 ≤ x3 ∧ x3 ≤ 599) : lfX m m2 a x2 (x3 / 24) x4 o u := by
  rw [dv_eq hx.1 (by omega) (by omega) (by omega)] at h
  exact h
theorem os_2 (T : Ty m) (_ha : isSt a) (b : (0 ≤ x3 ∧ x3 ≤ 599) ∧ 0 ≤ x4 ∧ x4 ≤ 3) (p : tpP m x3 x4 v) (nv : ¬ v = -1) (_lt : rd m (Int.toNat (rd m 39 7)) (Int.toNat x3) < rd m (Int.toNat (rd m 39 7)) (Int.toNat v)) (e64 : v64 = rd m 38 (Int.toNat (rd m 32 (Int.toNat (v % 24 * 6))))) (e73 : v73 = rd m 38 (Int.toNat (rd m 32 (Int.toNat (v % 24 * 6 + 1))))) (g76 : GX s12 m m76) (lf : lfX m m76 a x2 (x3 / 24) x4 v64 v73) (g92 : GX s15 m76 m92) (cq : ∀ E, LSd m76 11 E → v92 = clI 99 (lval (vaC m76) (E 2).1 (E 2).2)) (o : ofP m92 m96 v (wr ((rd m76 (Int.toNat (rd m76 39 7)) (Int.toNat x3)) + v92))) (b2 : (0 ≤ v92 ∧ v92 ≤ 99) ∧ 0 ≤ rd m76 (Int.toNat (rd m76 39 7)) (Int.toNat x3) ∧ rd m76 (Int.toNat (rd m76 39 7)) (Int.toNat x3) ≤ 59401) : osP m m96 a x2 x3 x4 := by
  have t7 := ty_39_7 T
  have F76 : ∀ i j : Nat, ¬ i = 12 → rd m76 i j = rd m i j := fun i j q => g76.2.1 i j (nb_ne q)
  have F92 : ∀ i j : Nat, ¬ i = 12 → ¬ i = 15 → rd m92 i j = rd m i j := fun i j q r => (g92.2.1 i j (nb_ne r)).trans (F76 i j q)
  have e7 : rd m76 39 7 = rd m 39 7 := F76 39 7 (by decide)
  have e97 : rd m92 39 7 = rd m 39 7 := F92 39 7 (by decide) (by decide)
  rw [e7, F76 _ _ (by omega)] at b2 o
  rw [wr_id (by omega) (by omega)] at o
  have o1 := o.1
  rw [e97] at o1
  refine ⟨fun i j p q r s => (o1 i j (by omega) (by omega) (by omega) s (by omega)).trans (F92 i j p q), fun mv cs L st C f K h l d => ?_⟩
  obtain ⟨w, r, li, d⟩ := d
  obtain ⟨⟨h1, h2, h3, h4⟩, E, e1, e2⟩ := h
  have ev := h1 x3 x4 v b.1.1 l b.2.1 b.2.2 p
  have cl := (h2 x3 x4 b.1.1 l b.2.1 b.2.2)
  rw [← ev] at cl
  have ec : v92 = cs x3 x4 := by
    have L76 : LSd m76 11 E := ls_fr e1 (F76 11 4 (by decide)) (fun j => F76 13 j (by decide)) (fun j => F76 14 j (by decide))
    rw [cq E L76, e2 x3 x4 b.1.1 l b.2.1 b.2.2 (by rw [← ev]; exact nv), ← ev]
    have W := ls_W e1 2 (by decide) (by decide)
    have g : lval (vaC m76) (E 2).1 (E 2).2 = lval (lfI m a x2 (x3 / 24) x4 (tpI m v) (bnI m v)) (E 2).1 (E 2).2 := lval_cg (fun i i0 i1 => by
      rw [lf i i0 i1, e64, e73]
      rfl) W.2 W.1
    rw [g]
  have z6 := d.2.2.2.2.2 b.1.1
  have li92 : liM m92 w r := by
    obtain ⟨l1, l2⟩ := li
    refine ⟨?_, (F92 39 12 (by decide) (by decide)).trans l2⟩
    rw [e97, show rd m92 46 = rd m 46 from funext fun j => F92 46 j (by decide) (by decide), show rd m92 47 = rd m 47 from funext fun j => F92 47 j (by decide) (by decide), show rd m92 48 = rd m 48 from funext fun j => F92 48 j (by decide) (by decide), show rd m92 (Int.toNat (rd m 39 7)) = rd m (Int.toNat (rd m 39 7)) from funext fun j => F92 _ j (by omega) (by omega)]
    exact l1
  have eb : ∀ j, rd m92 (Int.toNat (rd m92 39 7)) j = rd m (Int.toNat (rd m 39 7)) j := fun j => by
    rw [e97]
    exact F92 _ j (by omega) (by omega)
  obtain ⟨-, o2, o3⟩ := o
  rw [eb] at o2 o3
  rw [z6.2.1, ec] at o2 o3
  by_cases q : C + cs x3 x4 < rd m (Int.toNat (rd m 39 7)) (Int.toNat v)
  · obtain ⟨k1, k2⟩ := o3 q
    have wt_ := dq_wt (t := Int.toNat v) d (by omega) (by have := h3 x3 x4; omega)
    obtain ⟨r2, k3⟩ := k2 w r li92 wt_.1 wt_.2
    have e96 : rd m96 39 7 = rd m 39 7 := (o1 39 7 (by decide) (by decide) (by decide) (by decide) (by omega)).trans e97
    have k := dq_of (be2 := rd m96 (Int.toNat (rd m96 39 7))) h2 h4 h3 d ⟨b.1.1, l⟩ b.2 (by rw [← ev]; exact nv) (by rw [← ev]; exact q) (fun j => by
      rw [e96, ← e97, k1 j, ← ev]
      by_cases y : j = Int.toNat v
      · rw [if_pos y, if_pos y]
      · rw [if_neg y, if_neg y, eb, e97])
    rw [← ev] at k
    exact ⟨_, r2, k3, k⟩
  · have k := o2 q
    rw [k]
    refine ⟨w, r, li92, ?_⟩
    have d2 : dqP mv cs st C f (rd m (Int.toNat (rd m 39 7))) w K x3 (x4 + 1) := dq_k d (Or.inr (by rw [← ev, z6.2.1]; omega)) b.1.1
    rw [show rd m92 (Int.toNat (rd m92 39 7)) = rd m (Int.toNat (rd m 39 7)) from funext eb]
    exact d2
end OS
def dvP (m m2 : Mm) (a : Nat) (x2 x3 x4 : Int) : Prop := ∀ mv cs L, hcP m a x2 mv cs L → 0 ≤ rd m 36 1 → rd m 36 1 < L → ∃ K, dqM m2 mv cs (rd m 36 1) x4 x3 K (-1) 0
def dwP (m m2 : Mm) (a : Nat) (x2 x3 x4 x5 : Int) : Prop := ∀ mv cs L, hcP m a x2 mv cs L → 0 ≤ rd m 36 1 → rd m 36 1 < L → ∃ K : Nat, x5 ≤ (K : Int) ∧ dqM m2 mv cs (rd m 36 1) x4 x3 K (-1) 0
def leP (m : Mm) (a : Nat) (x2 x3 v : Int) : Prop := ∀ mv cs L, hcP m a x2 mv cs L → 0 ≤ rd m 36 1 → rd m 36 1 < L → lcP mv cs (rd m 36 1) x3 v
theorem cnF_0 : ∀ n : Nat, cnF (fun _ => false) n = 0
  | 0 => rfl
  | n + 1 => by
    show cnF (fun _ => false) n + 0 = 0
    rw [cnF_0 n]
section DV
variable {m m6 m14 m19 m31 m54 m103 m111 : Mm} {a : Nat} {x2 x3 x4 x5 z z6 : Int}
theorem dv_i (T : Ty m) (_ha : isSt a) (e6 : m6 = flm m (Int.toNat (rd m 39 7)) 600 59401) (e14 : m14 = flm m6 46 100 (-1)) (e19 : m19 = wt m14 39 12 0) (o : ofP m19 m31 (rd m19 36 1) 0) : frO m m31 ∧ dvP m m31 a x2 x3 0 := by
  have t7 := ty_39_7 T
  have F19 : ∀ i j : Nat, ¬ i = Int.toNat (rd m 39 7) → ¬ i = 46 → ¬ (i = 39 ∧ j = 12) → rd m19 i j = rd m i j := fun i j p q r => by
    rw [e19, rd_wt, if_neg r, e14, rd_flm, if_neg (fun w => q w.1), e6, rd_flm, if_neg (fun w => p w.1)]
  have e7 : rd m19 39 7 = rd m 39 7 := F19 39 7 (by omega) (by decide) (by decide)
  have e36 : rd m19 36 1 = rd m 36 1 := F19 36 1 (by omega) (by decide) (by decide)
  have B : ∀ j : Nat, j < 600 → rd m19 (Int.toNat (rd m 39 7)) j = 59401 := fun j hj => by
    rw [e19, rd_wt, if_neg (by omega), e14, rd_flm, if_neg (by omega), e6, rd_flm, if_pos ⟨rfl, hj⟩]
    rfl
  have H : ∀ n : Nat, n < 100 → rd m19 46 n = -1 := fun n hn => by
    rw [e19, rd_wt, if_neg (by omega), e14, rd_flm, if_pos ⟨rfl, hn⟩]
    rfl
  rw [e36] at o
  have o1 := o.1
  rw [e7] at o1
  refine ⟨fun i j p q r s => (o1 i j (by omega) (by omega) (by omega) s (by omega)).trans (F19 i j (by omega) (by omega) s), fun mv cs L h h0 h1 => ⟨0, ?_⟩⟩
  have hL := h.1.2.2.2
  have li : liM m19 (fun _ => false) (fun _ => 0) := by
    refine ⟨⟨fun s hs ws => absurd ws Bool.false_ne_true, fun n hn => Or.inl (H n hn)⟩, ?_⟩
    rw [cnF_0, e19, rd_wt, if_pos ⟨rfl, rfl⟩]
    rfl
  have lt : (0 : Int) < rd m19 (Int.toNat (rd m19 39 7)) (Int.toNat (rd m 36 1)) := by
    rw [e7, B _ (by omega)]
    decide
  obtain ⟨k1, k2⟩ := o.2.2 lt
  rw [e7, B _ (by omega)] at k2
  obtain ⟨r2, k3⟩ := k2 _ _ li (fun _ => rfl) (fun n => absurd rfl n)
  have e31 : rd m31 39 7 = rd m 39 7 := (o1 39 7 (by decide) (by decide) (by decide) (by decide) (by omega)).trans e7
  have B31 : ∀ j : Nat, j < 600 → rd m31 (Int.toNat (rd m31 39 7)) j = if j = Int.toNat (rd m 36 1) then 0 else 59401 := fun j hj => by
    rw [e31]
    have := k1 j
    rw [e7] at this
    rw [this]
    by_cases q : j = Int.toNat (rd m 36 1)
    · rw [if_pos q, if_pos q]
    · rw [if_neg q, if_neg q, B j hj]
  refine ⟨_, r2, k3, fun s hs => ?_, fun s hs ws => ?_, fun s hs ws ne => ?_, ?_, ?_, fun q => by omega⟩
  · rw [B31 s hs]
    by_cases q : s = Int.toNat (rd m 36 1)
    · rw [if_pos q, q, show ((Int.toNat (rd m 36 1) : Nat) : Int) = rd m 36 1 by omega]
      exact Or.inr ⟨Int.le_refl 0, wlkC_0⟩
    · rw [if_neg q]
      exact Or.inl rfl
  · by_cases q : s = Int.toNat (rd m 36 1)
    · rw [B31 s hs, if_pos q]
      decide
    · rw [bw_n q] at ws
      exact absurd ws Bool.false_ne_true
  · by_cases q : s = Int.toNat (rd m 36 1)
    · rw [q, bw_e] at ws
      exact absurd ws (by decide)
    · rw [B31 s hs, if_neg q] at ne
      exact absurd rfl ne
  · rw [B31 _ (by omega), if_pos rfl]
  · have e : cnF (seF (rd m31 (Int.toNat (rd m31 39 7))) (bw (fun _ => false) (Int.toNat (rd m 36 1)) true)) 600 = cnF (fun _ => false) 600 := cnF_cg 600 (fun i hi => by
      refine se_f ?_
      by_cases q : i = Int.toNat (rd m 36 1)
      · rw [q]
        exact Or.inl (bw_e _ _ _)
      · exact Or.inr (by rw [B31 i hi, if_neg q]))
    rw [e, cnF_0]
theorem dw_i (d : dvP m m54 a x2 x3 x4) : dwP m m54 a x2 x3 x4 0 := fun mv cs L h h0 h1 => by
  obtain ⟨K, k⟩ := d mv cs L h h0 h1
  exact ⟨K, by omega, k⟩
theorem ul_O (u : frL m54 m103) : frO m54 m103 := fun i j p q r s => u i j (by omega) (by omega) (by omega) s
theorem hd_C {mv cs : Int → Int → Int} {st C f : Int} {K : Nat} {w : Nat → Bool} {r : Nat → Nat} (li : liM m54 w r) (d : dqP mv cs st C f (rd m54 (Int.toNat (rd m54 39 7))) w K (-1) 0) (_hC : 0 ≤ C) (ez : z6 = rd m54 46 (Int.toNat (C % 100))) (nz : ¬ z6 = -1) : (0 ≤ z6 ∧ z6 < 600) ∧ w (Int.toNat z6) = true ∧ rd m54 (Int.toNat (rd m54 39 7)) (Int.toNat z6) = C := by
  rcases li.1.2 (Int.toNat (C % 100)) (by omega) with a | ⟨s, s1, s2, s3, s4, -⟩
  · omega
  · have e : Int.toNat z6 = s := by omega
    rw [e]
    have q := d.2.1 s s1 s3
    exact ⟨by omega, s3, by omega⟩
theorem dw_s (_T : Ty m) (_T54 : Ty m54) (ha : isSt a) (d : frO m m54 ∧ dwP m m54 a x2 x3 x4 x5) (h4 : 0 ≤ x4) (ez : z6 = rd m54 46 (Int.toNat (x4 % 100))) (nz : ¬ z6 = -1) (nf : ¬ z6 / 24 = x3) (u : ulP m54 m103 z6) (o : onP m103 m111 a x2 z6 4) (e5 : z = x5 + 1) : frO m m111 ∧ dwP m m111 a x2 x3 x4 z := by
  obtain ⟨d1, d2⟩ := d
  refine ⟨(d1.trans (ul_O u.1)).trans o.1, fun mv cs L h h0 h1 => ?_⟩
  obtain ⟨K, k1, w, r, li, dq⟩ := d2 mv cs L h h0 h1
  obtain ⟨z1, z2, z3⟩ := hd_C li dq h4 ez nz
  have dq2 := dq_settle dq z1 z2 z3 nf
  have li2 := u.2 w r li z2
  have e7 : rd m103 39 7 = rd m54 39 7 := u.1 39 7 (by decide) (by decide) (by decide) (by decide)
  have t7 := ty_39_7 _T54
  have eb : rd m103 (Int.toNat (rd m103 39 7)) = rd m54 (Int.toNat (rd m54 39 7)) := by
    rw [e7]
    exact funext fun j => u.1 _ j (by omega) (by omega) (by omega) (by omega)
  have zL : z6 < L := by
    have q := (dq.1 (Int.toNat z6) (by omega)).resolve_left (dq.2.1 _ (by omega) z2).1
    obtain ⟨n, hn⟩ := q.2
    have := (wlkN_b h.1.2.1 h.1.2.2.1 ⟨h0, h1⟩ n _ _ hn).1
    omega
  obtain ⟨w2, r2, l3, dq3⟩ := o.2 mv cs L _ _ _ (K + 1) (hc_fr ha h (d1.trans (ul_O u.1))) zL ⟨_, r, li2, by rw [eb]; exact dq2⟩
  exact ⟨K + 1, by omega, w2, r2, l3, dq_n dq3⟩
theorem dv_s (_T54 : Ty m54) (d : dwP m m54 a x2 x3 x4 x5) (h4 : 0 ≤ x4) (r : 600 ≤ x5 ∨ rd m54 46 (Int.toNat (x4 % 100)) = -1) (ez : z = x4 + 1) : dvP m m54 a x2 x3 z := fun mv cs L h h0 h1 => by
  obtain ⟨K, k1, w, r2, li, dq⟩ := d mv cs L h h0 h1
  rw [ez]
  refine ⟨K, w, r2, li, dq_up dq (fun s hs ws => ?_)⟩
  rcases r with r | r
  · have kk := cnF_le (seF (rd m54 (Int.toNat (rd m54 39 7))) w) 600
    have k5 := dq.2.2.2.2.1
    have q := (se_t (cnF_a (w := seF (rd m54 (Int.toNat (rd m54 39 7))) w) 600 (by omega) s hs)).1
    rw [ws] at q
    exact absurd q (by decide)
  · have q := li_0 li.1 (n := Int.toNat (x4 % 100)) (by omega) r s hs ws
    omega
theorem lex_1 (_T54 : Ty m54) (d : dwP m m54 a x2 x3 x4 x5) (h4 : 0 ≤ x4) (ez : z6 = rd m54 46 (Int.toNat (x4 % 100))) (nz : ¬ z6 = -1) (nf : z6 / 24 = x3) : leP m a x2 x3 x4 := fun mv cs L h h0 h1 => by
  obtain ⟨K, k1, w, r, li, dq⟩ := d mv cs L h h0 h1
  obtain ⟨z1, z2, z3⟩ := hd_C li dq h4 ez nz
  exact dq_1 h.1.2.1 h.1.2.2.2 h.1.2.2.1 ⟨h0, h1⟩ dq (by omega) z2 z3 (by rw [show ((Int.toNat z6 : Nat) : Int) = z6 by omega]; exact nf)
theorem lex_0 (_T37 : Ty m54) (d : dvP m m54 a x2 x3 x4) (_h4 : 0 ≤ x4) (r : 59400 < x4 ∨ rd m54 39 12 ≤ 0) : leP m a x2 x3 (-2) := fun mv cs L h h0 h1 => by
  obtain ⟨K, w, r2, li, dq⟩ := d mv cs L h h0 h1
  refine dq_0 h.1.2.1 h.1.2.2.2 h.1.2.2.1 ⟨h0, h1⟩ dq (fun s hs => ?_)
  rcases r with r | r
  · cases ws : w s with
    | false => rfl
    | true =>
      have q := dq.2.1 s hs ws
      have kk := cnF_le (seF (rd m54 (Int.toNat (rd m54 39 7))) w) 600
      have k5 := dq.2.2.2.2.1
      omega
  · have e := li.2
    exact cnF_z 600 (by omega) s hs
end DV
/-! .. of a crate -/
def cqN (A : Ab) (T F : Nat → Int) (c s k : Int) : Int := clI 99 (lval (vaI A.Y A.r c (s / 24) k (mkN A.r F c (mvN A.Y A.r T c s k) 0) (mkN A.r F c (mvN A.Y A.r T c s k) 1)) (A.E 2).1 (A.E 2).2)
theorem cq_B {A : Ab} {T F : Nat → Int} {c : Int} : csB (cqN A T F c) := fun s k => by
  unfold cqN clI
  omega
def cheA (A : Ab) (T F : Nat → Int) (x1 x2 v : Int) : Prop := (¬ ((0 ≤ x1 ∧ x1 < A.Y 3) ∧ 0 ≤ x2 ∧ x2 < A.Y 0 * A.Y 1) ∧ v = -1) ∨ (((0 ≤ x1 ∧ x1 < A.Y 3) ∧ 0 ≤ x2 ∧ x2 < A.Y 0 * A.Y 1) ∧ lcP (mvN A.Y A.r T x1) (cqN A T F x1) (24 * fC A.r x1) x2 v)
theorem cheA_u {A : Ab} {T F : Nat → Int} {x1 x2 v w : Int} (h : cheA A T F x1 x2 v) (k : cheA A T F x1 x2 w) : v = w := by
  rcases h with ⟨a, b⟩ | ⟨a, b⟩ <;> rcases k with ⟨c, d⟩ | ⟨c, d⟩
  · exact b.trans d.symm
  · exact absurd c a
  · exact absurd a c
  · exact lcP_u b d
theorem va_f {m : Mm} {a : Nat} {Y r : Ro} {E : Lw} {c f k ov un : Int} (P : plC m Y E) (S : stC m a Y r) (oY : okY Y) (hc : 0 ≤ c ∧ c < Y 3) (o : 0 ≤ f ∧ f < Y 0 * Y 1) (hk : 0 ≤ k ∧ k ≤ 3) : ∀ i : Int, 0 ≤ i → i ≤ 8 → lfI m a c f k ov un i = vaI Y r c f k ov un i := by
  intro i h0 h8
  have y3 := oY.2.2
  have pl := P.2.1 f o.1 o.2
  have e18 := pl.2.2 k hk.1 hk.2
  have hw := oY.1
  have hh := oY.2.1
  have sxy := sx_xy (f := f) (w := Y 0) hk
  have d := yd_div oY.1 oY.2.1 o
  have nb := nx_b oY o hk
  have wb := wh_b oY.1 oY.2.1
  unfold lfI vaI
  rw [e18, pl.1, pl.2.1, sxy.1, sxy.2]
  have tx : -1 ≤ tXI (Y 0) f k ∧ tXI (Y 0) f k ≤ 6 := by
    unfold tXI
    split
    · omega
    · split <;> omega
  have ty : -1 ≤ tYI (Y 0) f k ∧ tYI (Y 0) f k ≤ 6 := by
    unfold tYI
    split
    · omega
    · split <;> omega
  rw [wr_id (x := tXI (Y 0) f k) (by omega) (by omega), wr_id (x := tYI (Y 0) f k) (by omega) (by omega)]
  have e2 : (if nxN Y f k = -1 then (0 : Int) else rd m (a + 1) (Int.toNat (nxN Y f k))) = (if nxN Y f k = -1 then 0 else r (Int.toNat (nxN Y f k))) := by
    rcases nb with q | q
    · rw [if_pos q, if_pos q]
    · rw [if_neg (by omega), if_neg (by omega), S.2.1 _ (by omega)]
  rw [e2, S.2.2.2.2.1 c hc.1 (by omega), S.2.2.2.2.2.1]
theorem che_C {m0 m m27 : Mm} {A : Ab} {T F : Nat → Int} {x1 x2 v : Int} (h : cA m A) (_tb : tbR m 32 33 F T) (st : stP m27 A T F x1) (g27 : G m0 m27) (g : G m0 m) (hc : 0 ≤ x1 ∧ x1 < A.Y 3) (hf : 0 ≤ x2 ∧ x2 ≤ rd m 7 0 * rd m 7 1 - 1) (q : leP m27 274 x1 x2 v) : cheA A T F x1 x2 v := by
  obtain ⟨s1, s2, s3, s4, s5, -⟩ := st
  have b := wh_b h.2.1.1 h.2.1.2.1
  have R : ∀ i j : Nat, scr i j = false → rd m27 i j = rd m i j := fun i j e => (g27.2.1 i j e).trans (g.2.1 i j e).symm
  have P27 : plC m27 A.Y A.E := plC_fr h.1 (fun i j w => by
    have i2 : i = 7 ∨ i = 11 ∨ i = 13 ∨ i = 14 ∨ i = 16 ∨ i = 17 ∨ i = 18 := by omega
    rcases i2 with rfl | rfl | rfl | rfl | rfl | rfl | rfl
    · exact R 7 j rfl
    · exact R 11 j rfl
    · exact R 13 j rfl
    · exact R 14 j rfl
    · exact R 16 j rfl
    · exact R 17 j rfl
    · exact R 18 j rfl)
  have S27 : stC m27 274 A.Y A.r := stC_fr h.2.2.1.2 (fun i j w1 w2 => by
    have i2 : i = 274 ∨ i = 275 ∨ i = 276 ∨ i = 277 ∨ i = 278 := by omega
    rcases i2 with rfl | rfl | rfl | rfl | rfl
    · exact R 274 j rfl
    · exact R 275 j rfl
    · exact R 276 j rfl
    · exact R 277 j rfl
    · exact R 278 j rfl)
  rw [h.1.1.1, h.1.1.2.1] at hf
  refine Or.inr ⟨⟨hc, by omega⟩, ?_⟩
  have hq : hcP m27 274 x1 (mvN A.Y A.r T x1) (cqN A T F x1) (24 * (A.Y 0 * A.Y 1)) := by
    refine ⟨⟨s1, s2, cq_B, by omega⟩, A.E, P27.2.2, fun s k s0 s1_ k0 k1 n => ?_⟩
    have c := (s2 s k s0 s1_ k0 k1).resolve_left n
    have W := ls_W P27.2.2 2 (by decide) (by decide)
    have t0 := s3 0 (mvN A.Y A.r T x1 s k) (by decide) (by decide) c.1
    have t1 := s3 1 (mvN A.Y A.r T x1 s k) (by decide) (by decide) c.1
    rw [Int.add_zero] at t0
    have e0 : tpI m27 (mvN A.Y A.r T x1 s k) = mkN A.r F x1 (mvN A.Y A.r T x1 s k) 0 := t0
    have e1 : bnI m27 (mvN A.Y A.r T x1 s k) = mkN A.r F x1 (mvN A.Y A.r T x1 s k) 1 := t1
    unfold cqN
    rw [e0, e1]
    have e := lval_cg (va_f (ov := mkN A.r F x1 (mvN A.Y A.r T x1 s k) 0) (un := mkN A.r F x1 (mvN A.Y A.r T x1 s k) 1) P27 S27 h.2.1 hc (f := s / 24) ⟨by omega, by omega⟩ ⟨k0, k1⟩) W.2 W.1
    rw [e]
  have k := q _ _ _ hq (by rw [s4]; omega) (by rw [s4]; omega)
  rw [s4] at k
  exact k
theorem che_n {m : Mm} {A : Ab} {T F : Nat → Int} {x1 x2 : Int} (h : cA m A) (q : ¬ (0 ≤ x1 ∧ x1 ≤ rd m 7 3 - 1) ∨ ¬ (0 ≤ x2 ∧ x2 ≤ rd m 7 0 * rd m 7 1 - 1)) : cheA A T F x1 x2 (-1) := by
  rw [h.1.1.2.2.2.1, h.1.1.1, h.1.1.2.1] at q
  exact Or.inl ⟨by omega, rfl⟩
-- TippedCrates$Walks.unlink(I)V
set_option maxRecDepth 20000 in
theorem fy_118 {m0 m : Mm} {x1 : Int}  (g_m : G m0 m) (r_x1 : rg x1) (p0 : 0 ≤ x1 ∧ x1 ≤ 599) (p1 : bsOk m) : CV 1 118 [.ref 39, iv x1] m (fun m2 => G m0 m2 ∧ ((bsOk m2) ∧ (ulP m m2 x1))) := by
  refine br_118 r_x1 ?_
  unfold P_118
  have tb := ty_39_7 g_m.1
  have bb := p1 (Int.toNat x1) (by omega)
  have T0 := g_m.1
  refine ⟨⟨by omega, by omega⟩, ?_⟩
  have t1 := ty_47 g_m.1 (Int.toNat x1)
  refine ⟨fun m_50 => G m0 m_50 ∧ ((bsOk m_50) ∧ (u1P m m_50 x1)), ?_, ?_⟩
  · skip
    refine ⟨fun hq => ?_, fun hq => ?_⟩
    · skip
      refine ⟨⟨by omega, by omega⟩, ?_⟩
      refine ⟨⟨by omega, by omega⟩, ?_⟩
      refine ⟨⟨by omega, by omega⟩, ?_⟩
      have t2 := ty_48 g_m.1 (Int.toNat x1)
      intro m49 e_m49
      have g_m49 : G m0 m49 := by rw [e_m49]; exact GX.wt g_m (tw_48 g_m.1 ⟨by omega, by omega⟩) (Eq.refl true)
      have b_m49 : bsOk m49 := by rw [e_m49]; exact bs_wt p1 (by omega) (by omega) (by omega) g_m.1
      exact ⟨g_m49, by exact ⟨by first | exact b_m29 | exact b_m49, by first | (have u := e_m29; exact Or.inl ⟨by assumption, e_m29.trans (congrArg (fun q => wt m 46 q (rd m 48 (Int.toNat x1))) (by omega))⟩) | exact Or.inr ⟨by assumption, e_m49⟩⟩⟩
    · skip
      have t3 := ty_39_7 g_m.1
      refine ⟨by omega, ?_⟩
      refine ⟨⟨by omega, by omega⟩, ?_⟩
      refine ⟨⟨by omega, by omega⟩, ?_⟩
      try have q5 : rmI (rd m (Int.toNat (rd m 39 7)) (Int.toNat x1)) 100 = (rd m (Int.toNat (rd m 39 7)) (Int.toNat x1)) % 100 := rm_eq (by omega) (by omega) (by omega) (by omega)
      refine ⟨⟨by omega, by omega⟩, ?_⟩
      have t6 := ty_48 g_m.1 (Int.toNat x1)
      intro m29 e_m29
      have g_m29 : G m0 m29 := by rw [e_m29]; exact GX.wt g_m (tw_46 g_m.1 ⟨by omega, by omega⟩) (Eq.refl true)
      have b_m29 : bsOk m29 := by rw [e_m29]; exact bs_wt p1 (by omega) (by omega) (by omega) g_m.1
      exact ⟨g_m29, by exact ⟨by first | exact b_m29 | exact b_m49, by first | (have u := e_m29; exact Or.inl ⟨by assumption, e_m29.trans (congrArg (fun q => wt m 46 q (rd m 48 (Int.toNat x1))) (by omega))⟩) | exact Or.inr ⟨by assumption, e_m49⟩⟩⟩
  · intro m_50  hR_50
    obtain ⟨g_m_50, hR_50⟩ := hR_50
    obtain ⟨hR_50, dR_50⟩ := hR_50
    refine ⟨⟨by omega, by omega⟩, ?_⟩
    have t7 := ty_48 g_m_50.1 (Int.toNat x1)
    refine ⟨fun m_77 => G m0 m_77 ∧ ((bsOk m_77) ∧ (u2P m_50 m_77 x1)), ?_, ?_⟩
    · skip
      refine ⟨fun hq => ?_, fun hq => ?_⟩
      · skip
        exact ⟨g_m_50, by exact ⟨by first | exact b_m76 | exact hR_50, by first | (have u := e_m76; exact Or.inr ⟨by assumption, e_m76⟩) | exact Or.inl ⟨by assumption, rfl⟩⟩⟩
      · skip
        refine ⟨⟨by omega, by omega⟩, ?_⟩
        refine ⟨⟨by omega, by omega⟩, ?_⟩
        refine ⟨⟨by omega, by omega⟩, ?_⟩
        have t8 := ty_47 g_m_50.1 (Int.toNat x1)
        intro m76 e_m76
        have g_m76 : G m0 m76 := by rw [e_m76]; exact GX.wt g_m_50 (tw_47 g_m_50.1 ⟨by omega, by omega⟩) (Eq.refl true)
        have b_m76 : bsOk m76 := by rw [e_m76]; exact bs_wt hR_50 (by omega) (by omega) (by omega) g_m_50.1
        exact ⟨g_m76, by exact ⟨by first | exact b_m76 | exact hR_50, by first | (have u := e_m76; exact Or.inr ⟨by assumption, e_m76⟩) | exact Or.inl ⟨by assumption, rfl⟩⟩⟩
    · intro m_77  hR_77
      obtain ⟨g_m_77, hR_77⟩ := hR_77
      obtain ⟨hR_77, dR_77⟩ := hR_77
      try have w10 : wr ((rd m_77 39 12) - 1) = (rd m_77 39 12) - 1 := wr_id (by omega) (by omega)
      intro m84 e_m84
      have g_m84 : G m0 m84 := by rw [e_m84]; exact GX.wt g_m_77 (tw_39_12 g_m_77.1 (wr_rg _)) (Eq.refl true)
      have b_m84 : bsOk m84 := by rw [e_m84]; exact bs_wt hR_77 (by omega) (by omega) (by omega) g_m_77.1
      exact ⟨g_m84, by exact ⟨by exact b_m84, by exact ul_of T0 (by omega) (by omega) dR_50 dR_77 e_m84⟩⟩
-- TippedCrates$Walks.offer(II)V
set_option maxRecDepth 20000 in
theorem fy_117 {m0 m : Mm} {x1 : Int} {x2 : Int}  (g_m : G m0 m) (r_x1 : rg x1) (r_x2 : rg x2) (p0 : 0 ≤ x1 ∧ x1 ≤ 599) (p1 : 0 ≤ x2 ∧ x2 ≤ 59500) (p2 : bsOk m) : CV 2 117 [.ref 39, iv x1, iv x2] m (fun m2 => G m0 m2 ∧ ((bsOk m2) ∧ (ofP m m2 x1 x2))) := by
  refine br_117 r_x1 r_x2 ?_
  unfold P_117
  have tb := ty_39_7 g_m.1
  have bb := p2 (Int.toNat x1) (by omega)
  have T0 := g_m.1
  have t1 := ty_39_7 g_m.1
  refine ⟨by omega, ?_⟩
  refine ⟨⟨by omega, by omega⟩, ?_⟩
  refine ⟨fun hq => ?_, fun hq => ?_⟩
  · skip
    refine ⟨by omega, ?_⟩
    refine ⟨⟨by omega, by omega⟩, ?_⟩
    refine ⟨fun m_27 => G m0 m_27 ∧ ((bsOk m_27 ∧ x2 ≤ 59400) ∧ ((rd m (Int.toNat (rd m 39 7)) (Int.toNat x1) = 59401 ∧ m_27 = m) ∨ (¬ rd m (Int.toNat (rd m 39 7)) (Int.toNat x1) = 59401 ∧ ulP m m_27 x1))), ?_, ?_⟩
    · skip
      refine ⟨fun hq => ?_, fun hq => ?_⟩
      · skip
        exact ⟨g_m, by exact ⟨by first | exact ⟨h_m24, by omega⟩ | exact ⟨p2, by omega⟩, by first | (have u := c_m24; exact Or.inr ⟨by assumption, c_m24⟩) | exact Or.inl ⟨by assumption, rfl⟩⟩⟩
      · skip
        refine CV.mono (fy_118   g_m r_x1 (by omega) p2) (by decide) ?_
        rintro m24 ⟨g_m24, h_m24⟩
        obtain ⟨h_m24, c_m24⟩ := h_m24
        exact ⟨g_m24, by exact ⟨by first | exact ⟨h_m24, by omega⟩ | exact ⟨p2, by omega⟩, by first | (have u := c_m24; exact Or.inr ⟨by assumption, c_m24⟩) | exact Or.inl ⟨by assumption, rfl⟩⟩⟩
    · intro m_27  hR_27
      obtain ⟨g_m_27, hR_27⟩ := hR_27
      obtain ⟨hR_27, dR_27⟩ := hR_27
      try have q3 : rmI x2 100 = x2 % 100 := rm_eq (by omega) (by omega) (by omega) (by omega)
      refine ⟨⟨by omega, by omega⟩, ?_⟩
      have t4 := ty_46 g_m_27.1 (Int.toNat (rmI x2 100))
      intro z3_36 e_z3_36
      have r_z3_36 : rg z3_36 := by rw [e_z3_36]; exact (rd_rg _ _ _)
      have t5 := ty_39_7 g_m_27.1
      refine ⟨by omega, ?_⟩
      refine ⟨⟨by omega, by omega⟩, ?_⟩
      intro m43 e_m43
      have g_m43 : G m0 m43 := by rw [e_m43]; exact GX.wt g_m_27 (tw_wk g_m_27.1 (by omega) (by first | assumption | omega)) (by first | exact rg_wk (by omega) | (unfold isSt at *; simp; omega))
      have b_m43 : bsOk m43 := by rw [e_m43]; exact bs_w hR_27.1 g_m_27.1 (by omega)
      refine ⟨⟨by omega, by omega⟩, ?_⟩
      intro m53 e_m53
      have g_m53 : G m0 m53 := by rw [e_m53]; exact GX.wt g_m43 (tw_46 g_m43.1 ⟨by omega, by omega⟩) (Eq.refl true)
      have b_m53 : bsOk m53 := by rw [e_m53]; exact bs_wt b_m43 (by omega) (by omega) (by omega) g_m43.1
      refine ⟨⟨by omega, by omega⟩, ?_⟩
      intro m60 e_m60
      have g_m60 : G m0 m60 := by rw [e_m60]; exact GX.wt g_m53 (tw_47 g_m53.1 ⟨by omega, by omega⟩) (Eq.refl true)
      have b_m60 : bsOk m60 := by rw [e_m60]; exact bs_wt b_m53 (by omega) (by omega) (by omega) g_m53.1
      refine ⟨⟨by omega, by omega⟩, ?_⟩
      intro m67 e_m67
      have g_m67 : G m0 m67 := by rw [e_m67]; exact GX.wt g_m60 (tw_48 g_m60.1 ⟨by omega, by omega⟩) (Eq.refl true)
      have b_m67 : bsOk m67 := by rw [e_m67]; exact bs_wt b_m60 (by omega) (by omega) (by omega) g_m60.1
      refine ⟨fun m_80 => G m0 m_80 ∧ ((bsOk m_80) ∧ ((z3_36 = -1 ∧ m_80 = m67) ∨ (¬ z3_36 = -1 ∧ m_80 = wt m67 47 (Int.toNat z3_36) x1))), ?_, ?_⟩
      · skip
        refine ⟨fun hq => ?_, fun hq => ?_⟩
        · skip
          exact ⟨g_m67, by exact ⟨by first | exact b_m79 | exact b_m67, by first | (have u := e_m79; exact Or.inr ⟨by assumption, e_m79⟩) | exact Or.inl ⟨by assumption, rfl⟩⟩⟩
        · skip
          refine ⟨⟨by omega, by omega⟩, ?_⟩
          intro m79 e_m79
          have g_m79 : G m0 m79 := by rw [e_m79]; exact GX.wt g_m67 (tw_47 g_m67.1 ⟨by omega, by omega⟩) (Eq.refl true)
          have b_m79 : bsOk m79 := by rw [e_m79]; exact bs_wt b_m67 (by omega) (by omega) (by omega) g_m67.1
          exact ⟨g_m79, by exact ⟨by first | exact b_m79 | exact b_m67, by first | (have u := e_m79; exact Or.inr ⟨by assumption, e_m79⟩) | exact Or.inl ⟨by assumption, rfl⟩⟩⟩
      · intro m_80  hR_80
        obtain ⟨g_m_80, hR_80⟩ := hR_80
        obtain ⟨hR_80, dR_80⟩ := hR_80
        try have w7 : wr ((rd m_80 39 12) + 1) = (rd m_80 39 12) + 1 := wr_id (by omega) (by omega)
        intro m87 e_m87
        have g_m87 : G m0 m87 := by rw [e_m87]; exact GX.wt g_m_80 (tw_39_12 g_m_80.1 (wr_rg _)) (Eq.refl true)
        have b_m87 : bsOk m87 := by rw [e_m87]; exact bs_wt hR_80 (by omega) (by omega) (by omega) g_m_80.1
        exact ⟨g_m87, by exact ⟨by first | exact b_m87 | exact p2, by first | (have u := e_m87; exact of_of T0 (by omega) (by omega) (by assumption) dR_27 (e_z3_36.trans (congrArg (rd m_27 46) (by omega))) r_z3_36 e_m43 (e_m53.trans (congrArg (fun q => wt m43 46 q x1) (by omega))) e_m60 e_m67 dR_80 e_m87) | exact of_no (by assumption)⟩⟩
  · skip
    exact ⟨g_m, by exact ⟨by first | exact b_m87 | exact p2, by first | (have u := e_m87; exact of_of T0 (by omega) (by omega) (by assumption) dR_27 (e_z3_36.trans (congrArg (rd m_27 46) (by omega))) r_z3_36 e_m43 (e_m53.trans (congrArg (fun q => wt m43 46 q x1) (by omega))) e_m60 e_m67 dR_80 e_m87) | exact of_no (by assumption)⟩⟩
-- TippedCrates$Walks.offerNexts(LTippedCrates$State;II)V
set_option maxRecDepth 20000 in
theorem fy_116 {m0 m : Mm} {a : Nat} {x2 : Int} {x3 : Int}  (g_m : G m0 m) (h_a : isSt a) (r_x2 : rg x2) (r_x3 : rg x3) (p0 : 0 ≤ x2 ∧ x2 ≤ 2) (p1 : 0 ≤ x3 ∧ x3 ≤ 599) (p2 : bsOk m) (p3 : lwOk m0 11) (p4 : ∃ E, LSd m0 11 E) : CV 3 116 [.ref 39, .ref a, iv x2, iv x3] m (fun m2 => G m0 m2 ∧ ((bsOk m2) ∧ (onP m m2 a x2 x3 4))) := by
  refine br_116 h_a r_x2 r_x3 ?_
  unfold P_116
  have T0 := g_m.1
  refine ⟨fun x4_3 m_3 => G m0 m_3 ∧ (((0 ≤ x4_3 ∧ x4_3 ≤ 4) ∧ bsOk m_3) ∧ (onP m m_3 a x2 x3 x4_3)), fun x4_3 m_3 => Int.toNat (4 - x4_3), ?_, ?_⟩
  · exact ⟨g_m, by exact ⟨by exact ⟨by omega, p2⟩, by exact on_0 m⟩⟩
  · intro x4_3 m_3 r_x4_3 hI_3
    obtain ⟨g_m_3, hI_3⟩ := hI_3
    obtain ⟨hI_3, dI_3⟩ := hI_3
    have tb := ty_39_7 g_m_3.1
    refine ⟨fun hq => ?_, fun hq => ?_⟩
    · skip
      exact ⟨g_m_3, by exact ⟨by exact hI_3.2, by rw [show (4 : Int) = x4_3 by omega]; exact dI_3⟩⟩
    · skip
      refine CK.mono (ct_71   g_m_3.1 r_x3 r_x4_3 (by omega) (by omega)) (by decide) ?_
      rintro m16 v16 r_v16 ⟨e_m16, h_m16⟩
      replace e_m16 := e_m16.symm
      subst e_m16
      refine ⟨fun m_99 => G m0 m_99 ∧ ((bsOk m_99) ∧ (osP m_3 m_99 a x2 x3 x4_3)), ?_, ?_⟩
      · skip
        refine ⟨fun hq => ?_, fun hq => ?_⟩
        · skip
          exact ⟨g_m_3, by exact ⟨by first | exact hI_3.2 | exact h_m96, by first | (have u := c_m96; exact os_2 g_m_3.1 h_a (by omega) h_m16.2.2 (by assumption) (by assumption) h_m64.1 h_m73.1 hx_m76 (lx_d h_m76.2 (by omega)) hx_m92 h_m92.2 c_m96 (by omega)) | (have u := h_m16; exact os_1 (by omega) h_m16.2.2 (by assumption) (by assumption)) | exact os_0 (by omega) h_m16.2.2 (by assumption)⟩⟩
        · skip
          have t1 := ty_39_7 g_m_3.1
          refine ⟨by omega, ?_⟩
          refine ⟨⟨by omega, by omega⟩, ?_⟩
          refine ⟨by omega, ?_⟩
          refine ⟨⟨by omega, by omega⟩, ?_⟩
          refine ⟨fun hq => ?_, fun hq => ?_⟩
          · skip
            refine CK.mono (ct_72   g_m_3.1 r_v16 (by omega)) (by decide) ?_
            rintro m64 v64 r_v64 ⟨e_m64, h_m64⟩
            replace e_m64 := e_m64.symm
            subst e_m64
            refine CK.mono (ct_73   g_m_3.1 r_v16 (by omega)) (by decide) ?_
            rintro m73 v73 r_v73 ⟨e_m73, h_m73⟩
            replace e_m73 := e_m73.symm
            subst e_m73
            try have q4 : dvI x3 24 = x3 / 24 := dv_eq (by omega) (by omega) (by omega) (by omega)
            refine CV.mono (ey_3   g_m_3.1 h_a r_x2 (io_rg _ _ _) r_x4_3 r_v64 r_v73 (by omega) (by omega) (by omega)) (by decide) ?_
            rintro m76 ⟨hx_m76, h_m76⟩
            have g_m76 : G m0 m76 := gx_in g_m_3 hx_m76 in_s12_scr
            have b76 := bs_12 hI_3.2 hx_m76 g_m_3.1
            have tb76 := ty_39_7 g_m76.1
            have bb76 := b76 (Int.toNat x3) (by omega)
            have t5 := ty_39_7 g_m76.1
            refine ⟨by omega, ?_⟩
            refine ⟨⟨by omega, by omega⟩, ?_⟩
            refine CK.mono (ey_4   g_m76.1 (lwOk_G p3 g_m76) (leE_G p4 g_m76)) (by decide) ?_
            rintro m92 v92 r_v92 ⟨hx_m92, h_m92⟩
            have g_m92 : G m0 m92 := gx_in g_m76 hx_m92 in_s15_scr
            have b92 := bs_15 b76 hx_m92 g_m76.1
            try have w7 : wr ((rd m76 (Int.toNat (rd m76 39 7)) (Int.toNat x3)) + v92) = (rd m76 (Int.toNat (rd m76 39 7)) (Int.toNat x3)) + v92 := wr_id (by omega) (by omega)
            refine CV.mono (fy_117   g_m92 r_v16 (wr_rg _) (by omega) (by omega) b92) (by decide) ?_
            rintro m96 ⟨g_m96, h_m96⟩
            obtain ⟨h_m96, c_m96⟩ := h_m96
            exact ⟨g_m96, by exact ⟨by first | exact hI_3.2 | exact h_m96, by first | (have u := c_m96; exact os_2 g_m_3.1 h_a (by omega) h_m16.2.2 (by assumption) (by assumption) h_m64.1 h_m73.1 hx_m76 (lx_d h_m76.2 (by omega)) hx_m92 h_m92.2 c_m96 (by omega)) | (have u := h_m16; exact os_1 (by omega) h_m16.2.2 (by assumption) (by assumption)) | exact os_0 (by omega) h_m16.2.2 (by assumption)⟩⟩
          · skip
            exact ⟨g_m_3, by exact ⟨by first | exact hI_3.2 | exact h_m96, by first | (have u := c_m96; exact os_2 g_m_3.1 h_a (by omega) h_m16.2.2 (by assumption) (by assumption) h_m64.1 h_m73.1 hx_m76 (lx_d h_m76.2 (by omega)) hx_m92 h_m92.2 c_m96 (by omega)) | (have u := h_m16; exact os_1 (by omega) h_m16.2.2 (by assumption) (by assumption)) | exact os_0 (by omega) h_m16.2.2 (by assumption)⟩⟩
      · intro m_99  hR_99
        obtain ⟨g_m_99, hR_99⟩ := hR_99
        obtain ⟨hR_99, dR_99⟩ := hR_99
        try have w8 : wr (x4_3 + 1) = x4_3 + 1 := wr_id (by omega) (by omega)
        intro z4_99 e_z4_99
        have r_z4_99 : rg z4_99 := by rw [e_z4_99]; exact wr_rg _
        exact ⟨⟨g_m_99, by exact ⟨by exact ⟨by omega, by assumption⟩, by exact on_s dI_3 dR_99 h_a (by omega)⟩⟩, by (try dsimp only); omega⟩
-- TippedCrates$Walks.leastCost(LTippedCrates$State;II)I
set_option maxRecDepth 20000 in
theorem fy_115 {m0 m : Mm} {a : Nat} {x2 : Int} {x3 : Int}  (g_m : G m0 m) (h_a : isSt a) (r_x2 : rg x2) (r_x3 : rg x3) (p0 : 0 ≤ x2 ∧ x2 ≤ 2) (p1 : lwOk m0 11) (p2 : ∃ E, LSd m0 11 E) : CK 4 115 [.ref 39, .ref a, iv x2, iv x3] m (fun m2 v => G m0 m2 ∧ ((True) ∧ (leP m a x2 x3 v))) := by
  refine br_115 h_a r_x2 r_x3 ?_
  unfold P_115
  have tb := ty_39_7 g_m.1
  have T0 := g_m.1
  have t1 := ty_39_7 g_m.1
  refine ⟨by omega, ?_⟩
  refine CV.mono (ct_299   (wk_R (by omega)) (by unfold rg; decide)) (by decide) ?_
  rintro m6 ⟨hx_m6, h_m6⟩
  have g_m6 : G m0 m6 := by rw [hx_m6]; exact gf_wk g_m (by omega) ⟨by omega, by omega⟩
  have b6 : bsOk m6 := by rw [hx_m6]; exact bs_fl g_m.1
  refine CV.mono (ct_299   ir_46 (by unfold rg; decide)) (by decide) ?_
  rintro m14 ⟨hx_m14, h_m14⟩
  have g_m14 : G m0 m14 := by rw [hx_m14]; exact gf_46 g_m6 ⟨by omega, by omega⟩
  have b14 : bsOk m14 := by rw [hx_m14]; exact bs_fl46 b6 g_m6.1
  intro m19 e_m19
  have g_m19 : G m0 m19 := by rw [e_m19]; exact GX.wt g_m14 (tw_39_12 g_m14.1 (by first | assumption | omega)) (Eq.refl true)
  have b_m19 : bsOk m19 := by rw [e_m19]; exact bs_wt b14 (by omega) (by omega) (by omega) g_m14.1
  have t2 := ty_36_1 g_m19.1
  refine CV.mono (fy_117   g_m19 (rd_rg _ _ _) (by unfold rg; decide) (by omega) (by omega) b_m19) (by decide) ?_
  rintro m31 ⟨g_m31, h_m31⟩
  obtain ⟨h_m31, c_m31⟩ := h_m31
  refine ⟨fun x4_37 m_37 => G m0 m_37 ∧ (((0 ≤ x4_37 ∧ x4_37 ≤ 59401) ∧ bsOk m_37) ∧ (frO m m_37 ∧ dvP m m_37 a x2 x3 x4_37)), fun x4_37 m_37 => Int.toNat (59401 - x4_37), ?_, ?_⟩
  · exact ⟨g_m31, by exact ⟨by exact ⟨by omega, h_m31⟩, by exact dv_i T0 h_a hx_m6 hx_m14 e_m19 c_m31⟩⟩
  · intro x4_37 m_37 r_x4_37 hI_37
    obtain ⟨g_m_37, hI_37⟩ := hI_37
    obtain ⟨hI_37, dI_37⟩ := hI_37
    refine ⟨59400 < x4_37 ∨ rd m_37 39 12 ≤ 0, ?_, ?_⟩
    · skip
      refine ⟨fun hq => ?_, fun hq => ?_⟩
      · skip
        (omega)
      · skip
        refine ⟨fun hq => ?_, fun hq => ?_⟩
        · skip
          (omega)
        · skip
          refine ⟨fun x5_54 m_54 => G m0 m_54 ∧ (((0 ≤ x5_54 ∧ x5_54 ≤ 600) ∧ bsOk m_54) ∧ (frO m m_54 ∧ dwP m m_54 a x2 x3 x4_37 x5_54)), fun x5_54 m_54 => Int.toNat (600 - x5_54), ?_, ?_⟩
          · exact ⟨g_m_37, by exact ⟨by exact ⟨by omega, hI_37.2⟩, by exact ⟨dI_37.1, dw_i dI_37.2⟩⟩⟩
          · intro x5_54 m_54 r_x5_54 hI_54
            obtain ⟨g_m_54, hI_54⟩ := hI_54
            obtain ⟨hI_54, dI_54⟩ := hI_54
            refine ⟨600 ≤ x5_54 ∨ rd m_54 46 (Int.toNat (x4_37 % 100)) = -1, ?_, ?_⟩
            · skip
              refine ⟨fun hq => ?_, fun hq => ?_⟩
              · skip
                (first | exact Or.inl (by assumption) | exact Or.inr (by rw [show Int.toNat (x4_37 % 100) = Int.toNat (rmI x4_37 100) by omega]; assumption))
              · skip
                try have q4 : rmI x4_37 100 = x4_37 % 100 := rm_eq (by omega) (by omega) (by omega) (by omega)
                refine ⟨⟨by omega, by omega⟩, ?_⟩
                have t5 := ty_46 g_m_54.1 (Int.toNat (rmI x4_37 100))
                refine ⟨fun hq => ?_, fun hq => ?_⟩
                · skip
                  (first | exact Or.inl (by assumption) | exact Or.inr (by rw [show Int.toNat (x4_37 % 100) = Int.toNat (rmI x4_37 100) by omega]; assumption))
                · skip
                  refine ⟨⟨by omega, by omega⟩, ?_⟩
                  intro z6_86 e_z6_86
                  have r_z6_86 : rg z6_86 := by rw [e_z6_86]; exact (rd_rg _ _ _)
                  try have q6 : dvI z6_86 24 = z6_86 / 24 := dv_eq (by omega) (by omega) (by omega) (by omega)
                  refine ⟨fun hq => ?_, fun hq => ?_⟩
                  · skip
                    refine CV.mono (fy_118   g_m_54 r_z6_86 (by omega) hI_54.2) (by decide) ?_
                    rintro m103 ⟨g_m103, h_m103⟩
                    obtain ⟨h_m103, c_m103⟩ := h_m103
                    refine CV.mono (fy_116   g_m103 h_a r_x2 r_z6_86 (by omega) (by omega) h_m103 p1 p2) (by decide) ?_
                    rintro m111 ⟨g_m111, h_m111⟩
                    obtain ⟨h_m111, c_m111⟩ := h_m111
                    try have w7 : wr (x5_54 + 1) = x5_54 + 1 := wr_id (by omega) (by omega)
                    intro z5_114 e_z5_114
                    have r_z5_114 : rg z5_114 := by rw [e_z5_114]; exact wr_rg _
                    exact ⟨⟨g_m111, by exact ⟨by exact ⟨by omega, h_m111⟩, by exact dw_s T0 g_m_54.1 h_a dI_54 (by omega) (e_z6_86.trans (congrArg (rd m_54 46) (by omega))) (by omega) (by omega) c_m103 c_m111 (by omega)⟩⟩, by (try dsimp only); omega⟩
                  · skip
                    exact ⟨g_m_54, by exact ⟨by first | trivial | omega | (refine ⟨?_, ?_⟩ <;> omega), by first | (have u := e_z6_86; exact lex_1 g_m_54.1 dI_54.2 (by omega) (e_z6_86.trans (congrArg (rd m_54 46) (by omega))) (by omega) (by omega)) | exact lex_0 g_m_37.1 dI_37.2 (by omega) hR_126⟩⟩
            · intro   hR_120
              try have w8 : wr (x4_37 + 1) = x4_37 + 1 := wr_id (by omega) (by omega)
              intro z4_120 e_z4_120
              have r_z4_120 : rg z4_120 := by rw [e_z4_120]; exact wr_rg _
              exact ⟨⟨g_m_54, by exact ⟨by exact ⟨by omega, hI_54.2⟩, by exact ⟨dI_54.1, dv_s g_m_54.1 dI_54.2 (by omega) hR_120 (by omega)⟩⟩⟩, by (try dsimp only); omega⟩
    · intro   hR_126
      exact ⟨g_m_37, by exact ⟨by first | trivial | omega | (refine ⟨?_, ?_⟩ <;> omega), by first | (have u := e_z6_86; exact lex_1 g_m_54.1 dI_54.2 (by omega) (e_z6_86.trans (congrArg (rd m_54 46) (by omega))) (by omega) (by omega)) | exact lex_0 g_m_37.1 dI_37.2 (by omega) hR_126⟩⟩
-- TippedCrates.cheapest(II)I
set_option maxRecDepth 20000 in
theorem fy_134 {m0 m : Mm} {x1 : Int} {x2 : Int}  (g_m : G m0 m) (r_x1 : rg x1) (r_x2 : rg x2) (p0 : okS m 274) (p1 : lwOk m0 11) (p2 : ∃ E, LSd m0 11 E) : CK 5 134 [.ref 0, iv x1, iv x2] m (fun m2 v => G m0 m2 ∧ ((True) ∧ (∀ A T F, cA m A → dsR A.Y A.r → tbR m 32 33 F T → cheA A T F x1 x2 v))) := by
  refine br_134 r_x1 r_x2 ?_
  unfold P_134
  have ok := p0
  have okn := p0.1
  have t73 := ty_7_3 g_m.1
  refine CK.mono (ct_162   g_m.1 r_x1) (by decide) ?_
  rintro m2 v2 r_v2 ⟨e_m2, h_m2⟩
  replace e_m2 := e_m2.symm
  subst e_m2
  refine ⟨fun m_16 => G m0 m_16 ∧ (¬ (0 ≤ x1 ∧ x1 ≤ rd m 7 3 - 1) ∨ ¬ (0 ≤ x2 ∧ x2 ≤ rd m 7 0 * rd m 7 1 - 1)), ?_, ?_⟩
  · skip
    refine ⟨fun hq => ?_, fun hq => ?_⟩
    · skip
      exact ⟨g_m, by omega⟩
    · skip
      refine CK.mono (ct_163   g_m.1 r_x2) (by decide) ?_
      rintro m10 v10 r_v10 ⟨e_m10, h_m10⟩
      replace e_m10 := e_m10.symm
      subst e_m10
      refine ⟨fun hq => ?_, fun hq => ?_⟩
      · skip
        refine CV.mono (fy_70   g_m st_274 r_x1 (by omega) (ok.2.1 _ (by omega)) (fun k hk => ok.2.2 _ (by omega))) (by decide) ?_
        rintro m27 ⟨g_m27, h_m27⟩
        refine CK.mono (fy_115   g_m27 st_274 r_x1 r_x2 (by omega) p1 p2) (by decide) ?_
        rintro m40 v40 r_v40 ⟨g_m40, h_m40⟩
        exact ⟨g_m40, by exact ⟨by first | trivial | omega | (refine ⟨?_, ?_⟩ <;> omega), by first | (have u := h_m40; exact fun A T F h ds tb => che_C h tb (st_C h ds (te_Cx h (by omega)) tb g_m g_m27 h_m27.2) g_m27 g_m (te_Cx h (by omega)) (by omega) h_m40.2) | exact fun A T F h ds tb => che_n h (by omega)⟩⟩
      · skip
        exact ⟨g_m, by omega⟩
  · intro m_16  hR_16
    obtain ⟨g_m_16, hR_16⟩ := hR_16
    exact ⟨g_m_16, by exact ⟨by first | trivial | omega | (refine ⟨?_, ?_⟩ <;> omega), by first | (have u := h_m40; exact fun A T F h ds tb => che_C h tb (st_C h ds (te_Cx h (by omega)) tb g_m g_m27 h_m27.2) g_m27 g_m (te_Cx h (by omega)) (by omega) h_m40.2) | exact fun A T F h ds tb => che_n h (by omega)⟩⟩
