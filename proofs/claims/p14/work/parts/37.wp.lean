/-! Walks of the small machine: W goes on from a pc to the method's end, K is a call. -/
noncomputable def mm_E (N D : Nat) : mm_F := mm_exec mm_cd mm_nL N D
abbrev mm_Q : Type := mm_H → Option Value → Prop
def mm_W (D : Nat) (code : Nat → mm_A) (pc : Nat) (ls : List (Option Value)) (st : List Value) (h : mm_H) (Q : mm_Q) : Prop :=
  ∃ (N n : Nat) (h2 : mm_H) (r : Option Value), mm_run (mm_E N D) code n pc ls st h = some (h2, r) ∧ Q h2 r
def mm_K (D k : Nat) (as : List Value) (h : mm_H) (Q : mm_Q) : Prop :=
  ∃ (N : Nat) (h2 : mm_H) (r : Option Value), mm_E N D k as h = some (h2, r) ∧ Q h2 r
theorem mm_E_mo {N M D E : Nat} (h1 : N ≤ M) (h2 : D ≤ E) : mm_le (mm_E N D) (mm_E M E) := mm_exec_mo mo_all h1 D E h2
theorem mm_K.mono {D D2 k : Nat} {as : List Value} {h : mm_H} {Q Q2 : mm_Q} (hK : mm_K D k as h Q) (hD : D ≤ D2) (hQ : ∀ h2 r, Q h2 r → Q2 h2 r) : mm_K D2 k as h Q2 := by
  obtain ⟨N, h2, r, e, q⟩ := hK
  exact ⟨N, h2, r, mm_E_mo (Nat.le_refl N) hD _ _ _ _ e, hQ _ _ q⟩
theorem mm_W.mono {D : Nat} {code : Nat → mm_A} {pc : Nat} {ls : List (Option Value)} {st : List Value} {h : mm_H} {Q Q2 : mm_Q} (hW : mm_W D code pc ls st h Q) (hQ : ∀ h2 r, Q h2 r → Q2 h2 r) : mm_W D code pc ls st h Q2 := by
  obtain ⟨N, n, h2, r, e, q⟩ := hW
  exact ⟨N, n, h2, r, e, hQ _ _ q⟩
section WP
variable {D : Nat} {code : Nat → mm_A} {pc : Nat} {ls : List (Option Value)} {st r : List Value} {h : mm_H} {Q : mm_Q}
theorem w_st {pc2 : Nat} {ls2 : List (Option Value)} {st2 : List Value} {h2 : mm_H} (hs : ∀ F : mm_F, code pc F ls st h = some (.inl (pc2, ls2, st2, h2))) (k : mm_W D code pc2 ls2 st2 h2 Q) : mm_W D code pc ls st h Q := by
  obtain ⟨N, n, h3, r3, e, q⟩ := k
  refine ⟨N, n + 1, h3, r3, ?_, q⟩
  unfold mm_run
  rw [hs]
  exact e
theorem w_rt {h2 : mm_H} {v : Option Value} (hs : ∀ F : mm_F, code pc F ls st h = some (.inr (h2, v))) (q : Q h2 v) : mm_W D code pc ls st h Q := by
  refine ⟨0, 1, h2, v, ?_, q⟩
  unfold mm_run
  rw [hs]
/-- a number that is computed -/
theorem w_i2 {op : Int32 → Int32 → Int32} {nx : Nat} {x y : Int32} (hc : code pc = a_i2 op nx) (k : mm_W D code nx ls (.int (op x y) :: r) h Q) : mm_W D code pc ls (.int y :: .int x :: r) h Q :=
  w_st (fun F => by rw [hc]; exact mm_fI_eq (op x y) (fun z => some (Sum.inl (nx, ls, Value.int z :: r, h)))) k
theorem w_i1 {op : Int32 → Int32} {nx : Nat} {x : Int32} (hc : code pc = a_i1 op nx) (k : mm_W D code nx ls (.int (op x) :: r) h Q) : mm_W D code pc ls (.int x :: r) h Q :=
  w_st (fun F => by rw [hc]; exact mm_fI_eq (op x) (fun z => some (Sum.inl (nx, ls, Value.int z :: r, h)))) k
theorem w_id {op : Int32 → Int32 → Int32} {nx : Nat} {x y : Int32} (hc : code pc = a_id op nx) (hy : ¬ y = 0) (k : mm_W D code nx ls (.int (op x y) :: r) h Q) : mm_W D code pc ls (.int y :: .int x :: r) h Q :=
  w_st (fun F => by
    rw [hc]
    show (bif decide (y = 0) then none else mm_fI (op x y) (fun z => some (Sum.inl (nx, ls, Value.int z :: r, h)))) = _
    rw [decide_eq_false hy]
    exact mm_fI_eq (op x y) (fun z => some (Sum.inl (nx, ls, Value.int z :: r, h)))) k
theorem w_l2 {op : Int64 → Int64 → Int64} {nx : Nat} {x y : Int64} (hc : code pc = a_l2 op nx) (k : mm_W D code nx ls (.long (op x y) :: r) h Q) : mm_W D code pc ls (.long y :: .long x :: r) h Q :=
  w_st (fun F => by rw [hc]; exact mm_fL_eq (op x y) (fun z => some (Sum.inl (nx, ls, Value.long z :: r, h)))) k
theorem w_lcmp {nx : Nat} {x y : Int64} (hc : code pc = a_lcmp nx) (k : mm_W D code nx ls (.int (lg_cmp x y) :: r) h Q) : mm_W D code pc ls (.long y :: .long x :: r) h Q :=
  w_st (fun F => by rw [hc]; exact mm_fI_eq (lg_cmp x y) (fun z => some (Sum.inl (nx, ls, Value.int z :: r, h)))) k
theorem w_i2l {nx : Nat} {x : Int32} (hc : code pc = a_i2l nx) (k : mm_W D code nx ls (.long x.toInt64 :: r) h Q) : mm_W D code pc ls (.int x :: r) h Q :=
  w_st (fun F => by rw [hc]; exact mm_fL_eq x.toInt64 (fun z => some (Sum.inl (nx, ls, Value.long z :: r, h)))) k
theorem w_l2i {nx : Nat} {x : Int64} (hc : code pc = a_l2i nx) (k : mm_W D code nx ls (.int x.toInt32 :: r) h Q) : mm_W D code pc ls (.long x :: r) h Q :=
  w_st (fun F => by rw [hc]; exact mm_fI_eq x.toInt32 (fun z => some (Sum.inl (nx, ls, Value.int z :: r, h)))) k
/-- branches -/
theorem w_ic {t : Int32 → Int32 → Bool} {tgt nx : Nat} {x y : Int32} (hc : code pc = a_ic t tgt nx) (h1 : t x y = true → mm_W D code tgt ls r h Q) (h2 : t x y = false → mm_W D code nx ls r h Q) : mm_W D code pc ls (.int y :: .int x :: r) h Q := by
  cases hq : t x y with
  | true => exact w_st (fun F => by rw [hc]; show (bif t x y then _ else _) = _; rw [hq]; rfl) (h1 hq)
  | false => exact w_st (fun F => by rw [hc]; show (bif t x y then _ else _) = _; rw [hq]; rfl) (h2 hq)
theorem w_ifz {t : Int32 → Bool} {tgt nx : Nat} {x : Int32} (hc : code pc = a_if t tgt nx) (h1 : t x = true → mm_W D code tgt ls r h Q) (h2 : t x = false → mm_W D code nx ls r h Q) : mm_W D code pc ls (.int x :: r) h Q := by
  cases hq : t x with
  | true => exact w_st (fun F => by rw [hc]; show (bif t x then _ else _) = _; rw [hq]; rfl) (h1 hq)
  | false => exact w_st (fun F => by rw [hc]; show (bif t x then _ else _) = _; rw [hq]; rfl) (h2 hq)
/-- locals -/
theorem w_istore {i nx : Nat} {x : Int32} (hc : code pc = a_istore i nx) (k : mm_W D code nx ((mm_kl ls i).set i (some (.int x))) r h Q) : mm_W D code pc ls (.int x :: r) h Q :=
  w_st (fun F => by rw [hc]; exact mm_lK_eq _ _ _ _) k
theorem w_iinc {i nx : Nat} {n x : Int32} (hc : code pc = a_iinc i n nx) (hl : ls[i]? = some (some (.int x))) (k : mm_W D code nx ((mm_kl ls i).set i (some (.int (x + n)))) st h Q) : mm_W D code pc ls st h Q :=
  w_st (fun F => by
    rw [hc]
    show (match ls[i]? with
      | some (some (.int x)) => mm_fI (x + n) (fun z => mm_lK (mm_kl ls i) i (some (.int z)) (fun l2 => some (Sum.inl (nx, l2, st, h))))
      | _ => none) = _
    rw [hl]
    show mm_fI (x + n) _ = _
    rw [mm_fI_eq, mm_lK_eq]) k
theorem mm_pop_ap {β : Type} : ∀ (as r acc : List Value) (k : List Value → List Value → Option β), mm_pop as.length (as ++ r) acc k = k (as.reverse ++ acc) r := by
  intro as
  induction as with
  | nil => intro r acc k; rfl
  | cons v as ih =>
    intro r acc k
    show mm_pop as.length (as ++ r) (v :: acc) k = _
    rw [ih, List.reverse_cons, List.append_assoc]
    rfl
theorem mm_pop_rv {β : Type} (as r : List Value) (k : List Value → List Value → Option β) : mm_pop as.length (as.reverse ++ r) [] k = k as r := by
  have e := mm_pop_ap as.reverse r [] k
  rw [List.length_reverse, List.reverse_reverse, List.append_nil] at e
  exact e
theorem w_join {nx : Nat} {k : Nat} {as : List Value} {h : mm_H} (hm : ∀ pc, mm_mo (code pc)) (hs : ∀ (F : mm_F) (h2 : mm_H) (v : Option Value), F k as h = some (h2, v) → code pc F ls st h = some (.inl (nx, ls, v.toList ++ r, h2))) (hK : mm_K D k as h (fun h2 v => mm_W D code nx ls (v.toList ++ r) h2 Q)) : mm_W D code pc ls st h Q := by
  obtain ⟨N1, h2, v, e1, N2, n, h3, r3, e2, q⟩ := hK
  refine ⟨max N1 N2, n + 1, h3, r3, ?_, q⟩
  unfold mm_run
  rw [hs _ _ _ (mm_E_mo (Nat.le_max_left N1 N2) (Nat.le_refl D) _ _ _ _ e1)]
  exact mm_run_mo hm (mm_E_mo (Nat.le_max_right N1 N2) (Nat.le_refl D)) n n (Nat.le_refl n) _ _ _ _ _ e2
/-- calls -/
theorem w_ivS {k n nx : Nat} {as : List Value} (hc : code pc = a_ivS k n nx) (hm : ∀ pc, mm_mo (code pc)) (hst : st = as.reverse ++ r) (hn : as.length = n) (hr : Nat.ble (mm_cat r) 8 = true) (hK : mm_K D k as h (fun h2 v => mm_W D code nx ls (v.toList ++ r) h2 Q)) : mm_W D code pc ls st h Q := by
  subst hn hst
  refine w_join hm (fun F h2 v hv => ?_) hK
  rw [hc]
  refine (mm_pop_rv as r _).trans ?_
  rw [hr]
  simp only [cond_true, hv]
theorem w_ivV {ci k n nx i : Nat} {as fs : List Value} (hc : code pc = a_ivV ci k n nx) (hm : ∀ pc, mm_mo (code pc)) (hst : st = as.reverse ++ (.ref i :: r)) (hn : as.length = n) (hg : mm_hg h i = some (.inl (ci, fs))) (hr : Nat.ble (mm_cat r) 8 = true) (hK : mm_K D k (.ref i :: as) h (fun h2 v => mm_W D code nx ls (v.toList ++ r) h2 Q)) : mm_W D code pc ls st h Q := by
  subst hn hst
  refine w_join hm (fun F h2 v hv => ?_) hK
  rw [hc]
  refine (mm_pop_rv as (.ref i :: r) _).trans ?_
  simp only [hg, Nat.beq_refl, hr, Bool.and_self, cond_true, hv]
theorem w_ivI {k n nx i : Nat} {as : List Value} (hc : code pc = a_ivI k n nx) (hm : ∀ pc, mm_mo (code pc)) (hst : st = as.reverse ++ (.ref i :: r)) (hn : as.length = n) (hr : Nat.ble (mm_cat r) 8 = true) (hK : mm_K D k (.ref i :: as) h (fun h2 v => v = none ∧ mm_W D code nx ls r h2 Q)) : mm_W D code pc ls st h Q := by
  subst hn hst
  obtain ⟨N1, h2, v, e1, rfl, N2, n2, h3, r3, e2, q⟩ := hK
  refine ⟨max N1 N2, n2 + 1, h3, r3, ?_, q⟩
  unfold mm_run
  have e3 := mm_E_mo (Nat.le_max_left N1 N2) (Nat.le_refl D) _ _ _ _ e1
  have e4 : code pc (mm_E (max N1 N2) D) ls (as.reverse ++ (.ref i :: r)) h = some (.inl (nx, ls, r, h2)) := by
    rw [hc]
    refine (mm_pop_rv as (.ref i :: r) _).trans ?_
    simp only [hr, cond_true, e3]
  rw [e4]
  exact mm_run_mo hm (mm_E_mo (Nat.le_max_right N1 N2) (Nat.le_refl D)) n2 n2 (Nat.le_refl n2) _ _ _ _ _ e2
theorem w_ivX {ns k n nx i : Nat} {as : List Value} (hc : code pc = a_ivX ns k n nx) (hm : ∀ pc, mm_mo (code pc)) (hst : st = as.reverse ++ (.ref i :: r)) (hn : as.length = n) (hg : (Nat.ble 1100 i && Nat.blt (i - 1100) ns) = true) (hr : Nat.ble (mm_cat r) 8 = true) (hK : mm_K D k (.ref i :: as) h (fun h2 v => mm_W D code nx ls (v.toList ++ r) h2 Q)) : mm_W D code pc ls st h Q := by
  subst hn hst
  refine w_join hm (fun F h2 v hv => ?_) hK
  rw [hc]
  refine (mm_pop_rv as (.ref i :: r) _).trans ?_
  simp only [hg, hr, Bool.and_self, cond_true, hv]
end WP
/-- a method, out of the walk of its body -/
theorem mm_K.of {D k : Nat} {as : List Value} {h : mm_H} {Q : mm_Q} (hn : Nat.ble (mm_en as).length (mm_nL k) = true) (hW : mm_W D (mm_cd k) 0 (mm_pad (mm_en as) (mm_nL k)) [] h (fun h2 r => (h.1 ≤ h2.1 ∧ h.2.1 ≤ h2.2.1) ∧ Q h2 r)) : mm_K (D + 1) k as h Q := by
  obtain ⟨N, n, h2, r, e, ⟨g1, g2⟩, q⟩ := hW
  refine ⟨max N n, h2, r, ?_, q⟩
  have e2 := mm_run_mo (mo_all k) (mm_E_mo (Nat.le_max_left N n) (Nat.le_refl D)) n (max N n) (Nat.le_max_right N n) _ _ _ _ _ e
  have e3 : mm_run (mm_exec mm_cd mm_nL (max N n) D) (mm_cd k) (max N n) 0 (mm_pad (mm_en as) (mm_nL k)) [] h = some (h2, r) := e2
  show mm_exec mm_cd mm_nL (max N n) (D + 1) k as h = some (h2, r)
  unfold mm_exec
  rw [hn, e3]
  have b1 : Nat.ble h.1 h2.1 = true := Nat.ble_eq_true_of_le g1
  have b2 : Nat.ble h.2.1 h2.2.1 = true := Nat.ble_eq_true_of_le g2
  simp only [cond_true, b1, b2, Bool.and_self]
/-- a call that was reckoned -/
theorem mm_K.calc {N D k : Nat} {as : List Value} {h h2 : mm_H} {r : Option Value} {Q : mm_Q} (e : mm_exec mm_cd mm_nL N D k as h = some (h2, r)) (q : Q h2 r) : mm_K D k as h Q := ⟨N, h2, r, e, q⟩
