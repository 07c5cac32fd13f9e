theorem mm_en_args {f : Nat → Nat} : ∀ (as : List Value) (k i : Nat) (v : Value), (mm_en as)[i]? = some (some v) → (k + i, mm_e f v) ∈ lv_args k (as.map (mm_e f)) := by
  intro as
  induction as with
  | nil => intro k i v h; simp [mm_en] at h
  | cons w ws ih =>
    intro k i v h
    unfold mm_en at h
    show _ ∈ (k, mm_e f w) :: lv_args (if (mm_e f w).category = 2 then k + 2 else k + 1) (ws.map (mm_e f))
    rw [mm_e_cat]
    by_cases hc : w.category = 2
    · rw [if_pos hc] at h ⊢
      match i, h with
      | 0, h => cases h; exact List.mem_cons_self
      | 1, h => cases h
      | i + 2, h =>
        have := ih (k + 2) i v h
        rw [show k + (i + 2) = k + 2 + i by omega]
        exact List.mem_cons_of_mem _ this
    · rw [if_neg hc] at h ⊢
      match i, h with
      | 0, h => cases h; exact List.mem_cons_self
      | i + 1, h =>
        have := ih (k + 1) i v h
        rw [show k + (i + 1) = k + 1 + i by omega]
        exact List.mem_cons_of_mem _ this
theorem mm_en_len {f : Nat → Nat} : ∀ as : List Value, (lg_sl (as.map (mm_e f))).length = (mm_en as).length := by
  intro as
  induction as with
  | nil => rfl
  | cons w ws ih =>
    unfold lg_sl at ih ⊢
    unfold mm_en
    rw [List.map_cons, List.flatMap_cons, List.length_append, ih, mm_e_cat]
    by_cases hc : w.category = 2
    · rw [if_pos hc, if_pos hc]; simp; omega
    · rw [if_neg hc, if_neg hc]; simp; omega
theorem mm_pad_get : ∀ (n : Nat) (ls : List (Option Value)) (i : Nat) (v : Value), (mm_pad ls n)[i]? = some (some v) → ls[i]? = some (some v) := by
  intro n
  induction n with
  | zero => intro ls i v h; exact h
  | succ n ih =>
    intro ls i v h
    cases ls with
    | nil =>
      cases i with
      | zero => cases h
      | succ i => have := ih [] i v h; simp at this
    | cons x ls =>
      cases i with
      | zero => exact h
      | succ i => exact ih ls i v h
theorem mm_L.entry {f : Nat → Nat} {as : List Value} {n : Nat} (hn : (mm_en as).length ≤ n) : mm_L f ((lg_sl (as.map (mm_e f)) ++ List.replicate (n - (lg_sl (as.map (mm_e f))).length) Slot.unset).toArray) n (mm_pad (mm_en as) n) := by
  have hl := lv_entry (as.map (mm_e f)) (n := n) (by rw [mm_en_len]; exact hn)
  refine ⟨hl.1, hl.2.1, fun i v hv => ?_⟩
  have h1 := mm_en_args (f := f) as 0 i v (mm_pad_get n _ i v hv)
  rw [Nat.zero_add] at h1
  exact hl.2.2 _ h1
/-- what a method's walk may take for granted -/
def mm_Cx (p : Program) (s : State) (m : MethodId) (args : Array Value) (meth : Method) (c : Code) (y : MethodName) (bytes : ByteArray) (maxL : Nat) (ret : Option FieldType) (Ts : List Cond) (f : Nat → Nat) (EX : State → Prop) : Prop :=
  p.tables.exec = Jvm.exec ∧ c.code = bytes ∧ c.maxLocals = maxL ∧ meth.sig.returnType = ret ∧ meth.locks = false ∧ meth.name = y.name ∧ s.vm.findClass y.cls = some m.cls ∧ (∀ w ∈ Ts, w.before args s = true) ∧ EX s ∧ mm_go f EX ∧ ∀ i, i < 512 → f i = f 0 + i
/-- every act of a method is what the machine does -/
def mm_Ok (l : Launch) (Y : Nat → MethodName) (WS : Nat → List Cond) (f : Nat → Nat) (D : va_G) (cl : List vw_C) (cA : FieldType → ClassId) (EX : State → Prop) (d k : Nat) (bytes : ByteArray) (maxL : Nat) (ret : Option FieldType) (code : Nat → mm_A) : Prop :=
  ∀ (p : Program) (e : Env) (R : Room) (s : State) (m : MethodId) (args : Array Value) (below : List Frame) (meth : Method) (c : Code), mm_Cx p s m args meth c (Y k) bytes maxL ret (WS k) f EX → R.frames = d + 1 → R.locals = 60 * (d + 1) → ∀ pc, mm_S p l e R s m args below meth c f D cl cA maxL (mm_FP l Y WS f D cl cA EX d) pc (code pc)
section MS8
variable {l : Launch} {f : Nat → Nat} {D : va_G} {cl : List vw_C} {cA : FieldType → ClassId} {Y : Nat → MethodName} {WS : Nat → List Cond} {EX : State → Prop}
set_option maxHeartbeats 4000000 in
/-- calls, to any depth -/
theorem mm_exec_ok {code : Nat → Nat → mm_A} {nL : Nat → Nat} {B : Nat → ByteArray} {RT : Nat → Option FieldType} {AW : List Cond} (fuel : Nat) (hf : ∀ i, i < 512 → f i = f 0 + i) (hgo : mm_go f EX) (hws : ∀ k, WS k = Cond.code (Y k) (B k) (nL k) (RT k) :: AW) (hy : ∀ k, plainName (Y k).cls = true) (hok : ∀ d k, mm_Ok l Y WS f D cl cA EX d k (B k) (nL k) (RT k) (code k)) : ∀ d, mm_FP l Y WS f D cl cA EX d (mm_exec code nL fuel d) := by
  intro d
  induction d with
  | zero => intro k as h h2 r hr; cases hr
  | succ d ih =>
    intro k as h h2 r hr
    have hr : (bif Nat.ble (mm_en as).length (nL k) then match mm_run (mm_exec code nL fuel d) (code k) fuel 0 (mm_pad (mm_en as) (nL k)) [] h with
      | some (h2, r) => bif Nat.ble h.1 h2.1 && Nat.ble h.2.1 h2.2.1 then some (h2, r) else none
      | none => none
      else none) = some (h2, r) := hr
    cases hq : Nat.ble (mm_en as).length (nL k) with
    | false => rw [hq] at hr; cases hr
    | true =>
      rw [hq] at hr
      simp only [cond_true] at hr
      have hlen : (mm_en as).length ≤ nL k := Nat.le_of_ble_eq_true hq
      split at hr
      · next h3 r3 hrun =>
        cases hq2 : (Nat.ble h.1 h3.1 && Nat.ble h.2.1 h3.2.1) with
        | false => rw [hq2] at hr; cases hr
        | true =>
          rw [hq2] at hr
          cases hr
          rw [Bool.and_eq_true] at hq2
          refine ⟨Nat.le_of_ble_eq_true hq2.1, Nat.le_of_ble_eq_true hq2.2, ?_⟩
          refine Met.ofW (cc := B k) (maxL := nL k) (ret := RT k) (hy k) (hws k) ?_
          intro p e s m args below meth c s₁ X hml hv
          obtain ⟨rfl, hR, hEX⟩ := hv
          have hts := atoms_spec (ws := WS k) X.pre
          have hS := hok d k p e { frames := d + 1, cells := h2.1 - h.1, slots := h2.2.1 - h.2.1, locals := 60 * (d + 1) } s m (as.map (mm_e f)).toArray below meth c ⟨X.exec, X.bytes, hml, X.returns, X.notSynchronized, (name_of_methodNamed X.named X.method).1, findClass_of_methodNamed X.named, hts, hEX, hgo, hf⟩ rfl rfl
          obtain ⟨-, -, kk⟩ := mm_run_ok hS ih fuel 0 _ [] h h2 r hrun
          have k2 := kk (mm_Qc f D cl cA h2 r) 0 0 (Nat.le_of_eq (Nat.zero_add _)) (Nat.le_of_eq (Nat.zero_add _)) (fun t h1 h3 _ => ⟨rfl, h1, h3⟩) s.heap [] _ hR va_S.rf (mm_L.entry hlen)
          rw [lg_entry_eq]
          simp only [Nat.zero_add] at k2
          exact k2
      · cases hr
end MS8
