/-! WHAT THE SMALL MACHINE COMPUTES, THE MACHINE DOES: a row an act. f: which address a number is. -/
/-- a return address stands for the one reference of which nothing is known but that it is one, or null -/
def mm_e (f : Nat → Nat) (v : Value) : Value := match v with
  | .ref i => .ref (f i)
  | .retAddr _ => if f 1301 = 0 then .null else .ref (f 1300)
  | v => v
theorem mm_e_cat (f : Nat → Nat) (v : Value) : (mm_e f v).category = v.category := by
  cases v with
  | retAddr n =>
    show (if f 1301 = 0 then Value.null else Value.ref (f 1300)).category = _
    by_cases h : f 1301 = 0
    · rw [if_pos h]; rfl
    · rw [if_neg h]; rfl
  | _ => rfl
theorem mm_e_cats (f : Nat → Nat) (st : List Value) : ((st.map (mm_e f)).map fun v => v.category).sum = mm_cat st := by
  unfold mm_cat
  rw [List.map_map]
  congr 1
  exact List.map_congr_left (fun v _ => mm_e_cat f v)
def mm_at (f : Nat → Nat) (D : va_G) (cl : List vw_C) (cA : FieldType → ClassId) (a : Nat) (c : mm_C) (H : Heap) : Prop := match c with
  | .inl o => va_at D cl (a, .inr (o.1, o.2.map (mm_e f))) H
  | .inr o => H[a]? = some (arrV (cA o.1) o.2.length (fun j => mm_e f (o.2.getD j .null)))
theorem mm_at.kept {f : Nat → Nat} {D : va_G} {cl : List vw_C} {cA : FieldType → ClassId} {a : Nat} {c : mm_C} {H H1 : Heap} (h : mm_at f D cl cA a c H) (hq : H1[a]? = H[a]?) : mm_at f D cl cA a c H1 := by
  cases c with
  | inl o => exact va_at.kept (q := (a, .inr (o.1, o.2.map (mm_e f)))) h hq
  | inr o =>
    show H1[a]? = _
    rw [hq]
    exact h
/-- the heap H holds the cells of h, and nothing behind them -/
def mm_R (f : Nat → Nat) (D : va_G) (cl : List vw_C) (cA : FieldType → ClassId) (h : mm_H) (H : Heap) : Prop :=
  H.size = f 0 + h.1 ∧ h.1 ≤ 512 ∧ ∀ (i : Nat) (c : mm_C), i < h.1 → mm_get 9 h.2.2 i = some c → mm_at f D cl cA (f 0 + i) c H
def mm_L (f : Nat → Nat) (la : Array Slot) (nL : Nat) (ls : List (Option Value)) : Prop :=
  la.size = nL ∧ lv_wf la ∧ ∀ (i : Nat) (v : Value), ls[i]? = some (some v) → la[i]? = some (.val (mm_e f v))
theorem mm_hg_some {h : mm_H} {i : Nat} {c : mm_C} (g : mm_hg h i = some c) : i < h.1 ∧ mm_get 9 h.2.2 i = some c := by
  unfold mm_hg at g
  cases hb : Nat.blt i h.1 with
  | false => rw [hb] at g; cases g
  | true => rw [hb] at g; exact ⟨Nat.blt_eq.mp hb, g⟩
/-- a cell is written anew -/
theorem mm_R.put {f : Nat → Nat} {D : va_G} {cl : List vw_C} {cA : FieldType → ClassId} {h : mm_H} {H H1 : Heap} {i : Nat} {c : mm_C} (hR : mm_R f D cl cA h H) (hi : i < h.1) (hz : H1.size = H.size) (ho : ∀ q, q ≠ f 0 + i → H1[q]? = H[q]?) (hc : mm_at f D cl cA (f 0 + i) c H1) : mm_R f D cl cA (h.1, h.2.1, mm_set 9 h.2.2 i c) H1 := by
  obtain ⟨h1, h2, h3⟩ := hR
  refine ⟨by rw [hz]; exact h1, h2, fun j d hj hd => ?_⟩
  have hj : j < h.1 := hj
  have hd : mm_get 9 (mm_set 9 h.2.2 i c) j = some d := hd
  rw [mm_get_set 9 _ _ _ _ (by omega) (by omega)] at hd
  by_cases hji : j = i
  · rw [if_pos hji] at hd
    cases hd
    rw [hji]
    exact hc
  · rw [if_neg hji] at hd
    exact (h3 j d hj hd).kept (ho _ (by omega))
/-- a cell more -/
theorem mm_R.push {f : Nat → Nat} {D : va_G} {cl : List vw_C} {cA : FieldType → ClassId} {h : mm_H} {H H1 : Heap} {n : Nat} {c : mm_C} (hR : mm_R f D cl cA h H) (hn : h.1 < 512) (hz : H1.size = H.size + 1) (ho : ∀ q, q < H.size → H1[q]? = H[q]?) (hc : mm_at f D cl cA H.size c H1) : mm_R f D cl cA (h.1 + 1, n, mm_set 9 h.2.2 h.1 c) H1 := by
  obtain ⟨h1, h2, h3⟩ := hR
  refine ⟨by show H1.size = f 0 + (h.1 + 1); omega, by show h.1 + 1 ≤ 512; omega, fun j d hj hd => ?_⟩
  have hj : j < h.1 + 1 := hj
  have hd : mm_get 9 (mm_set 9 h.2.2 h.1 c) j = some d := hd
  rw [mm_get_set 9 _ _ _ _ (by omega) (by omega)] at hd
  by_cases hji : j = h.1
  · rw [if_pos hji] at hd
    cases hd
    rw [hji, ← h1]
    exact hc
  · rw [if_neg hji] at hd
    exact (h3 j d (by omega) hd).kept (ho _ (by omega))
def mm_ps (f : Nat → Nat) (ls : List (Option Value)) : List (Nat × Value) := (List.range ls.length).filterMap (fun j => match ls[j]? with
  | some (some w) => some (j, mm_e f w)
  | _ => none)
theorem mm_ps_mem {f : Nat → Nat} {ls : List (Option Value)} {q : Nat × Value} : q ∈ mm_ps f ls ↔ ∃ w, ls[q.1]? = some (some w) ∧ q.2 = mm_e f w := by
  unfold mm_ps
  rw [List.mem_filterMap]
  constructor
  · rintro ⟨j, -, hj⟩
    split at hj
    · next w hw => cases hj; exact ⟨w, hw, rfl⟩
    · cases hj
  · rintro ⟨w, h1, h2⟩
    refine ⟨q.1, List.mem_range.mpr (List.getElem?_eq_some_iff.mp h1).1, ?_⟩
    rw [h1]
    obtain ⟨a, b⟩ := q
    cases h2
    rfl
theorem mm_L.has {f : Nat → Nat} {la : Array Slot} {nL : Nat} {ls : List (Option Value)} (h : mm_L f la nL ls) : lv_has la nL (mm_ps f ls) := by
  refine ⟨h.1, h.2.1, fun q hq => ?_⟩
  obtain ⟨w, h1, h2⟩ := mm_ps_mem.mp hq
  rw [h2]
  exact h.2.2 q.1 w h1
theorem mm_kl_get {ls : List (Option Value)} {i j : Nat} {w : Value} (h : (mm_kl ls i)[j]? = some (some w)) : ls[j]? = some (some w) ∧ ¬ (j + 1 = i ∧ w.category = 2) := by
  cases i with
  | zero => exact ⟨h, fun q => by omega⟩
  | succ i =>
    have key : ∀ x, ls[i]? = some (some x) → x.category = 2 → (ls.set i none)[j]? = some (some w) → ls[j]? = some (some w) ∧ ¬ (j + 1 = i + 1 ∧ w.category = 2) := by
      intro x hx hx2 hj
      by_cases hji : j = i
      · subst hji
        rw [List.getElem?_set_self (List.getElem?_eq_some_iff.mp hx).1] at hj
        cases hj
      · rw [List.getElem?_set_ne (Ne.symm hji)] at hj
        exact ⟨hj, fun q => hji (by omega)⟩
    simp only [mm_kl] at h
    split at h
    · next x hx => exact key _ hx rfl h
    · next x hx => exact key _ hx rfl h
    · next h1 h2 =>
      refine ⟨h, fun q => ?_⟩
      have hji : j = i := by omega
      subst hji
      cases w with
      | long x => exact h1 x h
      | double x => exact h2 x h
      | _ => exact absurd q.2 (by simp [Value.category])
theorem mm_L.st1 {f : Nat → Nat} {la : Array Slot} {nL i : Nat} {ls : List (Option Value)} {v : Value} (h : lv_has la nL ((i, mm_e f v) :: (mm_ps f ls).filter (fun q => !(q.1 == i) && !(q.1 + 1 == i && q.2.category == 2)))) : mm_L f la nL ((mm_kl ls i).set i (some v)) := by
  refine ⟨h.1, h.2.1, fun j w hj => ?_⟩
  by_cases hji : j = i
  · subst hji
    have hl : j < (mm_kl ls j).length := by
      have := (List.getElem?_eq_some_iff.mp hj).1
      rwa [List.length_set] at this
    rw [List.getElem?_set_self hl] at hj
    cases hj
    exact h.2.2 (j, mm_e f v) List.mem_cons_self
  · rw [List.getElem?_set_ne (Ne.symm hji)] at hj
    obtain ⟨h1, h2⟩ := mm_kl_get hj
    refine h.2.2 (j, mm_e f w) (List.mem_cons_of_mem _ (List.mem_filter.mpr ⟨mm_ps_mem.mpr ⟨w, h1, rfl⟩, ?_⟩))
    have a1 : (j == i) = false := by simpa using hji
    rw [a1]
    cases hb : (j + 1 == i) with
    | false => simp [hb]
    | true =>
      have e1 : j + 1 = i := by simpa using hb
      have : ¬ (mm_e f w).category = 2 := by rw [mm_e_cat]; exact fun q => h2 ⟨e1, q⟩
      simp [this]
theorem mm_L.st2 {f : Nat → Nat} {la : Array Slot} {nL i : Nat} {ls : List (Option Value)} {v : Value} (h : lv_has la nL ((i, mm_e f v) :: (mm_ps f ls).filter (fun q => !(q.1 == i) && (!(q.1 == i + 1) && !(q.1 + 1 == i && q.2.category == 2))))) : mm_L f la nL (((mm_kl ls i).set i (some v)).set (i + 1) none) := by
  refine ⟨h.1, h.2.1, fun j w hj => ?_⟩
  have hj1 : j ≠ i + 1 := by
    intro q
    subst q
    have hl := (List.getElem?_eq_some_iff.mp hj).1
    rw [List.length_set] at hl
    rw [List.getElem?_set_self hl] at hj
    cases hj
  rw [List.getElem?_set_ne (Ne.symm hj1)] at hj
  by_cases hji : j = i
  · subst hji
    have hl : j < (mm_kl ls j).length := by
      have := (List.getElem?_eq_some_iff.mp hj).1
      rwa [List.length_set] at this
    rw [List.getElem?_set_self hl] at hj
    cases hj
    exact h.2.2 (j, mm_e f v) List.mem_cons_self
  · rw [List.getElem?_set_ne (Ne.symm hji)] at hj
    obtain ⟨h1, h2⟩ := mm_kl_get hj
    refine h.2.2 (j, mm_e f w) (List.mem_cons_of_mem _ (List.mem_filter.mpr ⟨mm_ps_mem.mpr ⟨w, h1, rfl⟩, ?_⟩))
    have a1 : (j == i) = false := by simpa using hji
    have a2 : (j == i + 1) = false := by simpa using hj1
    rw [a1, a2]
    cases hb : (j + 1 == i) with
    | false => simp [hb]
    | true =>
      have e1 : j + 1 = i := by simpa using hb
      have : ¬ (mm_e f w).category = 2 := by rw [mm_e_cat]; exact fun q => h2 ⟨e1, q⟩
      simp [this]
section MS
variable {p : Program} {l : Launch} {e : Env} {R : Room} {s : State} {m : MethodId} {args : Array Value} {below : List Frame} {meth : Method} {c : Code} {cc : ByteArray} {pc : Nat} {f : Nat → Nat} {D : va_G} {cl : List vw_C} {cA : FieldType → ClassId} {nL : Nat} {FP : mm_F → Prop}
/-- an act's outcome o at pc is what the machine does -/
def mm_G (p : Program) (l : Launch) (e : Env) (R : Room) (s : State) (m : MethodId) (args : Array Value) (below : List Frame) (meth : Method) (c : Code) (f : Nat → Nat) (D : va_G) (cl : List vw_C) (cA : FieldType → ClassId) (nL pc : Nat) (ls : List (Option Value)) (st : List Value) (h : mm_H) (o : mm_O) : Prop := match o with
  | .inl o => h.1 ≤ o.2.2.2.1 ∧ h.2.1 ≤ o.2.2.2.2.1 ∧ ∀ (Q : State → Prop) (cells slots : Nat), cells + (o.2.2.2.1 - h.1) ≤ R.cells → slots + (o.2.2.2.2.1 - h.2.1) ≤ R.slots → ∀ (H : Heap) (locs : List Loc) (la : Array Slot), mm_R f D cl cA h H → va_S (fun q => f 0 ≤ q) s.heap H locs → mm_L f la nL ls →
      (∀ (H2 : Heap) (locs2 : List Loc) (la2 : Array Slot), mm_R f D cl cA o.2.2.2 H2 → va_S (fun q => f 0 ≤ q) s.heap H2 locs2 → mm_L f la2 nL o.2.1 → W p l e R s m args below meth c H2 locs2 (cells + (o.2.2.2.1 - h.1)) (slots + (o.2.2.2.2.1 - h.2.1)) Q (F0 m o.1 la2 (o.2.2.1.map (mm_e f)))) → W p l e R s m args below meth c H locs cells slots Q (F0 m pc la (st.map (mm_e f)))
  | .inr o => o.1 = h ∧ ∀ (Qc : Array Value → State → Outcome → State → Prop) (free : Addr → Prop) (H : Heap) (locs : List Loc) (la : Array Slot) (cells slots : Nat), (∀ t : State, t.heap = H → s.WarmedH t.vm → Qc args s (.returned (o.2.map (mm_e f))) t) → (∀ q ∈ locs, free q.base) → W p l e R s m args below meth c H locs cells slots (MQ below Qc args s cells slots free) (F0 m pc la (st.map (mm_e f)))
def mm_S (p : Program) (l : Launch) (e : Env) (R : Room) (s : State) (m : MethodId) (args : Array Value) (below : List Frame) (meth : Method) (c : Code) (f : Nat → Nat) (D : va_G) (cl : List vw_C) (cA : FieldType → ClassId) (nL : Nat) (FP : mm_F → Prop) (pc : Nat) (a : mm_A) : Prop :=
  ∀ F, FP F → ∀ ls st h o, a F ls st h = some o → mm_G p l e R s m args below meth c f D cl cA nL pc ls st h o
theorem mm_G.same {ls ls2 : List (Option Value)} {st st2 : List Value} {h : mm_H} {pc2 : Nat} (k : ∀ (Q : State → Prop) (cells slots : Nat) (H : Heap) (locs : List Loc) (la : Array Slot), cells ≤ R.cells → slots ≤ R.slots → mm_R f D cl cA h H → va_S (fun q => f 0 ≤ q) s.heap H locs → mm_L f la nL ls → (∀ la2 : Array Slot, mm_L f la2 nL ls2 → W p l e R s m args below meth c H locs cells slots Q (F0 m pc2 la2 (st2.map (mm_e f)))) → W p l e R s m args below meth c H locs cells slots Q (F0 m pc la (st.map (mm_e f)))) : mm_G p l e R s m args below meth c f D cl cA nL pc ls st h (.inl (pc2, ls2, st2, h)) := by
  refine ⟨Nat.le_refl _, Nat.le_refl _, fun Q cells slots h1 h2 H locs la hR hS hL kk => ?_⟩
  simp only [Nat.sub_self, Nat.add_zero] at h1 h2 kk
  exact k Q cells slots H locs la h1 h2 hR hS hL (fun la2 hL2 => kk H locs la2 hR hS hL2)
theorem mm_G.st {ls : List (Option Value)} {st st2 : List Value} {h : mm_H} {pc2 : Nat} (k : ∀ (Q : State → Prop) (cells slots : Nat) (H : Heap) (locs : List Loc) (la : Array Slot), cells ≤ R.cells → slots ≤ R.slots → mm_R f D cl cA h H → va_S (fun q => f 0 ≤ q) s.heap H locs → mm_L f la nL ls → W p l e R s m args below meth c H locs cells slots Q (F0 m pc2 la (st2.map (mm_e f))) → W p l e R s m args below meth c H locs cells slots Q (F0 m pc la (st.map (mm_e f)))) : mm_G p l e R s m args below meth c f D cl cA nL pc ls st h (.inl (pc2, ls, st2, h)) :=
  mm_G.same (fun Q cells slots H locs la h1 h2 hR hS hL kk => k Q cells slots H locs la h1 h2 hR hS hL (kk la hL))
theorem mm_G.put {ls : List (Option Value)} {st st2 : List Value} {h : mm_H} {t2 : mm_T 9} {pc2 : Nat} (k : ∀ (Q : State → Prop) (cells slots : Nat) (H : Heap) (locs : List Loc) (la : Array Slot), cells ≤ R.cells → slots ≤ R.slots → mm_R f D cl cA h H → va_S (fun q => f 0 ≤ q) s.heap H locs → mm_L f la nL ls → (∀ (H2 : Heap) (locs2 : List Loc), mm_R f D cl cA (h.1, h.2.1, t2) H2 → va_S (fun q => f 0 ≤ q) s.heap H2 locs2 → W p l e R s m args below meth c H2 locs2 cells slots Q (F0 m pc2 la (st2.map (mm_e f)))) → W p l e R s m args below meth c H locs cells slots Q (F0 m pc la (st.map (mm_e f)))) : mm_G p l e R s m args below meth c f D cl cA nL pc ls st h (.inl (pc2, ls, st2, (h.1, h.2.1, t2))) := by
  refine ⟨Nat.le_refl _, Nat.le_refl _, fun Q cells slots h1 h2 H locs la hR hS hL kk => ?_⟩
  simp only [Nat.sub_self, Nat.add_zero] at h1 h2 kk
  exact k Q cells slots H locs la h1 h2 hR hS hL (fun H2 locs2 hR2 hS2 => kk H2 locs2 la hR2 hS2 hL)
theorem ms_none : mm_S p l e R s m args below meth c f D cl cA nL FP pc a_none := fun _ _ _ _ _ _ h => by cases h
theorem ms_b {a b : mm_A} {t : Bool} (ha : mm_S p l e R s m args below meth c f D cl cA nL FP pc a) (hb : mm_S p l e R s m args below meth c f D cl cA nL FP pc b) : mm_S p l e R s m args below meth c f D cl cA nL FP pc (bif t then a else b) := by
  cases t
  · exact hb
  · exact ha
theorem ms_lf {n : Nat} {a : mm_A} (ha : mm_S p l e R s m args below meth c f D cl cA nL FP n a) : mm_S p l e R s m args below meth c f D cl cA nL FP pc (bif Nat.beq pc n then a else a_none) := by
  cases hb : Nat.beq pc n with
  | false => exact ms_none
  | true =>
    have e1 : pc = n := Nat.eq_of_beq_eq_true hb
    subst e1
    exact ha
/-- an int more on the stack -/
theorem ms_int {v : Int32} {nx : Nat} (row : ∀ (Q : State → Prop) (cells slots : Nat) (H : Heap) (locs : List Loc) (la : Array Slot) (rest : List Value), W p l e R s m args below meth c H locs cells slots Q (F0 m nx la (.int v :: rest)) → W p l e R s m args below meth c H locs cells slots Q (F0 m pc la rest)) : mm_S p l e R s m args below meth c f D cl cA nL FP pc (a_int v nx) := by
  intro F _ ls st h o ho
  cases ho
  exact mm_G.st (fun Q cells slots H locs la _ _ _ _ _ kk => row Q cells slots H locs la _ kk)
theorem ms_long {v : Int64} {nx : Nat} (row : ∀ (Q : State → Prop) (cells slots : Nat) (H : Heap) (locs : List Loc) (la : Array Slot) (rest : List Value), W p l e R s m args below meth c H locs cells slots Q (F0 m nx la (.long v :: rest)) → W p l e R s m args below meth c H locs cells slots Q (F0 m pc la rest)) : mm_S p l e R s m args below meth c f D cl cA nL FP pc (a_long v nx) := by
  intro F _ ls st h o ho
  cases ho
  exact mm_G.st (fun Q cells slots H locs la _ _ _ _ _ kk => row Q cells slots H locs la _ kk)
theorem ms_iconst (hx : p.tables.exec = Jvm.exec) (hb : c.code = cc) {n : Int} {v : Int32} (hv : Int32.ofInt n = v) (hdg : decode cc pc = .ok (.iconst n, 1)) : mm_S p l e R s m args below meth c f D cl cA nL FP pc (a_int v (pc + 1)) := ms_int (fun _ _ _ _ _ _ _ k => lv_iconst hx hb hdg hv k)
theorem ms_bipush (hx : p.tables.exec = Jvm.exec) (hb : c.code = cc) {n : Int} {v : Int32} (hv : (Int8.ofInt n).toInt32 = v) (hdg : decode cc pc = .ok (.bipush n, 2)) : mm_S p l e R s m args below meth c f D cl cA nL FP pc (a_int v (pc + 2)) := ms_int (fun _ _ _ _ _ _ _ k => lv_bipush hx hb hdg hv k)
theorem ms_sipush (hx : p.tables.exec = Jvm.exec) (hb : c.code = cc) {n : Int} {v : Int32} (hv : (Int16.ofInt n).toInt32 = v) (hdg : decode cc pc = .ok (.sipush n, 3)) : mm_S p l e R s m args below meth c f D cl cA nL FP pc (a_int v (pc + 3)) := ms_int (fun _ _ _ _ _ _ _ k => lv_sipush hx hb hdg hv k)
theorem ms_ldc (hx : p.tables.exec = Jvm.exec) (hb : c.code = cc) {own : String} {index : Nat} {v : Int32} (hown : s.vm.findClass own = some m.cls) (hc : (Jvm.Cond.constant own index v).before args s = true) (hdg : decode cc pc = .ok (.ldc index, 2)) : mm_S p l e R s m args below meth c f D cl cA nL FP pc (a_int v (pc + 2)) := ms_int (fun _ _ _ _ _ _ _ k => lv_ldc hx hb hown hc hdg k)
theorem ms_lconst (hx : p.tables.exec = Jvm.exec) (hb : c.code = cc) {n : Fin 2} {v : Int64} (hv : Int64.ofNat (n : Nat) = v) (hdg : decode cc pc = .ok (.lconst n, 1)) : mm_S p l e R s m args below meth c f D cl cA nL FP pc (a_long v (pc + 1)) := ms_long (fun _ _ _ _ _ _ _ k => lv_lconst hx hb hdg hv k)
theorem ms_ldc2 (hx : p.tables.exec = Jvm.exec) (hb : c.code = cc) {own : String} {index : Nat} {v : Int64} (hown : s.vm.findClass own = some m.cls) (hc : (Jvm.Cond.constantLong own index v).before args s = true) (hdg : decode cc pc = .ok (.ldc2_w index, 3)) : mm_S p l e R s m args below meth c f D cl cA nL FP pc (a_long v (pc + 3)) := ms_long (fun _ _ _ _ _ _ _ k => lv_ldc2 hx hb hown hc hdg k)
end MS
