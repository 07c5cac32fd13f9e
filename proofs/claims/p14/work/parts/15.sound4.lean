theorem mm_arr_congr (cI : ClassId) {N : Nat} {f g : Nat → Value} (h : ∀ j, j < N → f j = g j) : arrV cI N f = arrV cI N g := by
  unfold arrV
  congr 1
  apply Array.ext
  · simp
  · intro i h1 h2
    simp only [Array.getElem_ofFn]
    exact h i (by simpa using h1)
theorem mm_getD {xs : List Value} {j : Nat} {v : Value} (h : xs[j]? = some v) : xs.getD j .null = v := by
  rw [List.getD_eq_getElem?_getD, h]; rfl
theorem mm_in_ok {x : Int32} {n : Nat} (h : mm_in x n = true) : ¬ x < 0 ∧ x.toNatClampNeg < n := by
  unfold mm_in at h
  rw [Bool.and_eq_true] at h
  exact ⟨by simpa using h.1, Nat.blt_eq.mp h.2⟩
def mm_Ar (cA : FieldType → ClassId) (s : State) : Prop := ∀ ty, mm_ty ty = true → ArrOfT s (cA ty) ty ∧ va_RA s (cA ty) ty
/-- arrays outside, as they stand at the method's entry -/
def mm_Xt (f : Nat → Nat) (X : mm_X) (s : State) : Prop := ∀ (j : Nat) (xs : List Int32), X j = some xs → va_T .int (f (1000 + j)) xs.length (fun q => .int (xs.getD q 0)) (fun q => f 0 ≤ q) s s.heap
section MS4
variable {p : Program} {l : Launch} {e : Env} {R : Room} {s : State} {m : MethodId} {args : Array Value} {below : List Frame} {meth : Method} {c : Code} {cc : ByteArray} {pc : Nat} {f : Nat → Nat} {D : va_G} {cl : List vw_C} {cA : FieldType → ClassId} {nL : Nat} {FP : mm_F → Prop}
theorem mm_a_put {ci k : Nat} {ty : FieldType} {nx : Nat} {F : mm_F} {ls : List (Option Value)} {st : List Value} {h : mm_H} {o : mm_O} (ho : a_put ci k ty nx F ls st h = some o) : ∃ v i r fs, st = v :: .ref i :: r ∧ mm_hg h i = some (.inl (ci, fs)) ∧ mm_fit ty v = true ∧ k < fs.length ∧ o = .inl (nx, ls, r, (h.1, h.2.1, mm_set 9 h.2.2 i (.inl (ci, fs.set k v)))) := by
  unfold a_put at ho
  split at ho
  · next v i r =>
    split at ho
    · next c2 fs g =>
      cases hq : (Nat.beq c2 ci && mm_fit ty v && Nat.blt k fs.length) with
      | false => rw [hq] at ho; cases ho
      | true =>
        rw [hq] at ho
        simp only [cond_true, mm_lK_eq, mm_hs, mm_setK_eq] at ho
        cases ho
        rw [Bool.and_eq_true, Bool.and_eq_true] at hq
        have e1 := mm_beq hq.1.1
        subst e1
        exact ⟨v, i, r, fs, rfl, g, hq.1.2, Nat.blt_eq.mp hq.2, rfl⟩
    · cases ho
  · cases ho
/-- a field is written: what the cell is behind it -/
theorem mm_R.putf {C : String} {T : u_T} {N ci k i : Nat} {h : mm_H} {H H1 : Heap} {fs : List Value} {v : Value} {cell : Cell} (hf : ∀ i, i < 512 → f i = f 0 + i) (hR : mm_R f D cl cA h H) (g : mm_hg h i = some (.inl (ci, fs))) (hc : cl[ci]? = some (C, T, N)) (hk : k < N) (hl : k < fs.length) (hap : ∀ x y, x < N → y < N → x ≠ y → (D.2 ci) x ≠ (D.2 ci) y) (q2 : cell.cls = D.1 ci) (q3 : cell.vm = .none) (q4 : ∀ j, j < N → cell.slots[D.2 ci j]? = some (vp_V (fs.map (mm_e f)) j)) (e1 : H1[f i]? = some (cell.setSlot (D.2 ci k) (mm_e f v))) (e2 : H1.size = H.size) (e3 : ∀ q, q ≠ f i → H1[q]? = H[q]?) : mm_R f D cl cA (h.1, h.2.1, mm_set 9 h.2.2 i (.inl (ci, fs.set k v))) H1 := by
  have hi := (mm_hg_some g).1
  have ei : f i = f 0 + i := hf i (by have := hR.2.1; omega)
  rw [ei] at e1 e3
  refine hR.put hi e2 e3 ?_
  refine ⟨(C, T, N), hc, t_OB.to (V := updV (vp_V (fs.map (mm_e f))) k (mm_e f v)) ⟨_, e1, q2, q3, t_set q4 hap hk (mm_e f v)⟩ (fun j _ => ?_)⟩
  show _ = vp_V ((fs.set k v).map (mm_e f)) j
  rw [List.map_set]
  exact vp_updV_set (by rw [List.length_map]; exact hl) _ j
theorem ms_put {own ref C : String} {T : u_T} {N ci index k : Nat} {ty : FieldType} {Ts : List Cond} {tys : List (ClassId × FieldType)} (hx : p.tables.exec = Jvm.exec) (hb : c.code = cc) (hf : ∀ i, i < 512 → f i = f 0 + i) (hts : ∀ w ∈ Ts, w.before args s = true) (hin : ∀ w ∈ u_ws C T N, w ∈ Ts) (ty0 : Nat → FieldType) (hty : ∀ k, k < N → parseFieldDescriptor (T k).2.2.1 = some (ty0 k)) (hnm : ∀ a, a < N → ∀ b, b < N → a ≠ b → (T a).2.1 ≠ (T b).2.1) (hown : s.vm.findClass own = some m.cls) (hK : va_K D cl tys s) (hc : cl[ci]? = some (C, T, N)) (hk : k < N) (hlink : (Cond.fieldLink own index ref (T k).2.1 (T k).2.2.1).before args s = true) (hr : ref = (T k).1) (hfin : (T k).2.2.2 = false) (hd : ty0 k = ty) (hdg : decode cc pc = .ok (.putfield index, 3)) : mm_S p l e R s m args below meth c f D cl cA nL FP pc (a_put ci k ty (pc + 3)) := by
  intro F _ ls st h o ho
  obtain ⟨v, i, r, fs, rfl, g, hft, hl, rfl⟩ := mm_a_put ho
  subst hr
  refine mm_G.put (fun Q cells slots H locs la _ _ hR hS _ kk => ?_)
  have hap := va_apart (own := own) hts hin ty0 hty hnm hK hc
  obtain ⟨r0, h1, cell, q1, q2, q3, q4⟩ := hR.obj hf g 0 _ rfl
  have hr0 : r0 = (C, T, N) := Option.some.inj (h1.symm.trans hc)
  subst hr0
  obtain ⟨hSl, hfc, kC, hkC, hkind⟩ := hK.1 ci _ hc
  obtain ⟨cf, kf, fi, fd, hi, hsl⟩ := hSl k hk
  have hlay := hts _ (hin _ (u_in_lay hk))
  unfold u_lay at hlay
  rw [if_neg (by rw [hfin]; decide)] at hlay
  have hst := (u_facts hfc hkC (u_lays hts hin hk) hi).1
  have h6 := u_store hfc hkC hkind hlay hi (by rw [hty k hk, hd]) (mm_fit_ok (f := f) hft).1 (mm_fit_ok (f := f) hft).2
  refine W.putK hx hb (f := fd) ⟨hown, hlink, ⟨_, _, _, hi⟩, hst⟩ (by rw [q2]; exact h6) q1 q3 (by rw [hsl]; exact k2_hasslot (q4 k hk)) rfl rfl hdg fun H1 e1 e2 e3 => ?_
  rw [hsl] at e1 ⊢
  exact kk H1 _ (hR.putf hf g hc hk hl hap q2 q3 q4 e1 e2 e3) (hS.put e2 e3 (by show f 0 ≤ f i; have h9 := (mm_hg_some g).1; rw [hf i (by have := hR.2.1; omega)]; omega))
theorem ms_putN {own ref C host : String} {T : u_T} {N ci index k : Nat} {ty : FieldType} {Ts : List Cond} {tys : List (ClassId × FieldType)} (hx : p.tables.exec = Jvm.exec) (hb : c.code = cc) (hf : ∀ i, i < 512 → f i = f 0 + i) (hts : ∀ w ∈ Ts, w.before args s = true) (hin : ∀ w ∈ u_ws C T N, w ∈ Ts) (ty0 : Nat → FieldType) (hty : ∀ k, k < N → parseFieldDescriptor (T k).2.2.1 = some (ty0 k)) (hnm : ∀ a, a < N → ∀ b, b < N → a ≠ b → (T a).2.1 ≠ (T b).2.1) (hown : s.vm.findClass own = some m.cls) (hK : va_K D cl tys s) (hc : cl[ci]? = some (C, T, N)) (hk : k < N) (hlink : (Cond.fieldLinkNest own index ref (T k).2.1 (T k).2.2.1 host).before args s = true) (hr : ref = (T k).1) (hfin : (T k).2.2.2 = false) (hd : ty0 k = ty) (hdg : decode cc pc = .ok (.putfield index, 3)) : mm_S p l e R s m args below meth c f D cl cA nL FP pc (a_put ci k ty (pc + 3)) := by
  intro F _ ls st h o ho
  obtain ⟨v, i, r, fs, rfl, g, hft, hl, rfl⟩ := mm_a_put ho
  subst hr
  refine mm_G.put (fun Q cells slots H locs la _ _ hR hS _ kk => ?_)
  have hap := va_apart (own := own) hts hin ty0 hty hnm hK hc
  obtain ⟨r0, h1, cell, q1, q2, q3, q4⟩ := hR.obj hf g 0 _ rfl
  have hr0 : r0 = (C, T, N) := Option.some.inj (h1.symm.trans hc)
  subst hr0
  obtain ⟨hSl, hfc, kC, hkC, hkind⟩ := hK.1 ci _ hc
  obtain ⟨cf, kf, fi, fd, hi, hsl⟩ := hSl k hk
  have hlay := hts _ (hin _ (u_in_lay hk))
  unfold u_lay at hlay
  rw [if_neg (by rw [hfin]; decide)] at hlay
  have hst := (u_facts hfc hkC (u_lays hts hin hk) hi).1
  have h6 := u_store hfc hkC hkind hlay hi (by rw [hty k hk, hd]) (mm_fit_ok (f := f) hft).1 (mm_fit_ok (f := f) hft).2
  refine va_WputK hx hb (f := fd) hown hlink hi hst (by rw [q2]; exact h6) q1 q3 (by rw [hsl]; exact k2_hasslot (q4 k hk)) rfl rfl hdg fun H1 e1 e2 e3 => ?_
  rw [hsl] at e1 ⊢
  exact kk H1 _ (hR.putf hf g hc hk hl hap q2 q3 q4 e1 e2 e3) (hS.put e2 e3 (by show f 0 ≤ f i; have h9 := (mm_hg_some g).1; rw [hf i (by have := hR.2.1; omega)]; omega))
theorem ms_putF {own ref C : String} {T : u_T} {N ci index k : Nat} {ty : FieldType} {Ts : List Cond} {tys : List (ClassId × FieldType)} (hx : p.tables.exec = Jvm.exec) (hb : c.code = cc) (hf : ∀ i, i < 512 → f i = f 0 + i) (hts : ∀ w ∈ Ts, w.before args s = true) (hin : ∀ w ∈ u_ws C T N, w ∈ Ts) (ty0 : Nat → FieldType) (hty : ∀ k, k < N → parseFieldDescriptor (T k).2.2.1 = some (ty0 k)) (hnm : ∀ a, a < N → ∀ b, b < N → a ≠ b → (T a).2.1 ≠ (T b).2.1) (hown : s.vm.findClass own = some m.cls) (hK : va_K D cl tys s) (hc : cl[ci]? = some (C, T, N)) (hk : k < N) (hlink : (Cond.fieldLink own index ref (T k).2.1 (T k).2.2.1).before args s = true) (hr : ref = (T k).1) (hfin : (T k).2.2.2 = true) (hin2 : meth.name = "<init>") (hdecl : (T k).1 = own) (hd : ty0 k = ty) (hdg : decode cc pc = .ok (.putfield index, 3)) : mm_S p l e R s m args below meth c f D cl cA nL FP pc (a_put ci k ty (pc + 3)) := by
  intro F _ ls st h o ho
  obtain ⟨v, i, r, fs, rfl, g, hft, hl, rfl⟩ := mm_a_put ho
  subst hr
  refine mm_G.put (fun Q cells slots H locs la _ _ hR hS _ kk => ?_)
  have hap := va_apart (own := own) hts hin ty0 hty hnm hK hc
  obtain ⟨r0, h1, cell, q1, q2, q3, q4⟩ := hR.obj hf g 0 _ rfl
  have hr0 : r0 = (C, T, N) := Option.some.inj (h1.symm.trans hc)
  subst hr0
  obtain ⟨hSl, hfc, kC, hkC, hkind⟩ := hK.1 ci _ hc
  obtain ⟨cf, kf, fi, fd, hi, hsl⟩ := hSl k hk
  have hlay := hts _ (hin _ (u_in_lay hk))
  unfold u_lay at hlay
  rw [if_pos hfin] at hlay
  have hst := (u_facts hfc hkC (u_lays hts hin hk) hi).1
  have hcf : m.cls = cf := by
    obtain ⟨_, _, c', _, _, _, -, -, hf', -, -, -, hown2, -⟩ := Cond.laysFinal_spec hlay
    have e1 : c' = cf := by have := hi.symm.trans hf'; simp at this; exact this.1.symm
    rw [hdecl] at hown2
    rw [← e1]; exact Option.some.inj (hown.symm.trans hown2)
  have h6 := u_fits hfc hkC hkind (Or.inr hlay) hi (by rw [hty k hk, hd]) (mm_fit_ok (f := f) hft).1 (mm_fit_ok (f := f) hft).2
  refine W.putFinK hx hb hown hlink hi hst hcf hin2 (by rw [q2]; exact h6) q1 q3 (by rw [hsl]; exact k2_hasslot (q4 k hk)) rfl rfl hdg fun H1 e1 e2 e3 => ?_
  rw [hsl] at e1 ⊢
  exact kk H1 _ (hR.putf hf g hc hk hl hap q2 q3 q4 e1 e2 e3) (hS.put e2 e3 (by show f 0 ≤ f i; have h9 := (mm_hg_some g).1; rw [hf i (by have := hR.2.1; omega)]; omega))
/-- arrays: read -/
theorem ms_iald {X : mm_X} (hx : p.tables.exec = Jvm.exec) (hb : c.code = cc) (hf : ∀ i, i < 512 → f i = f 0 + i) (hA : mm_Ar cA s) (hX : mm_Xt f X s) (hdg : decode cc pc = .ok (.iaload, 1)) : mm_S p l e R s m args below meth c f D cl cA nL FP pc (a_iald X (pc + 1)) := by
  intro F _ ls st h o ho
  unfold a_iald at ho
  split at ho
  · next j i r =>
    by_cases hj : j < 0
    · simp [hj] at ho
    · simp only [hj, decide_false, cond_false] at ho
      cases hi : Nat.blt i 1000 with
      | true =>
        rw [hi] at ho
        simp only [cond_true] at ho
        split at ho
        · next xs g =>
          split at ho
          · next v hv =>
            cases ho
            have hlt : j.toNatClampNeg < xs.length := (List.getElem?_eq_some_iff.mp hv).1
            exact mm_G.st (fun Q cells slots H locs la _ _ hR _ _ kk => W.iald (v := .int v) hx hb (hR.arr hf g) ((hA .int rfl).1 _ _) (fun q => by cases q) (by rw [arrV_size]; exact fun q => q.elim hj (fun q => by omega)) (by rw [arrV_read _ _ hlt, mm_getD hv]; rfl) rfl rfl hdg kk)
          · cases ho
        · cases ho
      | false =>
        rw [hi] at ho
        simp only [cond_false] at ho
        split at ho
        · next xs hxs =>
          split at ho
          · next v hv =>
            cases ho
            have hlt : j.toNatClampNeg < xs.length := (List.getElem?_eq_some_iff.mp hv).1
            have h1 : (1000 : Nat) ≤ i := Nat.le_of_not_lt (fun q => by rw [Nat.blt_eq.mpr q] at hi; cases hi)
            have e1 : f i = f (1000 + (i - 1000)) := by rw [Nat.add_sub_cancel' h1]
            refine mm_G.st (fun Q cells slots H locs la _ _ _ hS _ kk => ?_)
            show W p l e R s m args below meth c H locs cells slots Q (F0 m pc la (.int j :: .ref (f i) :: _))
            rw [e1]
            exact va_ti (v := .int v) hx hb (hX _ _ hxs) hS (fun q => q.elim hj (fun q => by omega)) (by rw [List.getD_eq_getElem?_getD, hv]; rfl) hdg kk
          · cases ho
        · cases ho
  · cases ho
theorem ms_bald (hx : p.tables.exec = Jvm.exec) (hb : c.code = cc) (hf : ∀ i, i < 512 → f i = f 0 + i) (hA : mm_Ar cA s) (hdg : decode cc pc = .ok (.baload, 1)) : mm_S p l e R s m args below meth c f D cl cA nL FP pc (a_bald (pc + 1)) := by
  intro F _ ls st h o ho
  unfold a_bald at ho
  split at ho
  · next j i r =>
    by_cases hj : j < 0
    · simp [hj] at ho
    · simp only [hj, decide_false, cond_false] at ho
      split at ho
      · next xs g =>
        split at ho
        · next v hv =>
          cases ho
          have hlt : j.toNatClampNeg < xs.length := (List.getElem?_eq_some_iff.mp hv).1
          exact mm_G.st (fun Q cells slots H locs la _ _ hR _ _ kk => W.bald (v := .int v) hx hb (hR.arr hf g) ((hA .byte rfl).1 _ _) (fun q => by cases q) (by rw [arrV_size]; exact fun q => q.elim hj (fun q => by omega)) (by rw [arrV_read _ _ hlt, mm_getD hv]; rfl) rfl rfl hdg kk)
        · cases ho
      · next xs g =>
        split at ho
        · next v hv =>
          cases ho
          have hlt : j.toNatClampNeg < xs.length := (List.getElem?_eq_some_iff.mp hv).1
          exact mm_G.st (fun Q cells slots H locs la _ _ hR _ _ kk => W.zald (v := .int v) hx hb (hR.arr hf g) ((hA .boolean rfl).1 _ _) (fun q => by cases q) (by rw [arrV_size]; exact fun q => q.elim hj (fun q => by omega)) (by rw [arrV_read _ _ hlt, mm_getD hv]; rfl) rfl rfl hdg kk)
        · cases ho
      · cases ho
  · cases ho
theorem ms_lald (hx : p.tables.exec = Jvm.exec) (hb : c.code = cc) (hf : ∀ i, i < 512 → f i = f 0 + i) (hA : mm_Ar cA s) (hdg : decode cc pc = .ok (.laload, 1)) : mm_S p l e R s m args below meth c f D cl cA nL FP pc (a_lald (pc + 1)) := by
  intro F _ ls st h o ho
  unfold a_lald at ho
  split at ho
  · next j i r =>
    by_cases hj : j < 0
    · simp [hj] at ho
    · simp only [hj, decide_false, cond_false] at ho
      split at ho
      · next xs g =>
        split at ho
        · next v hv =>
          cases ho
          have hlt : j.toNatClampNeg < xs.length := (List.getElem?_eq_some_iff.mp hv).1
          exact mm_G.st (fun Q cells slots H locs la _ _ hR _ _ kk => W.lald (v := .long v) hx hb (hR.arr hf g) ((hA .long rfl).1 _ _) (fun q => by cases q) (by rw [arrV_size]; exact fun q => q.elim hj (fun q => by omega)) (by rw [arrV_read _ _ hlt, mm_getD hv]; rfl) rfl rfl hdg kk)
        · cases ho
      · cases ho
  · cases ho
theorem mm_at_set {a : Nat} {ty : FieldType} {xs : List Value} {j : Nat} {v : Value} {H1 : Heap} (hj : j < xs.length) (e1 : H1[a]? = some ((arrV (cA ty) xs.length (fun q => mm_e f (xs.getD q .null))).setSlot j (mm_e f v))) : mm_at f D cl cA a (.inr (ty, xs.set j v)) H1 := by
  show H1[a]? = some (arrV (cA ty) (xs.set j v).length (fun q => mm_e f ((xs.set j v).getD q .null)))
  rw [e1, arrV_store, List.length_set]
  congr 2
  funext q
  by_cases hq : q = j
  · subst hq
    simp [updV, List.getD_eq_getElem?_getD, List.getElem?_set_self hj]
  · simp [updV, hq, List.getD_eq_getElem?_getD, List.getElem?_set_ne (Ne.symm hq)]
theorem ms_iast (hx : p.tables.exec = Jvm.exec) (hb : c.code = cc) (hf : ∀ i, i < 512 → f i = f 0 + i) (hA : mm_Ar cA s) (hdg : decode cc pc = .ok (.iastore, 1)) : mm_S p l e R s m args below meth c f D cl cA nL FP pc (a_iast (pc + 1)) := by
  intro F _ ls st h o ho
  unfold a_iast at ho
  split at ho
  · next v j i r =>
    split at ho
    · next xs g =>
      cases hq : mm_in j xs.length with
      | false => rw [hq] at ho; cases ho
      | true =>
        rw [hq] at ho
        simp only [cond_true, mm_lK_eq, mm_hs, mm_setK_eq] at ho
        cases ho
        have hin := mm_in_ok hq
        refine mm_G.put (fun Q cells slots H locs la _ _ hR hS _ kk => ?_)
        have hi := (mm_hg_some g).1
        have ei : f i = f 0 + i := hf i (by have := hR.2.1; omega)
        refine W.iast hx hb (hR.arr hf g) ((hA .int rfl).1 _ _) (fun q => by cases q) (by rw [arrV_size]; exact fun q => q.elim hin.1 (fun q => by omega)) rfl rfl hdg fun H1 e1 e2 e3 => ?_
        refine kk H1 _ (hR.put hi e2 (fun q hq => e3 q (by rw [ei]; exact hq)) ?_) (hS.put e2 e3 (by show f 0 ≤ f i; omega))
        rw [← ei]
        exact mm_at_set hin.2 e1
    · cases ho
  · cases ho
theorem ms_last (hx : p.tables.exec = Jvm.exec) (hb : c.code = cc) (hf : ∀ i, i < 512 → f i = f 0 + i) (hA : mm_Ar cA s) (hdg : decode cc pc = .ok (.lastore, 1)) : mm_S p l e R s m args below meth c f D cl cA nL FP pc (a_last (pc + 1)) := by
  intro F _ ls st h o ho
  unfold a_last at ho
  split at ho
  · next v j i r =>
    split at ho
    · next xs g =>
      cases hq : mm_in j xs.length with
      | false => rw [hq] at ho; cases ho
      | true =>
        rw [hq] at ho
        simp only [cond_true, mm_lK_eq, mm_hs, mm_setK_eq] at ho
        cases ho
        have hin := mm_in_ok hq
        refine mm_G.put (fun Q cells slots H locs la _ _ hR hS _ kk => ?_)
        have hi := (mm_hg_some g).1
        have ei : f i = f 0 + i := hf i (by have := hR.2.1; omega)
        refine W.last hx hb (hR.arr hf g) ((hA .long rfl).1 _ _) (fun q => by cases q) (by rw [arrV_size]; exact fun q => q.elim hin.1 (fun q => by omega)) rfl rfl hdg fun H1 e1 e2 e3 => ?_
        refine kk H1 _ (hR.put hi e2 (fun q hq => e3 q (by rw [ei]; exact hq)) ?_) (hS.put e2 e3 (by show f 0 ≤ f i; omega))
        rw [← ei]
        exact mm_at_set hin.2 e1
    · cases ho
  · cases ho
theorem ms_bast (hx : p.tables.exec = Jvm.exec) (hb : c.code = cc) (hf : ∀ i, i < 512 → f i = f 0 + i) (hA : mm_Ar cA s) (hdg : decode cc pc = .ok (.bastore, 1)) : mm_S p l e R s m args below meth c f D cl cA nL FP pc (a_bast (pc + 1)) := by
  intro F _ ls st h o ho
  unfold a_bast at ho
  split at ho
  · next v j i r =>
    split at ho
    · next xs g =>
      cases hq : mm_in j xs.length with
      | false => rw [hq] at ho; cases ho
      | true =>
        rw [hq] at ho
        simp only [cond_true, mm_lK_eq, mm_hs, mm_setK_eq, mm_fI_eq] at ho
        cases ho
        have hin := mm_in_ok hq
        refine mm_G.put (fun Q cells slots H locs la _ _ hR hS _ kk => ?_)
        have hi := (mm_hg_some g).1
        have ei : f i = f 0 + i := hf i (by have := hR.2.1; omega)
        refine W.bast hx hb (hR.arr hf g) ((hA .byte rfl).1 _ _) (fun q => by cases q) (by rw [arrV_size]; exact fun q => q.elim hin.1 (fun q => by omega)) rfl rfl hdg fun H1 e1 e2 e3 => ?_
        refine kk H1 _ (hR.put hi e2 (fun q hq => e3 q (by rw [ei]; exact hq)) ?_) (hS.put e2 e3 (by show f 0 ≤ f i; omega))
        rw [← ei]
        exact mm_at_set hin.2 e1
    · next xs g =>
      cases hq : mm_in j xs.length with
      | false => rw [hq] at ho; cases ho
      | true =>
        rw [hq] at ho
        simp only [cond_true, mm_lK_eq, mm_hs, mm_setK_eq, mm_fI_eq] at ho
        cases ho
        have hin := mm_in_ok hq
        refine mm_G.put (fun Q cells slots H locs la _ _ hR hS _ kk => ?_)
        have hi := (mm_hg_some g).1
        have ei : f i = f 0 + i := hf i (by have := hR.2.1; omega)
        refine W.zast hx hb (hR.arr hf g) ((hA .boolean rfl).1 _ _) (fun q => by cases q) (by rw [arrV_size]; exact fun q => q.elim hin.1 (fun q => by omega)) rfl rfl hdg fun H1 e1 e2 e3 => ?_
        refine kk H1 _ (hR.put hi e2 (fun q hq => e3 q (by rw [ei]; exact hq)) ?_) (hS.put e2 e3 (by show f 0 ≤ f i; omega))
        rw [← ei]
        exact mm_at_set hin.2 e1
    · cases ho
  · cases ho
end MS4
