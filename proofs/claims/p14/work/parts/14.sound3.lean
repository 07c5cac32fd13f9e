section MS3
variable {p : Program} {l : Launch} {e : Env} {R : Room} {s : State} {m : MethodId} {args : Array Value} {below : List Frame} {meth : Method} {c : Code} {cc : ByteArray} {pc : Nat} {f : Nat → Nat} {D : va_G} {cl : List vw_C} {cA : FieldType → ClassId} {nL : Nat} {FP : mm_F → Prop}
theorem mm_beq {a b : Nat} (h : Nat.beq a b = true) : a = b := Nat.eq_of_beq_eq_true h
theorem ms_dup (hx : p.tables.exec = Jvm.exec) (hb : c.code = cc) (hdg : decode cc pc = .ok (.dup, 1)) : mm_S p l e R s m args below meth c f D cl cA nL FP pc (a_dup (pc + 1)) := by
  intro F _ ls st h o ho
  unfold a_dup at ho
  split at ho
  · next v r =>
    cases hq : Nat.beq v.category 1 with
    | false => rw [hq] at ho; cases ho
    | true =>
      rw [hq] at ho
      cases ho
      exact mm_G.st (fun Q cells slots H locs la _ _ _ _ _ kk => lv_dup hx hb hdg (by rw [mm_e_cat]; exact mm_beq hq) kk)
  · cases ho
theorem ms_pop (hx : p.tables.exec = Jvm.exec) (hb : c.code = cc) (hdg : decode cc pc = .ok (.pop, 1)) : mm_S p l e R s m args below meth c f D cl cA nL FP pc (a_pop (pc + 1)) := by
  intro F _ ls st h o ho
  unfold a_pop at ho
  split at ho
  · next v r =>
    cases hq : Nat.beq v.category 1 with
    | false => rw [hq] at ho; cases ho
    | true =>
      rw [hq] at ho
      cases ho
      exact mm_G.st (fun Q cells slots H locs la _ _ _ _ _ kk => lv_pop hx hb hdg (by rw [mm_e_cat]; exact mm_beq hq) kk)
  · cases ho
theorem ms_dupx1 (hx : p.tables.exec = Jvm.exec) (hb : c.code = cc) (hdg : decode cc pc = .ok (.dup_x1, 1)) : mm_S p l e R s m args below meth c f D cl cA nL FP pc (a_dupx1 (pc + 1)) := by
  intro F _ ls st h o ho
  unfold a_dupx1 at ho
  split at ho
  · next v w r =>
    cases hq : (Nat.beq v.category 1 && Nat.beq w.category 1) with
    | false => rw [hq] at ho; cases ho
    | true =>
      rw [hq] at ho
      cases ho
      rw [Bool.and_eq_true] at hq
      exact mm_G.st (fun Q cells slots H locs la _ _ _ _ _ kk => lv_dup_x1 hx hb hdg (by rw [mm_e_cat]; exact mm_beq hq.1) (by rw [mm_e_cat]; exact mm_beq hq.2) kk)
  · cases ho
theorem ms_dupx2 (hx : p.tables.exec = Jvm.exec) (hb : c.code = cc) (hdg : decode cc pc = .ok (.dup_x2, 1)) : mm_S p l e R s m args below meth c f D cl cA nL FP pc (a_dupx2 (pc + 1)) := by
  intro F _ ls st h o ho
  unfold a_dupx2 at ho
  split at ho
  · next v w u r =>
    cases hq : (Nat.beq v.category 1 && Nat.beq w.category 1 && Nat.beq u.category 1) with
    | false => rw [hq] at ho; cases ho
    | true =>
      rw [hq] at ho
      cases ho
      rw [Bool.and_eq_true, Bool.and_eq_true] at hq
      exact mm_G.st (fun Q cells slots H locs la _ _ _ _ _ kk => lv_dup_x2 hx hb hdg (by rw [mm_e_cat]; exact mm_beq hq.1.1) (by rw [mm_e_cat]; exact mm_beq hq.1.2) (by rw [mm_e_cat]; exact mm_beq hq.2) kk)
  · cases ho
theorem ms_dup2 (hx : p.tables.exec = Jvm.exec) (hb : c.code = cc) (hdg : decode cc pc = .ok (.dup2, 1)) : mm_S p l e R s m args below meth c f D cl cA nL FP pc (a_dup2 (pc + 1)) := by
  intro F _ ls st h o ho
  unfold a_dup2 at ho
  split at ho
  · next v w r =>
    cases hq : (Nat.beq v.category 1 && Nat.beq w.category 1) with
    | false => rw [hq] at ho; cases ho
    | true =>
      rw [hq] at ho
      cases ho
      rw [Bool.and_eq_true] at hq
      exact mm_G.st (fun Q cells slots H locs la _ _ _ _ _ kk => lv_dup2_11 hx hb hdg (by rw [mm_e_cat]; exact mm_beq hq.1) (by rw [mm_e_cat]; exact mm_beq hq.2) kk)
  · cases ho
/-- the object of a number, as the kit's worlds have it -/
theorem mm_R.obj {h : mm_H} {H : Heap} {i ci : Nat} {fs : List Value} (hf : ∀ i, i < 512 → f i = f 0 + i) (hR : mm_R f D cl cA h H) (g : mm_hg h i = some (.inl (ci, fs))) : va_P D cl [(f i, .inr (ci, fs.map (mm_e f)))] H := by
  obtain ⟨h1, h2⟩ := mm_hg_some g
  have h3 := hR.2.2 i _ h1 h2
  intro k q hq
  have hk : k < 1 := (List.getElem?_eq_some_iff.mp hq).1
  rw [show k = 0 by omega] at hq
  cases hq
  rw [hf i (by have := hR.2.1; omega)]
  exact h3
theorem mm_R.arr {h : mm_H} {H : Heap} {i : Nat} {ty : FieldType} {xs : List Value} (hf : ∀ i, i < 512 → f i = f 0 + i) (hR : mm_R f D cl cA h H) (g : mm_hg h i = some (.inr (ty, xs))) : H[f i]? = some (arrV (cA ty) xs.length (fun j => mm_e f (xs.getD j .null))) := by
  obtain ⟨h1, h2⟩ := mm_hg_some g
  have h3 := hR.2.2 i _ h1 h2
  rw [hf i (by have := hR.2.1; omega)]
  exact h3
theorem ms_getf {own ref C : String} {T : u_T} {N ci index k : Nat} {Ts : List Cond} {tys : List (ClassId × FieldType)} (hx : p.tables.exec = Jvm.exec) (hb : c.code = cc) (hf : ∀ i, i < 512 → f i = f 0 + i) (hts : ∀ w ∈ Ts, w.before args s = true) (hin : ∀ w ∈ u_ws C T N, w ∈ Ts) (hown : s.vm.findClass own = some m.cls) (hK : va_K D cl tys s) (hc : cl[ci]? = some (C, T, N)) (hk : k < N) (hlink : (Cond.fieldLink own index ref (T k).2.1 (T k).2.2.1).before args s = true) (hr : ref = (T k).1) (hdg : decode cc pc = .ok (.getfield index, 3)) : mm_S p l e R s m args below meth c f D cl cA nL FP pc (a_get ci k (pc + 3)) := by
  intro F _ ls st h o ho
  unfold a_get at ho
  split at ho
  · next i r =>
    split at ho
    · next c2 fs g =>
      cases hq : Nat.beq c2 ci with
      | false => rw [hq] at ho; cases ho
      | true =>
        rw [hq] at ho
        have e1 := mm_beq hq
        subst e1
        simp only [cond_true] at ho
        split at ho
        · next v hv =>
          cases ho
          subst hr
          exact mm_G.st (fun Q cells slots H locs la _ _ hR _ _ kk => va_get (D := D) (ci := c2) (v := mm_e f v) (C := C) (T := T) (N := N) hx hb hts hin hown hK (hR.obj hf g) 0 rfl hc k hk hlink (fun _ h9 => h9) (by rw [List.getElem?_map, hv]; rfl) hdg kk)
        · cases ho
    · cases ho
  · cases ho
theorem ms_getN {own ref C host : String} {T : u_T} {N ci index k : Nat} {Ts : List Cond} {tys : List (ClassId × FieldType)} (hx : p.tables.exec = Jvm.exec) (hb : c.code = cc) (hf : ∀ i, i < 512 → f i = f 0 + i) (hts : ∀ w ∈ Ts, w.before args s = true) (hin : ∀ w ∈ u_ws C T N, w ∈ Ts) (hown : s.vm.findClass own = some m.cls) (hK : va_K D cl tys s) (hc : cl[ci]? = some (C, T, N)) (hk : k < N) (hlink : (Cond.fieldLinkNest own index ref (T k).2.1 (T k).2.2.1 host).before args s = true) (hr : ref = (T k).1) (hdg : decode cc pc = .ok (.getfield index, 3)) : mm_S p l e R s m args below meth c f D cl cA nL FP pc (a_get ci k (pc + 3)) := by
  intro F _ ls st h o ho
  unfold a_get at ho
  split at ho
  · next i r =>
    split at ho
    · next c2 fs g =>
      cases hq : Nat.beq c2 ci with
      | false => rw [hq] at ho; cases ho
      | true =>
        rw [hq] at ho
        have e1 := mm_beq hq
        subst e1
        simp only [cond_true] at ho
        split at ho
        · next v hv =>
          cases ho
          subst hr
          exact mm_G.st (fun Q cells slots H locs la _ _ hR _ _ kk => va_getN (D := D) (ci := c2) (v := mm_e f v) (C := C) (T := T) (N := N) hx hb hts hin hown hK (hR.obj hf g) 0 rfl hc k hk hlink (fun _ h9 => h9) (by rw [List.getElem?_map, hv]; rfl) hdg kk)
        · cases ho
    · cases ho
  · cases ho
theorem mm_fit_ok {ty : FieldType} {v : Value} (h : mm_fit ty v = true) : narrow ty (mm_e f v) = mm_e f v ∧ fits ty (mm_e f v) = true := by
  unfold mm_fit at h
  split at h
  · exact ⟨rfl, rfl⟩
  · exact ⟨rfl, rfl⟩
  · next x =>
    rw [Bool.or_eq_true, decide_eq_true_eq, decide_eq_true_eq] at h
    rcases h with rfl | rfl
    · exact ⟨(by decide : narrow FieldType.boolean (Value.int 0) = Value.int 0), (by decide : fits FieldType.boolean (Value.int 0) = true)⟩
    · exact ⟨(by decide : narrow FieldType.boolean (Value.int 1) = Value.int 1), (by decide : fits FieldType.boolean (Value.int 1) = true)⟩
  · exact ⟨rfl, rfl⟩
  · exact ⟨rfl, rfl⟩
  · cases h
end MS3
