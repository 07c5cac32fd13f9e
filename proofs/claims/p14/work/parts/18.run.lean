/-- a method's start: its arguments, the cells, what else is known of the state -/
def mm_Pc (f : Nat → Nat) (D : va_G) (cl : List vw_C) (cA : FieldType → ClassId) (EX : State → Prop) (as : List Value) (h : mm_H) : Array Value → State → Prop := fun v U => v = (as.map (mm_e f)).toArray ∧ mm_R f D cl cA h U.heap ∧ EX U
def mm_Qc (f : Nat → Nat) (D : va_G) (cl : List vw_C) (cA : FieldType → ClassId) (h2 : mm_H) (r : Option Value) : Array Value → State → Outcome → State → Prop := fun _ st o t => o = .returned (r.map (mm_e f)) ∧ mm_R f D cl cA h2 t.heap ∧ va_F (fun q => f 0 ≤ q) st t
/-- what runs calls, does as the machine does them: a contract for each call that comes back -/
def mm_FP (l : Launch) (Y : Nat → MethodName) (WS : Nat → List Cond) (f : Nat → Nat) (D : va_G) (cl : List vw_C) (cA : FieldType → ClassId) (EX : State → Prop) (d : Nat) (F : mm_F) : Prop :=
  ∀ (k : Nat) (as : List Value) (h h2 : mm_H) (r : Option Value), F k as h = some (h2, r) → h.1 ≤ h2.1 ∧ h.2.1 ≤ h2.2.1 ∧ Met l (Y k) (WS k) { frames := d, cells := h2.1 - h.1, slots := h2.2.1 - h.2.1, locals := 60 * d } (mm_Pc f D cl cA EX as h) (mm_Qc f D cl cA h2 r) (h2.1 - h.1) (h2.2.1 - h.2.1) (fun q => f 0 ≤ q)
/-- what is known of the state stays, where the tables only warm and nothing below the cells changes -/
def mm_go (f : Nat → Nat) (EX : State → Prop) : Prop := ∀ u U : State, u.vm.Alike U.vm → (∀ own k tx a, vk_R own k tx a u → vk_R own k tx a U) → (∀ own i r n d h, va_Nw (.fieldLinkNest own i r n d h) u → va_Nw (.fieldLinkNest own i r n d h) U) → (∀ own i y h, va_Nw (.methodLinkNest own i y h) u → va_Nw (.methodLinkNest own i y h) U) → (∀ q : Nat, q < u.heap.size → ¬ f 0 ≤ q → U.heap[q]? = u.heap[q]?) → EX u → EX U
section MS7
variable {p : Program} {l : Launch} {e : Env} {R : Room} {s : State} {m : MethodId} {args : Array Value} {below : List Frame} {meth : Method} {c : Code} {cc : ByteArray} {pc : Nat} {f : Nat → Nat} {D : va_G} {cl : List vw_C} {cA : FieldType → ClassId} {nL : Nat} {Y : Nat → MethodName} {WS : Nat → List Cond} {EX : State → Prop} {d : Nat}
theorem mm_blind (hgo : mm_go f EX) (as : List Value) (h : mm_H) : FrameBlind (mm_Pc f D cl cA EX as h) := by
  intro a U g mk hp
  exact ⟨hp.1, hp.2.1, hgo U (U.calling g mk a) (Vm.Alike.refl U.vm) (fun _ _ _ _ h => vk_R.same (u := U) (U := U.calling g mk a) rfl h) (fun _ _ _ _ _ _ h => va_tabs rfl (rfl : U.vm = (U.calling g mk a).vm) h) (fun _ _ _ _ h => va_tabs rfl (rfl : U.vm = (U.calling g mk a).vm) h) (fun _ _ _ => rfl) hp.2.2⟩
theorem mm_preS {H : Heap} {locs : List Loc} {as : List Value} {h : mm_H} (hgo : mm_go f EX) (hEX : EX s) (hR : mm_R f D cl cA h H) (hS : va_S (fun q => f 0 ≤ q) s.heap H locs) : PreS s H (mm_Pc f D cl cA EX as h) (as.map (mm_e f)) :=
  ⟨mm_blind hgo as h, fun U hU hW => ⟨rfl, by rw [hU]; exact hR, hgo s U hW.alike (fun _ _ _ _ h => h.warm hW) (fun _ _ _ _ _ _ h => va_Nw.warmF hW h) (fun _ _ _ _ h => va_Nw.warmM hW h) (fun q h1 h2 => by rw [hU]; exact hS.2.1 q h1 h2) hEX⟩⟩
/-- behind a call -/
theorem mm_back {H : Heap} {locs : List Loc} {la : Array Slot} {cells slots : Nat} {Q : State → Prop} {h h2 : mm_H} {v : Option Value} {st0 r : List Value} {a : Array Value} (hS : va_S (fun q => f 0 ≤ q) s.heap H locs)
    (run : va_Run p l e R s m args below meth c H locs cells slots (h2.1 - h.1) (h2.2.1 - h.2.1) (F0 m pc la st0) (r.map (mm_e f)) (mm_Qc f D cl cA h2 v a) (fun q => f 0 ≤ q))
    (kk : ∀ (H2 : Heap) (locs2 : List Loc), mm_R f D cl cA h2 H2 → va_S (fun q => f 0 ≤ q) s.heap H2 locs2 → W p l e R s m args below meth c H2 locs2 (cells + (h2.1 - h.1)) (slots + (h2.2.1 - h.2.1)) Q (F0 m (pc + 3) la ((v.toList ++ r).map (mm_e f)))) : W p l e R s m args below meth c H locs cells slots Q (F0 m pc la st0) := by
  intro T hT X
  obtain ⟨v', st₀, t, T', L, e0, X', hL', e1, e2, ⟨hv, hR2, hFr⟩, st⟩ := run T hT X
  cases hv
  have hfr := hFr.2
  have hsz := hFr.1
  rw [e0] at hfr hsz
  obtain ⟨t2, a1, b1⟩ := kk T'.heap (locs ++ L) (by rw [e1]; exact hR2) ⟨by rw [e1]; exact Nat.le_trans hS.1 hsz, fun q g1 g2 => by rw [e1, hfr q (Nat.lt_of_lt_of_le g1 hS.1) g2]; exact hS.2.1 q g1 g2, fun q hq => (List.mem_append.mp hq).elim (hS.2.2 q) (hL' q)⟩ T' rfl X'
  have e3 : (v.toList ++ r).map (mm_e f) = (v.map (mm_e f)).toList ++ r.map (mm_e f) := by cases v <;> rfl
  rw [e3] at a1
  exact ⟨t2, st t2 a1, b1⟩
theorem ms_ivS {own : String} {index k n maxL : Nat} {bytes : ByteArray} {ret : Option FieldType} {Ts ws' : List Cond} (hx : p.tables.exec = Jvm.exec) (hb : c.code = cc) (hml : c.maxLocals = nL) (hown : s.vm.findClass own = some m.cls) (hts : ∀ w ∈ Ts, w.before args s = true) (hgo : mm_go f EX) (hEX : EX s) (hT : GoodIn Ts (va_wsS own index (Y k) (WS k))) (hw : WS k = Cond.code (Y k) bytes maxL ret :: ws') (hd : (Y k).cls ≠ "java/lang/invoke/MethodHandle" ∧ (Y k).cls ≠ "java/lang/invoke/VarHandle" ∧ (parseMethodDescriptor (Y k).desc).map (fun d => d.parameters.length) = some n) (hR : d + 1 ≤ R.frames ∧ 8 + (maxL + 11) + 60 * d ≤ R.locals) (hdg : decode cc pc = .ok (.invokestatic index, 3)) : mm_S p l e R s m args below meth c f D cl cA nL (mm_FP l Y WS f D cl cA EX d) pc (a_ivS k n (pc + 3)) := by
  intro F hF ls st h o ho
  obtain ⟨as, r, hn, rfl, h0⟩ := mm_pop_eq n st [] _ ho
  clear ho
  have ho := h0
  rw [List.append_nil] at ho
  cases hq : Nat.ble (mm_cat r) 8 with
  | false => rw [hq] at ho; cases ho
  | true =>
    rw [hq] at ho
    simp only [cond_true] at ho
    split at ho
    · next h2 v hv =>
      cases ho
      obtain ⟨g1, g2, hM⟩ := hF k as h h2 v hv
      refine ⟨g1, g2, fun Q cells slots c1 c2 H locs la hR' hS hL kk => ?_⟩
      refine mm_back (h := h) (h2 := h2) (r := r) (v := v) hS (va_runS (As := as.map (mm_e f)) (rest := r.map (mm_e f)) ⟨hx, hb, hml, hown, hts⟩ hM (va_cwS n hts hT hw rfl rfl hd hR) (mm_preS hgo hEX hR' hS) rfl (by rw [List.length_map]; exact hn) hL.1 (by simp) (lv_room (by rw [mm_e_cats]; exact Nat.le_of_ble_eq_true hq)) hdg ⟨c1, c2⟩) (fun H2 locs2 hR2 hS2 => kk H2 locs2 la hR2 hS2 hL)
    · cases ho
theorem ms_ivSN {host : String} {own : String} {index k n maxL : Nat} {bytes : ByteArray} {ret : Option FieldType} {Ts ws' : List Cond} (hx : p.tables.exec = Jvm.exec) (hb : c.code = cc) (hml : c.maxLocals = nL) (hown : s.vm.findClass own = some m.cls) (hts : ∀ w ∈ Ts, w.before args s = true) (hgo : mm_go f EX) (hEX : EX s) (hG : GoodIn Ts (WS k)) (hw : WS k = Cond.code (Y k) bytes maxL ret :: ws') (hl : va_Nw (.methodLinkNest own index (Y k) host) s) (hst : (Cond.static (Y k)).before args s = true) (hini : (Cond.initialized (Y k).cls).before args s = true) (hd : (Y k).cls ≠ "java/lang/invoke/MethodHandle" ∧ (Y k).cls ≠ "java/lang/invoke/VarHandle" ∧ (parseMethodDescriptor (Y k).desc).map (fun d => d.parameters.length) = some n) (hR : d + 1 ≤ R.frames ∧ 8 + (maxL + 11) + 60 * d ≤ R.locals) (hdg : decode cc pc = .ok (.invokestatic index, 3)) : mm_S p l e R s m args below meth c f D cl cA nL (mm_FP l Y WS f D cl cA EX d) pc (a_ivS k n (pc + 3)) := by
  intro F hF ls st h o ho
  obtain ⟨as, r, hn, rfl, h0⟩ := mm_pop_eq n st [] _ ho
  clear ho
  have ho := h0
  rw [List.append_nil] at ho
  cases hq : Nat.ble (mm_cat r) 8 with
  | false => rw [hq] at ho; cases ho
  | true =>
    rw [hq] at ho
    simp only [cond_true] at ho
    split at ho
    · next h2 v hv =>
      cases ho
      obtain ⟨g1, g2, hM⟩ := hF k as h h2 v hv
      refine ⟨g1, g2, fun Q cells slots c1 c2 H locs la hR' hS hL kk => ?_⟩
      refine mm_back (h := h) (h2 := h2) (r := r) (v := v) hS (va_runSN (As := as.map (mm_e f)) (rest := r.map (mm_e f)) ⟨hx, hb, hml, hown, hts⟩ hM ⟨va_cnB n hts hG hw rfl rfl hl hini hd hR, hst, trivial⟩ (mm_preS hgo hEX hR' hS) rfl (by rw [List.length_map]; exact hn) hL.1 (by simp) (lv_room (by rw [mm_e_cats]; exact Nat.le_of_ble_eq_true hq)) hdg ⟨c1, c2⟩) (fun H2 locs2 hR2 hS2 => kk H2 locs2 la hR2 hS2 hL)
    · cases ho
theorem ms_ivV {C : String} {T : u_T} {N ci : Nat} {tys : List (ClassId × FieldType)} {own : String} {index k n maxL : Nat} {bytes : ByteArray} {ret : Option FieldType} {Ts ws' : List Cond} (hx : p.tables.exec = Jvm.exec) (hb : c.code = cc) (hml : c.maxLocals = nL) (hown : s.vm.findClass own = some m.cls) (hts : ∀ w ∈ Ts, w.before args s = true) (hgo : mm_go f EX) (hEX : EX s) (hf : ∀ i, i < 512 → f i = f 0 + i) (hK : va_K D cl tys s) (hc : cl[ci]? = some (C, T, N)) (hT : GoodIn Ts (wsV own index C (Y k) (WS k))) (hw : WS k = Cond.code (Y k) bytes maxL ret :: ws') (hd : (Y k).cls = C ∧ (Y k).cls ≠ "java/lang/invoke/MethodHandle" ∧ (Y k).cls ≠ "java/lang/invoke/VarHandle" ∧ (parseMethodDescriptor (Y k).desc).map (fun d => d.parameters.length) = some n) (hR : d + 1 ≤ R.frames ∧ 8 + (maxL + 11) + 60 * d ≤ R.locals) (hdg : decode cc pc = .ok (.invokevirtual index, 3)) : mm_S p l e R s m args below meth c f D cl cA nL (mm_FP l Y WS f D cl cA EX d) pc (a_ivV ci k n (pc + 3)) := by
  intro F hF ls st h o ho
  obtain ⟨as, r0, hn, rfl, h0⟩ := mm_pop_eq n st [] _ ho
  clear ho
  have ho := h0
  rw [List.append_nil] at ho
  split at ho
  · next i r =>
    split at ho
    · next c2 fs g =>
      cases hq : (Nat.beq c2 ci && Nat.ble (mm_cat r) 8) with
      | false => rw [hq] at ho; cases ho
      | true =>
        rw [hq] at ho
        simp only [cond_true] at ho
        rw [Bool.and_eq_true] at hq
        have e1 := mm_beq hq.1
        subst e1
        split at ho
        · next h2 v hv =>
          cases ho
          obtain ⟨g1, g2, hM⟩ := hF k _ h h2 v hv
          refine ⟨g1, g2, fun Q cells slots c1 c2 H locs la hR' hS hL kk => ?_⟩
          have hp := mm_preS (as := .ref i :: as) hgo hEX hR' hS
          refine mm_back (h := h) (h2 := h2) (r := r) (v := v) hS (va_runV (C := C) (As := as.map (mm_e f)) (b := f i) (rest := r.map (mm_e f)) ⟨hx, hb, hml, hown, hts⟩ hM (cwV n hts hT hw rfl rfl hd hR) ⟨hp.1, va_recv (q0 := 0) hK (hR'.obj hf g) hc rfl, hp.2⟩ rfl (by rw [List.length_map]; exact hn) hL.1 (by simp; rfl) (lv_room (by rw [mm_e_cats]; exact Nat.le_of_ble_eq_true hq.2)) hdg ⟨c1, c2⟩) (fun H2 locs2 hR2 hS2 => kk H2 locs2 la hR2 hS2 hL)
        · cases ho
    · cases ho
  · cases ho
theorem ms_ivI {own : String} {index k n maxL : Nat} {bytes : ByteArray} {Ts ws' : List Cond} (hx : p.tables.exec = Jvm.exec) (hb : c.code = cc) (hml : c.maxLocals = nL) (hown : s.vm.findClass own = some m.cls) (hts : ∀ w ∈ Ts, w.before args s = true) (hgo : mm_go f EX) (hEX : EX s) (hG : GoodIn Ts (WS k)) (hw : WS k = Cond.code (Y k) bytes maxL none :: ws') (hini : (Cond.initialized (Y k).cls).before args s = true) (hl : (Cond.methodLink own index (Y k)).before args s = true) (hin : (Cond.instanceMethod (Y k)).before args s = true) (hy1 : (Y k).name = "<init>") (hd : (Y k).cls ≠ "java/lang/invoke/MethodHandle" ∧ (Y k).cls ≠ "java/lang/invoke/VarHandle" ∧ (parseMethodDescriptor (Y k).desc).map (fun d => d.parameters.length) = some n) (hR : d + 1 ≤ R.frames ∧ 8 + (maxL + 11) + 60 * d ≤ R.locals) (hdg : decode cc pc = .ok (.invokespecial index, 3)) : mm_S p l e R s m args below meth c f D cl cA nL (mm_FP l Y WS f D cl cA EX d) pc (a_ivI k n (pc + 3)) := by
  intro F hF ls st h o ho
  obtain ⟨as, r0, hn, rfl, h0⟩ := mm_pop_eq n st [] _ ho
  clear ho
  have ho := h0
  rw [List.append_nil] at ho
  split at ho
  · next i r =>
    cases hq : Nat.ble (mm_cat r) 8 with
    | false => rw [hq] at ho; cases ho
    | true =>
      rw [hq] at ho
      simp only [cond_true] at ho
      split at ho
      · next h2 hv =>
        cases ho
        obtain ⟨g1, g2, hM⟩ := hF k _ h h2 none hv
        refine ⟨g1, g2, fun Q cells slots c1 c2 H locs la hR' hS hL kk => ?_⟩
        refine mm_back (h := h) (h2 := h2) (r := r) (v := none) hS (va_runI (As := as.map (mm_e f)) (b := f i) (rest := r.map (mm_e f)) ⟨hx, hb, hml, hown, hts⟩ hM (cwI n hts hG hw rfl rfl hini hl hin hy1 hd hR) (mm_preS (as := .ref i :: as) hgo hEX hR' hS) rfl (by rw [List.length_map]; exact hn) hL.1 (by simp; rfl) (lv_room (by rw [mm_e_cats]; exact Nat.le_of_ble_eq_true hq)) hdg ⟨c1, c2⟩) (fun H2 locs2 hR2 hS2 => kk H2 locs2 la hR2 hS2 hL)
      · cases ho
  · cases ho
theorem ms_ivIN {host : String} {own : String} {index k n maxL : Nat} {bytes : ByteArray} {Ts ws' : List Cond} (hx : p.tables.exec = Jvm.exec) (hb : c.code = cc) (hml : c.maxLocals = nL) (hown : s.vm.findClass own = some m.cls) (hts : ∀ w ∈ Ts, w.before args s = true) (hgo : mm_go f EX) (hEX : EX s) (hG : GoodIn Ts (WS k)) (hw : WS k = Cond.code (Y k) bytes maxL none :: ws') (hl : va_Nw (.methodLinkNest own index (Y k) host) s) (hini : (Cond.initialized (Y k).cls).before args s = true) (hin : (Cond.instanceMethod (Y k)).before args s = true) (hy1 : (Y k).name = "<init>") (hd : (Y k).cls ≠ "java/lang/invoke/MethodHandle" ∧ (Y k).cls ≠ "java/lang/invoke/VarHandle" ∧ (parseMethodDescriptor (Y k).desc).map (fun d => d.parameters.length) = some n) (hR : d + 1 ≤ R.frames ∧ 8 + (maxL + 11) + 60 * d ≤ R.locals) (hdg : decode cc pc = .ok (.invokespecial index, 3)) : mm_S p l e R s m args below meth c f D cl cA nL (mm_FP l Y WS f D cl cA EX d) pc (a_ivI k n (pc + 3)) := by
  intro F hF ls st h o ho
  obtain ⟨as, r0, hn, rfl, h0⟩ := mm_pop_eq n st [] _ ho
  clear ho
  have ho := h0
  rw [List.append_nil] at ho
  split at ho
  · next i r =>
    cases hq : Nat.ble (mm_cat r) 8 with
    | false => rw [hq] at ho; cases ho
    | true =>
      rw [hq] at ho
      simp only [cond_true] at ho
      split at ho
      · next h2 hv =>
        cases ho
        obtain ⟨g1, g2, hM⟩ := hF k _ h h2 none hv
        refine ⟨g1, g2, fun Q cells slots c1 c2 H locs la hR' hS hL kk => ?_⟩
        refine mm_back (h := h) (h2 := h2) (r := r) (v := none) hS (va_runIN (As := as.map (mm_e f)) (b := f i) (rest := r.map (mm_e f)) ⟨hx, hb, hml, hown, hts⟩ hM ⟨va_cnB n hts hG hw rfl rfl hl hini hd hR, hy1, hin⟩ (mm_preS (as := .ref i :: as) hgo hEX hR' hS) rfl (by rw [List.length_map]; exact hn) hL.1 (by simp; rfl) (lv_room (by rw [mm_e_cats]; exact Nat.le_of_ble_eq_true hq)) hdg ⟨c1, c2⟩) (fun H2 locs2 hR2 hS2 => kk H2 locs2 la hR2 hS2 hL)
      · cases ho
  · cases ho
/-- a whole run of a method's code -/
theorem mm_run_ok {FP : mm_F → Prop} {F : mm_F} {code : Nat → mm_A} (hS : ∀ pc, mm_S p l e R s m args below meth c f D cl cA nL FP pc (code pc)) (hF : FP F) : ∀ (n pc : Nat) (ls : List (Option Value)) (st : List Value) (h h2 : mm_H) (r : Option Value), mm_run F code n pc ls st h = some (h2, r) → h.1 ≤ h2.1 ∧ h.2.1 ≤ h2.2.1 ∧ ∀ (Qc : Array Value → State → Outcome → State → Prop) (cells slots : Nat), cells + (h2.1 - h.1) ≤ R.cells → slots + (h2.2.1 - h.2.1) ≤ R.slots → (∀ t : State, mm_R f D cl cA h2 t.heap → va_F (fun q => f 0 ≤ q) s t → s.WarmedH t.vm → Qc args s (.returned (r.map (mm_e f))) t) → ∀ (H : Heap) (locs : List Loc) (la : Array Slot), mm_R f D cl cA h H → va_S (fun q => f 0 ≤ q) s.heap H locs → mm_L f la nL ls → W p l e R s m args below meth c H locs cells slots (MQ below Qc args s (cells + (h2.1 - h.1)) (slots + (h2.2.1 - h.2.1)) (fun q => f 0 ≤ q)) (F0 m pc la (st.map (mm_e f))) := by
  intro n
  induction n with
  | zero => intro pc ls st h h2 r hr; cases hr
  | succ n ih =>
    intro pc ls st h h2 r hr
    have hr' : (match code pc F ls st h with
      | none => none
      | some (.inr r) => some r
      | some (.inl (pc2, ls2, st2, h2)) => mm_run F code n pc2 ls2 st2 h2) = some (h2, r) := hr
    cases ho : code pc F ls st h with
    | none => rw [ho] at hr'; cases hr'
    | some o =>
      have hG := hS pc F hF ls st h o ho
      rw [ho] at hr'
      cases o with
      | inr q =>
        cases hr'
        obtain ⟨e1, kk⟩ := hG
        have e1 : h2 = h := e1
        subst e1
        refine ⟨Nat.le_refl _, Nat.le_refl _, fun Qc cells slots _ _ hq H locs la hR hSS hL => ?_⟩
        simp only [Nat.sub_self, Nat.add_zero]
        exact kk Qc _ H locs la cells slots (fun t ht hW => hq t (by rw [ht]; exact hR) (hSS.F ht) hW) hSS.2.2
      | inl q =>
        obtain ⟨pc2, ls2, st2, hm⟩ := q
        have hr' : mm_run F code n pc2 ls2 st2 hm = some (h2, r) := hr'
        obtain ⟨a1, a2, k1⟩ := ih pc2 ls2 st2 hm h2 r hr'
        obtain ⟨b1, b2, k2⟩ := hG
        have b1 : h.1 ≤ hm.1 := b1
        have b2 : h.2.1 ≤ hm.2.1 := b2
        refine ⟨Nat.le_trans b1 a1, Nat.le_trans b2 a2, fun Qc cells slots c1 c2 hq H locs la hR hSS hL => ?_⟩
        have d1 : cells + (h2.1 - h.1) = cells + (hm.1 - h.1) + (h2.1 - hm.1) := by omega
        have d2 : slots + (h2.2.1 - h.2.1) = slots + (hm.2.1 - h.2.1) + (h2.2.1 - hm.2.1) := by omega
        refine k2 _ cells slots (by show cells + (hm.1 - h.1) ≤ _; omega) (by show slots + (hm.2.1 - h.2.1) ≤ _; omega) H locs la hR hSS hL (fun H2 locs2 la2 hR2 hS2 hL2 => ?_)
        rw [d1, d2]
        exact k1 Qc (cells + (hm.1 - h.1)) (slots + (hm.2.1 - h.2.1)) (by omega) (by omega) hq H2 locs2 la2 hR2 hS2 hL2
end MS7
