/-! switches, arrays of objects, texts that are constants, the one static of which only 'a reference or null' is known -/
def a_naq (C : String) (nx : Nat) : mm_A := fun _ ls st h => match st with
  | .int n :: r => bif decide (n < 0) || decide (100000 < n) then none else mm_fN n.toNatClampNeg (fun N => mm_ad h N (.inr (.object C, List.replicate N .null)) (fun h2 => some (.inl (nx, ls, .ref h.1 :: r, h2))))
  | _ => none
def a_ldS (j nx : Nat) : mm_A := fun _ ls st h => some (.inl (nx, ls, .ref (1100 + j) :: st, h))
def a_gsq (nx : Nat) : mm_A := fun _ ls st h => some (.inl (nx, ls, .retAddr 0 :: st, h))
/-- a text's bytes, its coder -/
def a_sgv (NS nx : Nat) : mm_A := fun _ ls st h => match st with
  | .ref i :: r => bif Nat.ble 1100 i && Nat.blt (i - 1100) NS then mm_fN (i - 1100) (fun j => some (.inl (nx, ls, .ref (1200 + j) :: r, h))) else none
  | _ => none
def a_sgc (NS nx : Nat) : mm_A := fun _ ls st h => match st with
  | .ref i :: r => bif Nat.ble 1100 i && Nat.blt (i - 1100) NS then some (.inl (nx, ls, .int 0 :: r, h)) else none
  | _ => none
def a_xlen (SB : List (List Int32)) (nx : Nat) : mm_A := fun _ ls st h => match st with
  | .ref i :: r => bif Nat.ble 1200 i then match SB[i - 1200]? with
    | some xs => mm_fI (Int32.ofNat xs.length) (fun z => some (.inl (nx, ls, .int z :: r, h)))
    | none => none
    else none
  | _ => none
def a_xbl (SB : List (List Int32)) (nx : Nat) : mm_A := fun _ ls st h => match st with
  | .int j :: .ref i :: r => bif Nat.ble 1200 i && !(decide (j < 0)) then match SB[i - 1200]? with
    | some xs => match xs[j.toNatClampNeg]? with
      | some v => some (.inl (nx, ls, .int v :: r, h))
      | none => none
    | none => none
    else none
  | _ => none
def a_ivX (NS k n nx : Nat) : mm_A := fun F ls st h => mm_pop n st [] (fun as r0 => match r0 with
  | .ref i :: r => bif Nat.ble 1100 i && Nat.blt (i - 1100) NS && Nat.ble (mm_cat r) 8 then match F k (.ref i :: as) h with
      | some (h2, v) => some (.inl (nx, ls, v.toList ++ r, h2))
      | none => none
      else none
  | _ => none)
def a_ire (ty : FieldType) : mm_A := fun _ _ st h => match st with
  | [.int x] => bif decide (narrow ty (.int x) = .int x) then some (.inr (h, some (.int x))) else none
  | _ => none
/-- the texts, as they stand at a method's entry -/
def mm_Tx (f : Nat → Nat) (SB : List (List Int32)) (s : State) : Prop := vk_S SB.length (SB.map List.length) SB (fun i => f (1100 + i)) (fun i => f (1200 + i)) (fun q => f 0 ≤ q) s s.heap
section MS9
variable {p : Program} {l : Launch} {e : Env} {R : Room} {s : State} {m : MethodId} {args : Array Value} {below : List Frame} {meth : Method} {c : Code} {cc : ByteArray} {pc : Nat} {f : Nat → Nat} {D : va_G} {cl : List vw_C} {cA : FieldType → ClassId} {nL : Nat} {FP : mm_F → Prop}
theorem ms_tsw {dflt lo hi : Int} {offs : Array Int} {len df : Nat} {ts : List Nat} (hx : p.tables.exec = Jvm.exec) (hb : c.code = cc) (ht : offs.toList.map (fun o => (pc : Int) + o) = ts.map (fun t : Nat => (t : Int))) (hd : (pc : Int) + dflt = (df : Int)) (hdg : decode cc pc = .ok (.tableswitch dflt lo hi offs, len)) : mm_S p l e R s m args below meth c f D cl cA nL FP pc (a_tsw lo hi ts df) := by
  intro F _ ls st h o ho
  unfold a_tsw at ho
  split at ho
  · next x r =>
    cases hq : (decide (x.toInt < lo) || decide (hi < x.toInt)) with
    | true =>
      rw [hq] at ho
      cases ho
      rw [Bool.or_eq_true, decide_eq_true_eq, decide_eq_true_eq] at hq
      exact mm_G.st (fun Q cells slots H locs la _ _ _ _ _ kk => lv_tableOut hx hb hdg hq hd kk)
    | false =>
      rw [hq] at ho
      simp only [cond_false] at ho
      rw [Bool.or_eq_false_iff, decide_eq_false_iff_not, decide_eq_false_iff_not] at hq
      split at ho
      · next t htt =>
        cases ho
        have h1 : (offs.toList.map (fun o => (pc : Int) + o))[(x.toInt - lo).toNat]? = some (t : Int) := by
          rw [ht, List.getElem?_map, htt]; rfl
        rw [List.getElem?_map] at h1
        cases h2 : offs.toList[(x.toInt - lo).toNat]? with
        | none => rw [h2] at h1; cases h1
        | some off =>
          rw [h2] at h1
          have h3 : (pc : Int) + off = (t : Int) := Option.some.inj h1
          exact mm_G.st (fun Q cells slots H locs la _ _ _ _ _ kk => lv_tableIn hx hb hdg hq.1 hq.2 (by rw [← Array.getElem?_toList]; exact h2) h3 kk)
      · cases ho
  · cases ho
theorem ms_naq {own C : String} {index : Nat} (hx : p.tables.exec = Jvm.exec) (hb : c.code = cc) (hf : ∀ i, i < 512 → f i = f 0 + i) (hA : mm_Ar cA s) (hown : s.vm.findClass own = some m.cls) (hcl : (Cond.classLink own index C).before args s = true) (hover : va_AO C s) (ht : mm_ty (.object C) = true) (hdg : decode cc pc = .ok (.anewarray index, 3)) : mm_S p l e R s m args below meth c f D cl cA nL FP pc (a_naq C (pc + 3)) := by
  intro F _ ls st h o ho
  unfold a_naq at ho
  split at ho
  · next n r =>
    by_cases hn : n < 0
    · simp [hn] at ho
    · by_cases hn2 : (100000 : Int32) < n
      · simp [hn2] at ho
      · simp only [hn, hn2, decide_false, Bool.or_self, cond_false, mm_fN_eq] at ho
        obtain ⟨h9, ho⟩ := mm_ad_eq ho
        cases ho
        have hnb : n.toNatClampNeg ≤ 100000 := by
          have h1 : n ≤ 100000 := Int32.not_lt.mp hn2
          have h2 := Int32.le_iff_toInt_le.mp h1
          have h3 : (100000 : Int32).toInt = 100000 := by decide
          rw [h3] at h2
          show n.toInt.toNat ≤ 100000
          omega
        refine mm_G.push (fun Q cells slots H locs la h1 h2 hR hS kk => ?_)
        have eh : f h.1 = H.size := by rw [hf _ h9, hR.1]
        refine W.anew hx hb hown hcl (va_AO.use hover) rfl hdg rfl hn (Nat.le_trans (Nat.mul_le_mul_right 4 hnb) (Nat.le_of_ble_eq_true rfl)) h1 h2 fun cB kA comp f1 f2 f3 f4 => ?_
        generalize hH1 : H.push ({ cls := cB, slots := Array.replicate n.toNatClampNeg .null, vm := .none } : Cell) = H1
        have z1 : H1.size = H.size + 1 := by rw [← hH1, Array.size_push]
        have e1 : H1[H.size]? = some (arrV cB n.toNatClampNeg (fun _ => .null)) := by rw [← hH1, Array.getElem?_push_size, ← arrV_new]
        have o1 : ∀ q : Nat, q < H.size → H1[q]? = H[q]? := fun q hq => by rw [← hH1, Array.getElem?_push, if_neg (Nat.ne_of_lt hq)]
        have hcB : cB = cA (.object C) := by
          obtain ⟨_, _, _, _, _, h5⟩ := (hA _ ht).2
          exact Option.some.inj (f1.symm.trans h5)
        have kk2 := kk H1 (hR.push h9 z1 o1 (by
          show H1[H.size]? = some (arrV (cA (.object C)) (List.replicate n.toNatClampNeg Value.null).length _)
          rw [e1, hcB, List.length_replicate]
          congr 1
          refine mm_arr_congr _ (fun j hj => ?_)
          rw [List.getD_eq_getElem?_getD, List.getElem?_replicate, if_pos hj]
          rfl)) ⟨by have := hS.1; omega, fun q g1 g2 => (o1 q (Nat.lt_of_lt_of_le g1 hS.1)).trans (hS.2.1 q g1 g2), hS.2.2⟩
        have e2 : (Value.ref h.1 :: r).map (mm_e f) = .ref H.size :: r.map (mm_e f) := by rw [← eh]; rfl
        rw [e2] at kk2
        exact kk2
  · cases ho
theorem ms_ire {ty : FieldType} (hx : p.tables.exec = Jvm.exec) (hb : c.code = cc) (hr : meth.sig.returnType = some ty) (hlocks : meth.locks = false) (hdg : decode cc pc = .ok (.ireturn, 1)) : mm_S p l e R s m args below meth c f D cl cA nL FP pc (a_ire ty) := by
  intro F _ ls st h o ho
  unfold a_ire at ho
  split at ho
  · next x =>
    cases hq : decide (narrow ty (.int x) = .int x) with
    | false => rw [hq] at ho; cases ho
    | true =>
      rw [hq] at ho
      cases ho
      exact ⟨rfl, fun Qc free H locs la cells slots h1 h2 => W.zret (v := x) hx hb hr (of_decide_eq_true hq) h1 h2 hdg hlocks⟩
  · cases ho
theorem ms_ldS {own tx : String} {index j : Nat} (hx : p.tables.exec = Jvm.exec) (hb : c.code = cc) (hown : s.vm.findClass own = some m.cls) (hZ : vk_R own index tx (f (1100 + j)) s) (hdg : decode cc pc = .ok (.ldc index, 2)) : mm_S p l e R s m args below meth c f D cl cA nL FP pc (a_ldS j (pc + 2)) := by
  intro F _ ls st h o ho
  cases ho
  exact mm_G.st (fun Q cells slots H locs la _ _ _ _ _ kk => va_ldcS hx hb hown hZ hdg kk)
theorem ms_gsq {own ref C n d : String} {index : Nat} (hx : p.tables.exec = Jvm.exec) (hb : c.code = cc) (hown : s.vm.findClass own = some m.cls) (hZ : va_Z C n d (mm_e f (.retAddr 0)) (fun q => f 0 ≤ q) s s.heap) (hlink : (Cond.fieldLink own index ref n d).before args s = true) (hr : ref = C) (hdg : decode cc pc = .ok (.getstatic index, 3)) : mm_S p l e R s m args below meth c f D cl cA nL FP pc (a_gsq (pc + 3)) := by
  intro F _ ls st h o ho
  cases ho
  subst hr
  exact mm_G.st (fun Q cells slots H locs la _ _ _ hS _ kk => va_gets hx hb hZ hS hown hlink (fun _ h => h) hdg kk)
theorem mm_1100 {a i NS : Nat} (h : (Nat.ble a i && Nat.blt (i - a) NS) = true) : ∃ j, i = a + j ∧ j < NS ∧ i - a = j := by
  rw [Bool.and_eq_true] at h
  have h1 := Nat.le_of_ble_eq_true h.1
  exact ⟨i - a, (Nat.add_sub_cancel' h1).symm, Nat.blt_eq.mp h.2, rfl⟩
theorem ms_sgv {own : String} {index : Nat} {SB : List (List Int32)} (hx : p.tables.exec = Jvm.exec) (hb : c.code = cc) (hown : s.vm.findClass own = some m.cls) (hT : mm_Tx f SB s) (hlink : (Cond.fieldLink own index "java/lang/String" "value" "[B").before args s = true) (hdg : decode cc pc = .ok (.getfield index, 3)) : mm_S p l e R s m args below meth c f D cl cA nL FP pc (a_sgv SB.length (pc + 3)) := by
  intro F _ ls st h o ho
  unfold a_sgv at ho
  split at ho
  · next i r =>
    cases hq : (Nat.ble 1100 i && Nat.blt (i - 1100) SB.length) with
    | false => rw [hq] at ho; cases ho
    | true =>
      rw [hq] at ho
      obtain ⟨j, rfl, hj, ej⟩ := mm_1100 hq
      simp only [cond_true, mm_fN_eq, ej] at ho
      cases ho
      exact mm_G.st (fun Q cells slots H locs la _ _ _ hS _ kk => vk_getf hx hb (hT.1 j hj).2.2.1 hS hown hlink (fun _ h => h) hdg kk)
  · cases ho
theorem ms_sgc {own : String} {index : Nat} {SB : List (List Int32)} (hx : p.tables.exec = Jvm.exec) (hb : c.code = cc) (hown : s.vm.findClass own = some m.cls) (hT : mm_Tx f SB s) (hlink : (Cond.fieldLink own index "java/lang/String" "coder" "B").before args s = true) (hdg : decode cc pc = .ok (.getfield index, 3)) : mm_S p l e R s m args below meth c f D cl cA nL FP pc (a_sgc SB.length (pc + 3)) := by
  intro F _ ls st h o ho
  unfold a_sgc at ho
  split at ho
  · next i r =>
    cases hq : (Nat.ble 1100 i && Nat.blt (i - 1100) SB.length) with
    | false => rw [hq] at ho; cases ho
    | true =>
      rw [hq] at ho
      obtain ⟨j, rfl, hj, ej⟩ := mm_1100 hq
      cases ho
      exact mm_G.st (fun Q cells slots H locs la _ _ _ hS _ kk => vk_getf hx hb (hT.1 j hj).2.1 hS hown hlink (fun _ h => h) hdg kk)
  · cases ho
theorem ms_xlen {SB : List (List Int32)} (hx : p.tables.exec = Jvm.exec) (hb : c.code = cc) (hT : mm_Tx f SB s) (hdg : decode cc pc = .ok (.arraylength, 1)) : mm_S p l e R s m args below meth c f D cl cA nL FP pc (a_xlen SB (pc + 1)) := by
  intro F _ ls st h o ho
  unfold a_xlen at ho
  split at ho
  · next i r =>
    cases hq : Nat.ble 1200 i with
    | false => rw [hq] at ho; cases ho
    | true =>
      rw [hq] at ho
      simp only [cond_true] at ho
      split at ho
      · next xs hxs =>
        simp only [mm_fI_eq] at ho
        cases ho
        have hj : i - 1200 < SB.length := (List.getElem?_eq_some_iff.mp hxs).1
        have h1 : (1200 : Nat) ≤ i := Nat.le_of_ble_eq_true hq
        have e1 : f i = f (1200 + (i - 1200)) := by rw [Nat.add_sub_cancel' h1]
        have hv := (hT.1 _ hj).2.2.2
        have e2 : (SB.map List.length).getD (i - 1200) 0 = xs.length := by rw [List.getD_eq_getElem?_getD, List.getElem?_map, hxs]; rfl
        rw [e2] at hv
        refine mm_G.st (fun Q cells slots H locs la _ _ _ hS _ kk => ?_)
        show W p l e R s m args below meth c H locs cells slots Q (F0 m pc la (.ref (f i) :: _))
        rw [e1]
        exact va_tlen hx hb hv hS rfl hdg kk
      · cases ho
  · cases ho
theorem ms_xbl {SB : List (List Int32)} (hx : p.tables.exec = Jvm.exec) (hb : c.code = cc) (hT : mm_Tx f SB s) (hdg : decode cc pc = .ok (.baload, 1)) : mm_S p l e R s m args below meth c f D cl cA nL FP pc (a_xbl SB (pc + 1)) := by
  intro F _ ls st h o ho
  unfold a_xbl at ho
  split at ho
  · next j i r =>
    cases hq : (Nat.ble 1200 i && !(decide (j < 0))) with
    | false => rw [hq] at ho; cases ho
    | true =>
      rw [hq] at ho
      simp only [cond_true] at ho
      split at ho
      · next xs hxs =>
        split at ho
        · next v hv =>
          cases ho
          rw [Bool.and_eq_true] at hq
          have hj0 : ¬ j < 0 := by simpa using hq.2
          have hj : i - 1200 < SB.length := (List.getElem?_eq_some_iff.mp hxs).1
          have h1 : (1200 : Nat) ≤ i := Nat.le_of_ble_eq_true hq.1
          have e1 : f i = f (1200 + (i - 1200)) := by rw [Nat.add_sub_cancel' h1]
          have hl : j.toNatClampNeg < xs.length := (List.getElem?_eq_some_iff.mp hv).1
          have hw := (hT.1 _ hj).2.2.2
          have e2 : (SB.map List.length).getD (i - 1200) 0 = xs.length := by rw [List.getD_eq_getElem?_getD, List.getElem?_map, hxs]; rfl
          have e3 : SB.getD (i - 1200) [] = xs := by rw [List.getD_eq_getElem?_getD, hxs]; rfl
          rw [e2, e3] at hw
          refine mm_G.st (fun Q cells slots H locs la _ _ _ hS _ kk => ?_)
          show W p l e R s m args below meth c H locs cells slots Q (F0 m pc la (.int j :: .ref (f i) :: _))
          rw [e1]
          exact va_tb (v := .int v) hx hb hw hS (fun q => q.elim hj0 (fun q => by omega)) (by rw [List.getD_eq_getElem?_getD, hv]; rfl) hdg kk
        · cases ho
      · cases ho
  · cases ho
end MS9
section MS10
variable {p : Program} {l : Launch} {e : Env} {R : Room} {s : State} {m : MethodId} {args : Array Value} {below : List Frame} {meth : Method} {c : Code} {cc : ByteArray} {pc : Nat} {f : Nat → Nat} {D : va_G} {cl : List vw_C} {cA : FieldType → ClassId} {nL : Nat} {Y : Nat → MethodName} {WS : Nat → List Cond} {EX : State → Prop} {d : Nat}
theorem ms_ivX {own : String} {index k n maxL : Nat} {bytes : ByteArray} {ret : Option FieldType} {Ts ws' : List Cond} {SB : List (List Int32)} (hx : p.tables.exec = Jvm.exec) (hb : c.code = cc) (hml : c.maxLocals = nL) (hown : s.vm.findClass own = some m.cls) (hts : ∀ w ∈ Ts, w.before args s = true) (hgo : mm_go f EX) (hEX : EX s) (hTx : mm_Tx f SB s) (hT : GoodIn Ts (wsV own index "java/lang/String" (Y k) (WS k))) (hw : WS k = Cond.code (Y k) bytes maxL ret :: ws') (hd : (Y k).cls = "java/lang/String" ∧ (Y k).cls ≠ "java/lang/invoke/MethodHandle" ∧ (Y k).cls ≠ "java/lang/invoke/VarHandle" ∧ (parseMethodDescriptor (Y k).desc).map (fun d => d.parameters.length) = some n) (hR : d + 1 ≤ R.frames ∧ 8 + (maxL + 11) + 60 * d ≤ R.locals) (hdg : decode cc pc = .ok (.invokevirtual index, 3)) : mm_S p l e R s m args below meth c f D cl cA nL (mm_FP l Y WS f D cl cA EX d) pc (a_ivX SB.length k n (pc + 3)) := by
  intro F hF ls st h o ho
  obtain ⟨as, r0, hn, rfl, h0⟩ := mm_pop_eq n st [] _ ho
  clear ho
  have ho := h0
  rw [List.append_nil] at ho
  split at ho
  · next i r =>
    cases hq : (Nat.ble 1100 i && Nat.blt (i - 1100) SB.length && Nat.ble (mm_cat r) 8) with
    | false => rw [hq] at ho; cases ho
    | true =>
      rw [hq] at ho
      simp only [cond_true] at ho
      rw [Bool.and_eq_true] at hq
      obtain ⟨j, rfl, hj, -⟩ := mm_1100 hq.1
      split at ho
      · next h2 v hv =>
        cases ho
        obtain ⟨g1, g2, hM⟩ := hF k _ h h2 v hv
        refine ⟨g1, g2, fun Q cells slots c1 c2 H locs la hR' hS hL kk => ?_⟩
        have hp := mm_preS (as := .ref (1100 + j) :: as) hgo hEX hR' hS
        refine mm_back (h := h) (h2 := h2) (r := r) (v := v) hS (va_runV (C := "java/lang/String") (As := as.map (mm_e f)) (b := f (1100 + j)) (rest := r.map (mm_e f)) ⟨hx, hb, hml, hown, hts⟩ hM (cwV n hts hT hw rfl rfl hd hR) ⟨hp.1, vk_recv (adK := fun i => f (1100 + i)) (i := j) hTx hj hS, hp.2⟩ rfl (by rw [List.length_map]; exact hn) hL.1 (by simp; rfl) (lv_room (by rw [mm_e_cats]; exact Nat.le_of_ble_eq_true hq.2)) hdg ⟨c1, c2⟩) (fun H2 locs2 hR2 hS2 => kk H2 locs2 la hR2 hS2 hL)
      · cases ho
  · cases ho
end MS10
