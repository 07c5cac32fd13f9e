section MS5
variable {p : Program} {l : Launch} {e : Env} {R : Room} {s : State} {m : MethodId} {args : Array Value} {below : List Frame} {meth : Method} {c : Code} {cc : ByteArray} {pc : Nat} {f : Nat → Nat} {D : va_G} {cl : List vw_C} {cA : FieldType → ClassId} {nL : Nat} {FP : mm_F → Prop}
theorem ms_alen {X : mm_X} (hx : p.tables.exec = Jvm.exec) (hb : c.code = cc) (hf : ∀ i, i < 512 → f i = f 0 + i) (hA : mm_Ar cA s) (hX : mm_Xt f X s) (hdg : decode cc pc = .ok (.arraylength, 1)) : mm_S p l e R s m args below meth c f D cl cA nL FP pc (a_alen X (pc + 1)) := by
  intro F _ ls st h o ho
  unfold a_alen at ho
  split at ho
  · next i r =>
    cases hi : Nat.blt i 1000 with
    | true =>
      rw [hi] at ho
      simp only [cond_true] at ho
      split at ho
      · next ty xs g =>
        cases ht : mm_ty ty with
        | false => rw [ht] at ho; cases ho
        | true =>
          rw [ht] at ho
          simp only [cond_true, mm_fI_eq] at ho
          cases ho
          exact mm_G.st (fun Q cells slots H locs la _ _ hR _ _ kk => W.alen hx hb (hR.arr hf g) ((hA ty ht).1 _ _) (by rw [arrV_size]) rfl rfl hdg kk)
      · cases ho
    | false =>
      rw [hi] at ho
      simp only [cond_false] at ho
      split at ho
      · next xs hxs =>
        simp only [mm_fI_eq] at ho
        cases ho
        have h1 : (1000 : Nat) ≤ i := Nat.le_of_not_lt (fun q => by rw [Nat.blt_eq.mpr q] at hi; cases hi)
        have e1 : f i = f (1000 + (i - 1000)) := by rw [Nat.add_sub_cancel' h1]
        refine mm_G.st (fun Q cells slots H locs la _ _ _ hS _ kk => ?_)
        show W p l e R s m args below meth c H locs cells slots Q (F0 m pc la (.ref (f i) :: _))
        rw [e1]
        exact va_tlen hx hb (hX _ _ hxs) hS rfl hdg kk
      · cases ho
  · cases ho
theorem ms_aald (hx : p.tables.exec = Jvm.exec) (hb : c.code = cc) (hf : ∀ i, i < 512 → f i = f 0 + i) (hA : mm_Ar cA s) (hdg : decode cc pc = .ok (.aaload, 1)) : mm_S p l e R s m args below meth c f D cl cA nL FP pc (a_aald (pc + 1)) := by
  intro F _ ls st h o ho
  unfold a_aald at ho
  split at ho
  · next j i r =>
    by_cases hj : j < 0
    · simp [hj] at ho
    · simp only [hj, decide_false, cond_false] at ho
      split at ho
      · next C xs g =>
        cases ht : mm_ty (.object C) with
        | false => rw [ht] at ho; cases ho
        | true =>
          rw [ht] at ho
          simp only [cond_true] at ho
          split at ho
          · next v hv =>
            cases ho
            have hlt : j.toNatClampNeg < xs.length := (List.getElem?_eq_some_iff.mp hv).1
            exact mm_G.st (fun Q cells slots H locs la _ _ hR _ _ kk => W.aald (v := .ref (f v)) hx hb (hR.arr hf g) ((hA _ ht).1 _ _) rfl (fun q => by cases q) (by rw [arrV_size]; exact fun q => q.elim hj (fun q => by omega)) (by rw [arrV_read _ _ hlt, mm_getD hv]; rfl) rfl rfl hdg kk)
          · cases ho
      · cases ho
  · cases ho
theorem ms_aast {C : String} {T : u_T} {N ci : Nat} {tys : List (ClassId × FieldType)} (hx : p.tables.exec = Jvm.exec) (hb : c.code = cc) (hf : ∀ i, i < 512 → f i = f 0 + i) (hA : mm_Ar cA s) (hK : va_K D cl tys s) (hC : mm_ty (.object C) = true) (hc : cl[ci]? = some (C, T, N)) (hdg : decode cc pc = .ok (.aastore, 1)) : mm_S p l e R s m args below meth c f D cl cA nL FP pc (a_aast C ci (pc + 1)) := by
  intro F _ ls st h o ho
  unfold a_aast at ho
  split at ho
  · next v j i r =>
    split at ho
    · next ty xs c2 fs g gv =>
      cases hq : (decide (ty = .object C) && Nat.beq c2 ci && mm_in j xs.length) with
      | false => rw [hq] at ho; cases ho
      | true =>
        rw [hq] at ho
        simp only [cond_true, mm_lK_eq, mm_hs, mm_setK_eq] at ho
        cases ho
        rw [Bool.and_eq_true, Bool.and_eq_true, decide_eq_true_eq] at hq
        obtain ⟨⟨rfl, h2⟩, h3⟩ := hq
        have e2 := mm_beq h2
        subst e2
        have hin := mm_in_ok h3
        refine mm_G.put (fun Q cells slots H locs la _ _ hR hS _ kk => ?_)
        have hi := (mm_hg_some g).1
        have ei : f i = f 0 + i := hf i (by have := hR.2.1; omega)
        obtain ⟨r0, hr0, cellV, g1, g2, g3, -⟩ := hR.obj hf gv 0 _ rfl
        have hcls := (hK.1 c2 _ hc).2
        obtain ⟨kA, comp, k1, k2, k3, -⟩ := (hA _ hC).2
        have hcomp : comp = D.1 c2 := Option.some.inj (k3.symm.trans hcls.1)
        subst hcomp
        obtain ⟨kC, hkC, -⟩ := hcls.2
        refine W.aast hx hb (hR.arr hf g) (fun q h => by cases h) (fun h => by cases h) k1 k2 rfl hkC ⟨hin.1, by rw [arrV_size]; exact hin.2⟩ g1 (fun q h => by rw [g3] at h; cases h) (by rw [g2]; exact hkC) (by rw [g2]; exact va_assign hcls) rfl rfl hdg fun H1 e1 e2 e3 => ?_
        refine kk H1 _ (hR.put hi e2 (fun q hq => e3 q (by rw [ei]; exact hq)) ?_) (hS.put e2 e3 (by show f 0 ≤ f i; omega))
        rw [← ei]
        exact mm_at_set hin.2 e1
    · cases ho
  · cases ho
theorem mm_G.push {ls : List (Option Value)} {st st2 : List Value} {h : mm_H} {t2 : mm_T 9} {pc2 n : Nat} (k : ∀ (Q : State → Prop) (cells slots : Nat) (H : Heap) (locs : List Loc) (la : Array Slot), cells + 1 ≤ R.cells → slots + n ≤ R.slots → mm_R f D cl cA h H → va_S (fun q => f 0 ≤ q) s.heap H locs → (∀ (H2 : Heap), mm_R f D cl cA (h.1 + 1, h.2.1 + n, t2) H2 → va_S (fun q => f 0 ≤ q) s.heap H2 locs → W p l e R s m args below meth c H2 locs (cells + 1) (slots + n) Q (F0 m pc2 la (st2.map (mm_e f)))) → W p l e R s m args below meth c H locs cells slots Q (F0 m pc la (st.map (mm_e f)))) : mm_G p l e R s m args below meth c f D cl cA nL pc ls st h (.inl (pc2, ls, st2, (h.1 + 1, h.2.1 + n, t2))) := by
  refine ⟨Nat.le_succ _, Nat.le_add_right _ _, fun Q cells slots h1 h2 H locs la hR hS hL kk => ?_⟩
  simp only [Nat.add_sub_cancel_left] at h1 h2 kk
  exact k Q cells slots H locs la h1 h2 hR hS (fun H2 hR2 hS2 => kk H2 locs la hR2 hS2 hL)
theorem mm_ad_eq {α : Type} {h : mm_H} {n : Nat} {cx : mm_C} {k : mm_H → Option α} {o : α} (ho : mm_ad h n cx k = some o) : h.1 < 512 ∧ k (h.1 + 1, h.2.1 + n, mm_set 9 h.2.2 h.1 cx) = some o := by
  unfold mm_ad at ho
  cases hq : Nat.blt h.1 512 with
  | false => rw [hq] at ho; cases ho
  | true =>
    rw [hq] at ho
    simp only [cond_true, mm_setK_eq, mm_fN_eq] at ho
    exact ⟨Nat.blt_eq.mp hq, ho⟩
theorem mm_e_nr {fs : List Value} (h : fs.all (fun v => decide (mm_e (fun _ => 0) v = v) && decide (mm_e (fun _ => 1) v = v)) = true) : fs.map (mm_e f) = fs := by
  conv => rhs; rw [← List.map_id fs]
  apply List.map_congr_left
  intro v hv
  have h1 := List.all_eq_true.mp h v hv
  cases v with
  | ref i =>
    rw [Bool.and_eq_true, decide_eq_true_eq, decide_eq_true_eq] at h1
    have a1 : Value.ref 0 = Value.ref i := h1.1
    have a2 : Value.ref 1 = Value.ref i := h1.2
    have := a1.trans a2.symm
    cases this
  | retAddr n =>
    rw [Bool.and_eq_true, decide_eq_true_eq, decide_eq_true_eq] at h1
    have a1 : Value.null = Value.retAddr n := h1.1
    cases a1
  | _ => rfl
theorem ms_new {own C : String} {T : u_T} {N ci index : Nat} {fs : List Value} {Ts : List Cond} {tys : List (ClassId × FieldType)} (hx : p.tables.exec = Jvm.exec) (hb : c.code = cc) (hf : ∀ i, i < 512 → f i = f 0 + i) (hts : ∀ w ∈ Ts, w.before args s = true) (hin : ∀ w ∈ u_ws C T N, w ∈ Ts) (ty0 : Nat → FieldType) (hty : ∀ k, k < N → parseFieldDescriptor (T k).2.2.1 = some (ty0 k)) (hown : s.vm.findClass own = some m.cls) (hcl : (Cond.classLink own index C).before args s = true) (hinst : (Cond.instantiable C N).before args s = true) (hini : (Cond.initialized C).before args s = true) (hK : va_K D cl tys s) (hc : cl[ci]? = some (C, T, N)) (hfs : ∀ j, j < N → defaultValue (ty0 j) = vp_V fs j) (hfn : fs.length = N) (hnr : fs.all (fun v => decide (mm_e (fun _ => 0) v = v) && decide (mm_e (fun _ => 1) v = v)) = true) (hdg : decode cc pc = .ok (.new index, 3)) : mm_S p l e R s m args below meth c f D cl cA nL FP pc (a_new ci fs (pc + 3)) := by
  intro F _ ls st h o ho
  obtain ⟨h9, ho⟩ := mm_ad_eq ho
  cases ho
  subst hfn
  refine mm_G.push (fun Q cells slots H locs la h1 h2 hR hS kk => ?_)
  have hKn := hK.1 ci _ hc
  have eh : f h.1 = H.size := by rw [hf _ h9, hR.1]
  refine W.newcK hx hb hown hcl hinst hini rfl hdg h1 h2 hKn.2.1 eh.symm fun H1 kC hkC e1 z1 o1 => ?_
  rw [eh] at e1 z1 o1
  refine kk H1 (hR.push h9 z1 o1 ?_) ⟨by have := hS.1; omega, fun q g1 g2 => (o1 q (Nat.lt_of_lt_of_le g1 hS.1)).trans (hS.2.1 q g1 g2), hS.2.2⟩
  refine ⟨(C, T, fs.length), hc, (u_born ty0 hts hin hKn hkC e1 hty).to (fun j hj => ?_)⟩
  show _ = vp_V (fs.map (mm_e f)) j
  rw [mm_e_nr hnr]
  exact hfs j hj
theorem ms_na {aty : ArrayType} {ty : FieldType} {dv : Value} (hx : p.tables.exec = Jvm.exec) (hb : c.code = cc) (hf : ∀ i, i < 512 → f i = f 0 + i) (hA : mm_Ar cA s) (hty : newarray.typeOf aty = ty) (harr : (Cond.arrayClass (newarray.typeOf aty)).before args s = true) (ht : mm_ty ty = true) (hnr : refKind ty = false) (hdv : defaultValue ty = dv) (hbs : componentBytes ty ≤ 8) (hdg : decode cc pc = .ok (.newarray aty, 2)) : mm_S p l e R s m args below meth c f D cl cA nL FP pc (a_na ty dv (pc + 2)) := by
  subst hty
  subst hdv
  intro F _ ls st h o ho
  unfold a_na at ho
  split at ho
  · next n r =>
    by_cases hn : n < 0
    · simp [hn] at ho
    · by_cases hn2 : (100000 : Int32) < n
      · simp [hn2] at ho
      · simp only [hn, hn2, decide_false, Bool.or_self, cond_false, mm_fN_eq] at ho
        obtain ⟨h9, ho⟩ := mm_ad_eq ho
        cases ho
        have hnb : n.toNatClampNeg ≤ 100000 := by
          have h1 : n ≤ 100000 := Int32.not_lt.mp hn2
          have h2 := Int32.le_iff_toInt_le.mp h1
          have h3 : (100000 : Int32).toInt = 100000 := by decide
          rw [h3] at h2
          show n.toInt.toNat ≤ 100000
          omega
        refine mm_G.push (fun Q cells slots H locs la h1 h2 hR hS kk => ?_)
        have eh : f h.1 = H.size := by rw [hf _ h9, hR.1]
        refine va_newaK hx hb harr rfl hdg rfl hn rfl (Nat.le_trans (Nat.mul_le_mul hnb hbs) (Nat.le_of_ble_eq_true rfl)) h1 h2 eh.symm fun H1 cB e1 z1 o1 _ hNm => ?_
        rw [eh] at e1 z1 o1
        have hcB : cB = cA (newarray.typeOf aty) := by
          have h5 := (hA _ ht).2
          have h6 : s.vm.findClass ("[" ++ (newarray.typeOf aty).toString) = some (cA (newarray.typeOf aty)) := by
            cases aty <;> exact h5
          exact Option.some.inj (hNm.symm.trans h6)
        refine kk H1 (hR.push h9 z1 o1 ?_) ⟨by have := hS.1; omega, fun q g1 g2 => (o1 q (Nat.lt_of_lt_of_le g1 hS.1)).trans (hS.2.1 q g1 g2), hS.2.2⟩
        show H1[H.size]? = some (arrV (cA (newarray.typeOf aty)) (List.replicate n.toNatClampNeg (defaultValue (newarray.typeOf aty))).length _)
        rw [e1, hcB, List.length_replicate]
        congr 1
        refine mm_arr_congr _ (fun j hj => ?_)
        rw [List.getD_eq_getElem?_getD, List.getElem?_replicate, if_pos hj]
        cases aty <;> rfl
  · cases ho
end MS5
