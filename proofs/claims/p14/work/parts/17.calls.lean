section MS6
variable {p : Program} {l : Launch} {e : Env} {R : Room} {s : State} {m : MethodId} {args : Array Value} {below : List Frame} {meth : Method} {c : Code} {cc : ByteArray} {pc : Nat} {f : Nat → Nat} {D : va_G} {cl : List vw_C} {cA : FieldType → ClassId} {nL : Nat} {FP : mm_F → Prop}
theorem ms_iret {ty : FieldType} (hx : p.tables.exec = Jvm.exec) (hb : c.code = cc) (hr : meth.sig.returnType = some ty) (hlocks : meth.locks = false) (hdg : decode cc pc = .ok (.ireturn, 1)) : mm_S p l e R s m args below meth c f D cl cA nL FP pc (a_iret ty) := by
  intro F _ ls st h o ho
  unfold a_iret at ho
  split at ho
  · next x =>
    cases hq : mm_fit ty (.int x) with
    | false => rw [hq] at ho; cases ho
    | true =>
      rw [hq] at ho
      cases ho
      exact ⟨rfl, fun Qc free H locs la cells slots h1 h2 => W.zret (v := x) hx hb hr (mm_fit_ok (f := f) hq).1 h1 h2 hdg hlocks⟩
  · cases ho
theorem ms_lret (hx : p.tables.exec = Jvm.exec) (hb : c.code = cc) (hr : meth.sig.returnType = some .long) (hlocks : meth.locks = false) (hdg : decode cc pc = .ok (.lreturn, 1)) : mm_S p l e R s m args below meth c f D cl cA nL FP pc a_lret := by
  intro F _ ls st h o ho
  unfold a_lret at ho
  split at ho
  · next x =>
    cases ho
    exact ⟨rfl, fun Qc free H locs la cells slots h1 h2 => W.lret (v := x) hx hb hr h1 h2 hdg hlocks⟩
  · cases ho
theorem ms_ret (hx : p.tables.exec = Jvm.exec) (hb : c.code = cc) (hr : meth.sig.returnType = none) (hlocks : meth.locks = false) (hdg : decode cc pc = .ok (.return_, 1)) : mm_S p l e R s m args below meth c f D cl cA nL FP pc a_ret := by
  intro F _ ls st h o ho
  unfold a_ret at ho
  split at ho
  · cases ho
    exact ⟨rfl, fun Qc free H locs la cells slots h1 h2 => W.vret hx hb hr h1 h2 hdg hlocks⟩
  · cases ho
theorem ms_oi {own : String} {index : Nat} (hx : p.tables.exec = Jvm.exec) (hb : c.code = cc) (hml : c.maxLocals = nL) (hown : s.vm.findClass own = some m.cls) (hlink : (Cond.methodLink own index Lib.objectInit).before args s = true) (hinst : (Cond.instanceMethod Lib.objectInit).before args s = true) (hcode : (Cond.code Lib.objectInit ⟨#[0xb1]⟩ 1 none).before args s = true) (hfr : 1 ≤ R.frames) (hlo : 20 ≤ R.locals) (hdg : decode cc pc = .ok (.invokespecial index, 3)) : mm_S p l e R s m args below meth c f D cl cA nL FP pc (a_oi (pc + 3)) := by
  intro F _ ls st h o ho
  unfold a_oi at ho
  split at ho
  · next i r =>
    cases hq : Nat.ble (mm_cat r) 8 with
    | false => rw [hq] at ho; cases ho
    | true =>
      rw [hq] at ho
      cases ho
      have h8 : mm_cat r ≤ 8 := Nat.le_of_ble_eq_true hq
      refine mm_G.st (fun Q cells slots H locs la _ _ _ _ hL kk => W.objInit hx hb hown hlink hinst hcode rfl (by rw [hml]; exact hL.1) rfl hdg hfr ?_ kk)
      show 2 * 0 + _ + 12 ≤ _
      rw [mm_e_cats]
      omega
  · cases ho
theorem ms_gs {own ref C n d : String} {index j : Nat} (hx : p.tables.exec = Jvm.exec) (hb : c.code = cc) (hown : s.vm.findClass own = some m.cls) (hZ : va_Z C n d (.ref (f (1000 + j))) (fun q => f 0 ≤ q) s s.heap) (hlink : (Cond.fieldLink own index ref n d).before args s = true) (hr : ref = C) (hdg : decode cc pc = .ok (.getstatic index, 3)) : mm_S p l e R s m args below meth c f D cl cA nL FP pc (a_gs j (pc + 3)) := by
  intro F _ ls st h o ho
  cases ho
  subst hr
  exact mm_G.st (fun Q cells slots H locs la _ _ _ hS _ kk => va_gets hx hb hZ hS hown hlink (fun _ h => h) hdg kk)
theorem ms_gsN {own ref C n d host : String} {index j : Nat} (hx : p.tables.exec = Jvm.exec) (hb : c.code = cc) (hown : s.vm.findClass own = some m.cls) (hZ : va_Z C n d (.ref (f (1000 + j))) (fun q => f 0 ≤ q) s s.heap) (hlink : (Cond.fieldLinkNest own index ref n d host).before args s = true) (hr : ref = C) (hdg : decode cc pc = .ok (.getstatic index, 3)) : mm_S p l e R s m args below meth c f D cl cA nL FP pc (a_gs j (pc + 3)) := by
  intro F _ ls st h o ho
  cases ho
  subst hr
  exact mm_G.st (fun Q cells slots H locs la _ _ _ hS _ kk => va_getsN hx hb hZ hS hown hlink (fun _ h => h) hdg kk)
theorem ms_gsi {own ref C n d : String} {index : Nat} {v : Int32} (hx : p.tables.exec = Jvm.exec) (hb : c.code = cc) (hown : s.vm.findClass own = some m.cls) (hZ : va_Z C n d (.int v) (fun q => f 0 ≤ q) s s.heap) (hlink : (Cond.fieldLink own index ref n d).before args s = true) (hr : ref = C) (hdg : decode cc pc = .ok (.getstatic index, 3)) : mm_S p l e R s m args below meth c f D cl cA nL FP pc (a_int v (pc + 3)) := by
  intro F _ ls st h o ho
  cases ho
  subst hr
  exact mm_G.st (fun Q cells slots H locs la _ _ _ hS _ kk => va_gets hx hb hZ hS hown hlink (fun _ h => h) hdg kk)
theorem mm_cp_len {xs ys : List Value} {sp dp n : Nat} (h1 : sp + n ≤ xs.length) (h2 : dp + n ≤ ys.length) : (mm_cp xs ys sp dp n).length = ys.length := by
  unfold mm_cp
  simp only [List.length_append, List.length_take, List.length_drop]
  omega
theorem mm_cp_get {xs ys : List Value} {sp dp n : Nat} (h1 : sp + n ≤ xs.length) (h2 : dp + n ≤ ys.length) (j : Nat) : (mm_cp xs ys sp dp n).getD j .null = va_cpy (fun q => xs.getD q .null) (fun q => ys.getD q .null) sp dp n j := by
  unfold mm_cp va_cpy
  simp only [List.getD_eq_getElem?_getD]
  congr 1
  by_cases hj : j < dp
  · rw [if_neg (by omega), List.getElem?_append_left (by rw [List.length_take]; omega), List.getElem?_take, if_pos hj]
  · rw [List.getElem?_append_right (by rw [List.length_take]; omega)]
    have e1 : j - (ys.take dp).length = j - dp := by rw [List.length_take]; omega
    rw [e1]
    have e2 : ((xs.drop sp).take n).length = n := by rw [List.length_take, List.length_drop]; omega
    by_cases hn : j < dp + n
    · rw [if_pos ⟨by omega, hn⟩, List.getElem?_append_left (by rw [e2]; omega), List.getElem?_take, if_pos (by omega), List.getElem?_drop]
    · rw [if_neg (by omega), List.getElem?_append_right (by rw [e2]; omega), e2, List.getElem?_drop]
      have e3 : dp + n + (j - dp - n) = j := by omega
      rw [e3]
theorem ms_ac {own : String} {index : Nat} (hx : p.tables.exec = Jvm.exec) (hb : c.code = cc) (hml : c.maxLocals = nL) (hf : ∀ i, i < 512 → f i = f 0 + i) (hA : mm_Ar cA s) (hown : s.vm.findClass own = some m.cls) (hlink : (Cond.methodLink own index arraycopyName).before args s = true) (hnat : (Cond.native arraycopyName).before args s = true) (hstat : (Cond.static arraycopyName).before args s = true) (hini : (Cond.initialized "java/lang/System").before args s = true) (hfr : 1 ≤ R.frames) (hlo : 8 + (nativeFrameWords "java/lang/System" "arraycopy" 5 + 11) ≤ R.locals) (hdg : decode cc pc = .ok (.invokestatic index, 3)) : mm_S p l e R s m args below meth c f D cl cA nL FP pc (a_ac (pc + 3)) := by
  have nn : ∀ z : Int32, ¬ z < 0 → z.toInt = (z.toNatClampNeg : Int) := by
    intro z hz
    have hz0 : (0 : Int) ≤ z.toInt := by
      have := Int32.not_lt.mp hz
      simpa using Int32.le_iff_toInt_le.mp this
    show z.toInt = ((z.toInt.toNat : Nat) : Int)
    omega
  intro F _ ls st h o ho
  unfold a_ac at ho
  split at ho
  · next n dp d sp b r =>
    split at ho
    · next xs ys gb gd =>
      cases hq : (Nat.ble (mm_cat r) 8 && !(decide (n < 0)) && !(decide (dp < 0)) && !(decide (sp < 0)) && Nat.ble (sp.toNatClampNeg + n.toNatClampNeg) xs.length && Nat.ble (dp.toNatClampNeg + n.toNatClampNeg) ys.length && (xs.all (mm_fit .int))) with
      | false => rw [hq] at ho; cases ho
      | true =>
        rw [hq] at ho
        simp only [cond_true, mm_hs, mm_setK_eq] at ho
        cases ho
        simp only [Bool.and_eq_true, Bool.not_eq_true', decide_eq_false_iff_not] at hq
        obtain ⟨⟨⟨⟨⟨⟨h8, h3⟩, h2⟩, h1⟩, h4⟩, h5⟩, hall⟩ := hq
        have h8 := Nat.le_of_ble_eq_true h8
        have h4 := Nat.le_of_ble_eq_true h4
        have h5 := Nat.le_of_ble_eq_true h5
        refine mm_G.put (fun Q cells slots H locs la _ _ hR hS hL kk => ?_)
        have hi := (mm_hg_some gd).1
        have ei : f d = f 0 + d := hf d (by have := hR.2.1; omega)
        intro T hT X
        have hc0 := hR.arr hf gb
        have hc1 := hR.arr hf gd
        obtain ⟨-, k0, hk0, cm0, hkk0⟩ := (hA .int rfl).1 xs.length (fun j => mm_e f (xs.getD j .null))
        obtain ⟨-, k1, hk1, cm1, hkk1⟩ := (hA .int rfl).1 ys.length (fun j => mm_e f (ys.getD j .null))
        obtain ⟨vm', X', step⟩ := X.arraycopy hx hown hlink hnat hstat hini (src := f b) (dst := f d) (cs := arrV (cA .int) xs.length (fun j => mm_e f (xs.getD j .null))) (cd := arrV (cA .int) ys.length (fun j => mm_e f (ys.getD j .null))) (srcPos := sp) (destPos := dp) (n := n) (by rw [hT]; exact hc0) (by rw [hT]; exact hc1)
          (fun _ h => by cases h) (fun _ h => by cases h) (fun h => by cases h) (fun h => by cases h) hk0 hk1 hkk0 hkk1 (by simp [refKind]) h1 h2 h3
          (by rw [nn sp h1, nn n h3, arrV_size]; omega)
          (by rw [nn dp h2, nn n h3, arrV_size]; omega)
          (fun vm₁ _ i hi => by
            have hlt : sp.toNatClampNeg + i < xs.length := by omega
            have e9 : (arrV (cA .int) xs.length (fun j => mm_e f (xs.getD j .null))).slots.getD (sp.toNatClampNeg + i) .null = mm_e f (xs.getD (sp.toNatClampNeg + i) .null) := by
              rw [Array.getD_eq_getD_getElem?, arrV_read _ _ hlt]
              rfl
            have h7 : mm_fit .int (xs.getD (sp.toNatClampNeg + i) .null) = true := by
              rw [List.getD_eq_getElem?_getD, List.getElem?_eq_getElem hlt]
              exact List.all_eq_true.mp hall _ (List.getElem_mem hlt)
            rw [e9]
            refine ⟨(mm_fit_ok (f := f) h7).2, ?_⟩
            revert h7
            cases xs.getD (sp.toNatClampNeg + i) .null with
            | int z => exact fun _ => trivial
            | _ => intro h7; cases h7)
          (g := F0 m pc la (.int n :: .int dp :: .ref (f d) :: .int sp :: .ref (f b) :: r.map (mm_e f))) rfl (by rw [hml]; exact hL.1) (rest := r.map (mm_e f)) rfl (by rw [hb]; exact hdg) hfr (by show 2 * 0 + _ + _ ≤ _; rw [mm_e_cats]; omega)
        have e1 : copied (arrV (cA .int) xs.length (fun j => mm_e f (xs.getD j .null))) (arrV (cA .int) ys.length (fun j => mm_e f (ys.getD j .null))) sp dp n = arrV (cA .int) (mm_cp xs ys sp.toNatClampNeg dp.toNatClampNeg n.toNatClampNeg).length (fun j => mm_e f ((mm_cp xs ys sp.toNatClampNeg dp.toNatClampNeg n.toNatClampNeg).getD j .null)) := by
          rw [mm_cp_len h4 h5]
          refine (va_copied (mm_e f) (cA .int) (cA .int) (fun j => xs.getD j .null) (fun j => ys.getD j .null) h4).trans ?_
          congr 1
          funext j
          rw [mm_cp_get h4 h5]
        rw [e1] at X' step
        have hl : f d < H.size := (Array.getElem?_eq_some_iff.mp hc1).1
        have hheap : ∀ x : Cell, ((T.setVm vm').setCell (f d) x).heap = H.setIfInBounds (f d) x := fun x => by rw [← hT]; rfl
        have oq : ∀ (x : Cell) (q : Nat), q ≠ f d → (H.setIfInBounds (f d) x)[q]? = H[q]? := fun x q hq => by simp [Array.getElem?_setIfInBounds, Ne.symm hq]
        obtain ⟨t, a1, b1⟩ := kk _ _ (hR.put (H1 := H.setIfInBounds (f d) _) hi (by simp) (fun q hq => oq _ q (by rw [ei]; exact hq)) (by rw [← ei]; show (H.setIfInBounds (f d) _)[f d]? = some _; simp [Array.getElem?_setIfInBounds, hl])) ⟨by simp; exact hS.1, fun q g1 g2 => by
            rw [oq _ q (fun e => g2 (by show f 0 ≤ q; rw [e, ei]; omega))]
            exact hS.2.1 q g1 g2, fun q hq => by
            rcases List.mem_append.mp hq with h | h
            · exact hS.2.2 q h
            · obtain ⟨z, -, hz⟩ := List.mem_map.mp h
              rw [← hz]
              show f 0 ≤ f d
              omega⟩ _ (hheap _) X'
        exact ⟨t, step t a1, b1⟩
    · cases ho
  · cases ho
end MS6
