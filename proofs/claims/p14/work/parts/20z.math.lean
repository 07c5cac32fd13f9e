/-! Math.max, Math.min; ldc_w -/
def a_mm (op : Int32 → Int32 → Int32) (nx : Nat) : mm_A := fun _ ls st h => match st with
  | .int y :: .int x :: r => bif Nat.ble (mm_cat r) 8 then mm_fI (op x y) (fun z => some (.inl (nx, ls, .int z :: r, h))) else none
  | _ => none
section MS10
variable {p : Program} {l : Launch} {e : Env} {R : Room} {s : State} {m : MethodId} {args : Array Value} {below : List Frame} {meth : Method} {c : Code} {cc : ByteArray} {pc : Nat} {f : Nat → Nat} {D : va_G} {cl : List vw_C} {cA : FieldType → ClassId} {nL : Nat} {FP : mm_F → Prop}
theorem ms_mm {op : Int32 → Int32 → Int32} {nx : Nat} (row : ∀ (Q : State → Prop) (cells slots : Nat) (H : Heap) (locs : List Loc) (la : Array Slot) (rest : List Value) (x y : Int32), cells ≤ R.cells → slots ≤ R.slots → la.size = nL → (rest.map fun v => v.category).sum ≤ 8 → W p l e R s m args below meth c H locs cells slots Q (F0 m nx la (.int (op x y) :: rest)) → W p l e R s m args below meth c H locs cells slots Q (F0 m pc la (.int y :: .int x :: rest))) : mm_S p l e R s m args below meth c f D cl cA nL FP pc (a_mm op nx) := by
  intro F _ ls st h o ho
  unfold a_mm at ho
  split at ho
  · next y x r =>
    cases hq : Nat.ble (mm_cat r) 8 with
    | false => rw [hq] at ho; cases ho
    | true =>
      rw [hq] at ho
      simp only [cond_true, mm_fI_eq] at ho
      cases ho
      exact mm_G.st (fun Q cells slots H locs la h1 h2 _ _ hL kk => row Q cells slots H locs la _ x y h1 h2 hL.1 (by rw [mm_e_cats]; exact Nat.le_of_ble_eq_true hq) kk)
  · cases ho
theorem ms_mmax {own : String} {index : Nat} (hx : p.tables.exec = Jvm.exec) (hb : c.code = cc) (hml : c.maxLocals = nL) (hown : s.vm.findClass own = some m.cls) (hlink : (Cond.methodLink own index Lib.Math.max.name).before args s = true) (hstat : (Cond.static Lib.Math.max.name).before args s = true) (hini : (Cond.initialized "java/lang/Math").before args s = true) (hcode : (Cond.code Lib.Math.max.name Lib.Math.max.code 2 (some .int)).before args s = true) (hfr : 1 ≤ R.frames) (hlo : 21 ≤ R.locals) (hdg : decode cc pc = .ok (.invokestatic index, 3)) : mm_S p l e R s m args below meth c f D cl cA nL FP pc (a_mm (fun x y => if x < y then y else x) (pc + 3)) :=
  ms_mm (fun _ _ _ _ _ _ _ _ _ h1 h2 h3 h4 k => va_mmax hx hb (hml.trans h3.symm) hown hlink hstat hini hcode hfr (by omega) h1 h2 hdg k)
theorem ms_mmin {own : String} {index : Nat} (hx : p.tables.exec = Jvm.exec) (hb : c.code = cc) (hml : c.maxLocals = nL) (hown : s.vm.findClass own = some m.cls) (hlink : (Cond.methodLink own index Lib.Math.min.name).before args s = true) (hstat : (Cond.static Lib.Math.min.name).before args s = true) (hini : (Cond.initialized "java/lang/Math").before args s = true) (hcode : (Cond.code Lib.Math.min.name Lib.Math.min.code 2 (some .int)).before args s = true) (hfr : 1 ≤ R.frames) (hlo : 21 ≤ R.locals) (hdg : decode cc pc = .ok (.invokestatic index, 3)) : mm_S p l e R s m args below meth c f D cl cA nL FP pc (a_mm (fun x y => if y < x then y else x) (pc + 3)) :=
  ms_mm (fun _ _ _ _ _ _ _ _ _ h1 h2 h3 h4 k => va_mmin hx hb (hml.trans h3.symm) hown hlink hstat hini hcode hfr (by omega) h1 h2 hdg k)
theorem ms_ldcw (hx : p.tables.exec = Jvm.exec) (hb : c.code = cc) {own : String} {index : Nat} {v : Int32} (hown : s.vm.findClass own = some m.cls) (hc : (Jvm.Cond.constant own index v).before args s = true) (hdg : decode cc pc = .ok (.ldc_w index, 3)) : mm_S p l e R s m args below meth c f D cl cA nL FP pc (a_int v (pc + 3)) := ms_int (fun _ _ _ _ _ _ _ k => lv_ldcw hx hb hown hc hdg k)
end MS10
