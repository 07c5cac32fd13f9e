section MS2
variable {p : Program} {l : Launch} {e : Env} {R : Room} {s : State} {m : MethodId} {args : Array Value} {below : List Frame} {meth : Method} {c : Code} {cc : ByteArray} {pc : Nat} {f : Nat → Nat} {D : va_G} {cl : List vw_C} {cA : FieldType → ClassId} {nL : Nat} {FP : mm_F → Prop}
theorem ms_il {i nx : Nat} (row : ∀ (Q : State → Prop) (cells slots : Nat) (H : Heap) (locs : List Loc) (la : Array Slot) (rest : List Value) (x : Int32), la[i]? = some (.val (.int x)) → W p l e R s m args below meth c H locs cells slots Q (F0 m nx la (.int x :: rest)) → W p l e R s m args below meth c H locs cells slots Q (F0 m pc la rest)) : mm_S p l e R s m args below meth c f D cl cA nL FP pc (a_iload i nx) := by
  intro F _ ls st h o ho
  unfold a_iload at ho
  split at ho
  · next x hx =>
    cases ho
    exact mm_G.st (fun Q cells slots H locs la _ _ _ _ hL kk => row Q cells slots H locs la _ x (hL.2.2 i _ hx) kk)
  · cases ho
theorem ms_ll {i nx : Nat} (row : ∀ (Q : State → Prop) (cells slots : Nat) (H : Heap) (locs : List Loc) (la : Array Slot) (rest : List Value) (x : Int64), la[i]? = some (.val (.long x)) → W p l e R s m args below meth c H locs cells slots Q (F0 m nx la (.long x :: rest)) → W p l e R s m args below meth c H locs cells slots Q (F0 m pc la rest)) : mm_S p l e R s m args below meth c f D cl cA nL FP pc (a_lload i nx) := by
  intro F _ ls st h o ho
  unfold a_lload at ho
  split at ho
  · next x hx =>
    cases ho
    exact mm_G.st (fun Q cells slots H locs la _ _ _ _ hL kk => row Q cells slots H locs la _ x (hL.2.2 i _ hx) kk)
  · cases ho
theorem ms_al {i nx : Nat} (row : ∀ (Q : State → Prop) (cells slots : Nat) (H : Heap) (locs : List Loc) (la : Array Slot) (rest : List Value) (x : Nat), la[i]? = some (.val (.ref x)) → W p l e R s m args below meth c H locs cells slots Q (F0 m nx la (.ref x :: rest)) → W p l e R s m args below meth c H locs cells slots Q (F0 m pc la rest)) : mm_S p l e R s m args below meth c f D cl cA nL FP pc (a_aload i nx) := by
  intro F _ ls st h o ho
  unfold a_aload at ho
  split at ho
  · next x hx =>
    cases ho
    exact mm_G.st (fun Q cells slots H locs la _ _ _ _ hL kk => row Q cells slots H locs la _ (f x) (hL.2.2 i _ hx) kk)
  · cases ho
theorem ms_iload_n (hx : p.tables.exec = Jvm.exec) (hb : c.code = cc) {k : Fin 4} {i : Nat} (hi : (k : Nat) = i) (hdg : decode cc pc = .ok (.iload_n k, 1)) : mm_S p l e R s m args below meth c f D cl cA nL FP pc (a_iload i (pc + 1)) := ms_il (fun _ _ _ _ _ _ _ _ hl k => lv_iload_n hx hb hdg hi hl k)
theorem ms_iload (hx : p.tables.exec = Jvm.exec) (hb : c.code = cc) {i : Nat} (hdg : decode cc pc = .ok (.iload i, 2)) : mm_S p l e R s m args below meth c f D cl cA nL FP pc (a_iload i (pc + 2)) := ms_il (fun _ _ _ _ _ _ _ _ hl k => lv_iload hx hb hdg hl k)
theorem ms_lload_n (hx : p.tables.exec = Jvm.exec) (hb : c.code = cc) {k : Fin 4} {i : Nat} (hi : (k : Nat) = i) (hdg : decode cc pc = .ok (.lload_n k, 1)) : mm_S p l e R s m args below meth c f D cl cA nL FP pc (a_lload i (pc + 1)) := ms_ll (fun _ _ _ _ _ _ _ _ hl k => lv_lload_n hx hb hdg hi hl k)
theorem ms_lload (hx : p.tables.exec = Jvm.exec) (hb : c.code = cc) {i : Nat} (hdg : decode cc pc = .ok (.lload i, 2)) : mm_S p l e R s m args below meth c f D cl cA nL FP pc (a_lload i (pc + 2)) := ms_ll (fun _ _ _ _ _ _ _ _ hl k => lv_lload hx hb hdg hl k)
theorem ms_aload_n (hx : p.tables.exec = Jvm.exec) (hb : c.code = cc) {k : Fin 4} {i : Nat} (hi : (k : Nat) = i) (hdg : decode cc pc = .ok (.aload_n k, 1)) : mm_S p l e R s m args below meth c f D cl cA nL FP pc (a_aload i (pc + 1)) := ms_al (fun _ _ _ _ _ _ _ _ hl k => lv_aload_n hx hb hdg hi hl k)
theorem ms_aload (hx : p.tables.exec = Jvm.exec) (hb : c.code = cc) {i : Nat} (hdg : decode cc pc = .ok (.aload i, 2)) : mm_S p l e R s m args below meth c f D cl cA nL FP pc (a_aload i (pc + 2)) := ms_al (fun _ _ _ _ _ _ _ _ hl k => lv_aload hx hb hdg hl k)
theorem ms_istore_n (hx : p.tables.exec = Jvm.exec) (hb : c.code = cc) {k : Fin 4} {i : Nat} (hi : (k : Nat) = i) (hn : i < nL) (hdg : decode cc pc = .ok (.istore_n k, 1)) : mm_S p l e R s m args below meth c f D cl cA nL FP pc (a_istore i (pc + 1)) := by
  intro F _ ls st h o ho
  unfold a_istore at ho
  split at ho
  · simp only [mm_lK_eq] at ho
    cases ho
    exact mm_G.same (fun Q cells slots H locs la _ _ _ _ hL kk => lv_istore_n hx hb hdg hi hL.has hn rfl (fun l2 h2 => kk l2 (mm_L.st1 h2)))
  · cases ho
theorem ms_istore (hx : p.tables.exec = Jvm.exec) (hb : c.code = cc) {i : Nat} (hn : i < nL) (hdg : decode cc pc = .ok (.istore i, 2)) : mm_S p l e R s m args below meth c f D cl cA nL FP pc (a_istore i (pc + 2)) := by
  intro F _ ls st h o ho
  unfold a_istore at ho
  split at ho
  · simp only [mm_lK_eq] at ho
    cases ho
    exact mm_G.same (fun Q cells slots H locs la _ _ _ _ hL kk => lv_istore hx hb hdg hL.has hn rfl (fun l2 h2 => kk l2 (mm_L.st1 h2)))
  · cases ho
theorem ms_astore_n (hx : p.tables.exec = Jvm.exec) (hb : c.code = cc) {k : Fin 4} {i : Nat} (hi : (k : Nat) = i) (hn : i < nL) (hdg : decode cc pc = .ok (.astore_n k, 1)) : mm_S p l e R s m args below meth c f D cl cA nL FP pc (a_astore i (pc + 1)) := by
  intro F _ ls st h o ho
  unfold a_astore at ho
  split at ho
  · next x r =>
    simp only [mm_lK_eq] at ho
    cases ho
    exact mm_G.same (fun Q cells slots H locs la _ _ _ _ hL kk => lv_astore_n (x := f x) hx hb hdg hi hL.has hn rfl (fun l2 h2 => kk l2 (mm_L.st1 (v := .ref x) h2)))
  · cases ho
theorem ms_astore (hx : p.tables.exec = Jvm.exec) (hb : c.code = cc) {i : Nat} (hn : i < nL) (hdg : decode cc pc = .ok (.astore i, 2)) : mm_S p l e R s m args below meth c f D cl cA nL FP pc (a_astore i (pc + 2)) := by
  intro F _ ls st h o ho
  unfold a_astore at ho
  split at ho
  · next x r =>
    simp only [mm_lK_eq] at ho
    cases ho
    exact mm_G.same (fun Q cells slots H locs la _ _ _ _ hL kk => lv_astore (x := f x) hx hb hdg hL.has hn rfl (fun l2 h2 => kk l2 (mm_L.st1 (v := .ref x) h2)))
  · cases ho
theorem ms_lstore_n (hx : p.tables.exec = Jvm.exec) (hb : c.code = cc) {k : Fin 4} {i : Nat} (hi : (k : Nat) = i) (hn : i + 1 < nL) (hdg : decode cc pc = .ok (.lstore_n k, 1)) : mm_S p l e R s m args below meth c f D cl cA nL FP pc (a_lstore i (pc + 1)) := by
  intro F _ ls st h o ho
  unfold a_lstore at ho
  split at ho
  · simp only [mm_lK_eq] at ho
    cases ho
    exact mm_G.same (fun Q cells slots H locs la _ _ _ _ hL kk => lv_lstore_n hx hb hdg hi hL.has hn rfl (fun l2 h2 => kk l2 (mm_L.st2 h2)))
  · cases ho
theorem ms_lstore (hx : p.tables.exec = Jvm.exec) (hb : c.code = cc) {i : Nat} (hn : i + 1 < nL) (hdg : decode cc pc = .ok (.lstore i, 2)) : mm_S p l e R s m args below meth c f D cl cA nL FP pc (a_lstore i (pc + 2)) := by
  intro F _ ls st h o ho
  unfold a_lstore at ho
  split at ho
  · simp only [mm_lK_eq] at ho
    cases ho
    exact mm_G.same (fun Q cells slots H locs la _ _ _ _ hL kk => lv_lstore hx hb hdg hL.has hn rfl (fun l2 h2 => kk l2 (mm_L.st2 h2)))
  · cases ho
theorem ms_iinc (hx : p.tables.exec = Jvm.exec) (hb : c.code = cc) {i : Nat} {n : Int} {v : Int32} (hv : Int32.ofInt n = v) (hn : i < nL) (hdg : decode cc pc = .ok (.iinc i n, 3)) : mm_S p l e R s m args below meth c f D cl cA nL FP pc (a_iinc i v (pc + 3)) := by
  subst hv
  intro F _ ls st h o ho
  unfold a_iinc at ho
  split at ho
  · next x hx1 =>
    simp only [mm_fI_eq, mm_lK_eq] at ho
    cases ho
    refine mm_G.same (fun Q cells slots H locs la _ _ _ _ hL kk => ?_)
    obtain ⟨k, hk⟩ := List.getElem?_of_mem (mm_ps_mem (f := f) (q := (i, .int x)).mpr ⟨.int x, hx1, rfl⟩)
    exact lv_iinc hx hb hdg hL.has hk rfl hn rfl (fun l2 h2 => kk l2 (mm_L.st1 (v := .int (x + Int32.ofInt n)) h2))
  · cases ho
theorem ms_i1 {op : Int32 → Int32} {nx : Nat} (row : ∀ (Q : State → Prop) (cells slots : Nat) (H : Heap) (locs : List Loc) (la : Array Slot) (rest : List Value) (x : Int32), W p l e R s m args below meth c H locs cells slots Q (F0 m nx la (.int (op x) :: rest)) → W p l e R s m args below meth c H locs cells slots Q (F0 m pc la (.int x :: rest))) : mm_S p l e R s m args below meth c f D cl cA nL FP pc (a_i1 op nx) := by
  intro F _ ls st h o ho
  unfold a_i1 at ho
  split at ho
  · next x r =>
    simp only [mm_fI_eq] at ho
    cases ho
    exact mm_G.st (fun Q cells slots H locs la _ _ _ _ _ kk => row Q cells slots H locs la _ x kk)
  · cases ho
theorem ms_i2 {op : Int32 → Int32 → Int32} {nx : Nat} (row : ∀ (Q : State → Prop) (cells slots : Nat) (H : Heap) (locs : List Loc) (la : Array Slot) (rest : List Value) (x y : Int32), W p l e R s m args below meth c H locs cells slots Q (F0 m nx la (.int (op x y) :: rest)) → W p l e R s m args below meth c H locs cells slots Q (F0 m pc la (.int y :: .int x :: rest))) : mm_S p l e R s m args below meth c f D cl cA nL FP pc (a_i2 op nx) := by
  intro F _ ls st h o ho
  unfold a_i2 at ho
  split at ho
  · next y x r =>
    simp only [mm_fI_eq] at ho
    cases ho
    exact mm_G.st (fun Q cells slots H locs la _ _ _ _ _ kk => row Q cells slots H locs la _ x y kk)
  · cases ho
theorem ms_id {op : Int32 → Int32 → Int32} {nx : Nat} (row : ∀ (Q : State → Prop) (cells slots : Nat) (H : Heap) (locs : List Loc) (la : Array Slot) (rest : List Value) (x y : Int32), ¬ y = 0 → W p l e R s m args below meth c H locs cells slots Q (F0 m nx la (.int (op x y) :: rest)) → W p l e R s m args below meth c H locs cells slots Q (F0 m pc la (.int y :: .int x :: rest))) : mm_S p l e R s m args below meth c f D cl cA nL FP pc (a_id op nx) := by
  intro F _ ls st h o ho
  unfold a_id at ho
  split at ho
  · next y x r =>
    simp only [mm_fI_eq] at ho
    by_cases hy : y = 0
    · simp [hy] at ho
    · simp only [hy, decide_false, cond_false] at ho
      cases ho
      exact mm_G.st (fun Q cells slots H locs la _ _ _ _ _ kk => row Q cells slots H locs la _ x y hy kk)
  · cases ho
theorem ms_l2 {op : Int64 → Int64 → Int64} {nx : Nat} (row : ∀ (Q : State → Prop) (cells slots : Nat) (H : Heap) (locs : List Loc) (la : Array Slot) (rest : List Value) (x y : Int64), W p l e R s m args below meth c H locs cells slots Q (F0 m nx la (.long (op x y) :: rest)) → W p l e R s m args below meth c H locs cells slots Q (F0 m pc la (.long y :: .long x :: rest))) : mm_S p l e R s m args below meth c f D cl cA nL FP pc (a_l2 op nx) := by
  intro F _ ls st h o ho
  unfold a_l2 at ho
  split at ho
  · next y x r =>
    simp only [mm_fL_eq] at ho
    cases ho
    exact mm_G.st (fun Q cells slots H locs la _ _ _ _ _ kk => row Q cells slots H locs la _ x y kk)
  · cases ho
theorem ms_iadd (hx : p.tables.exec = Jvm.exec) (hb : c.code = cc) (hdg : decode cc pc = .ok (.iadd, 1)) : mm_S p l e R s m args below meth c f D cl cA nL FP pc (a_i2 (fun x y => x + y) (pc + 1)) := ms_i2 (fun _ _ _ _ _ _ _ _ _ k => lv_iadd hx hb hdg k)
theorem ms_isub (hx : p.tables.exec = Jvm.exec) (hb : c.code = cc) (hdg : decode cc pc = .ok (.isub, 1)) : mm_S p l e R s m args below meth c f D cl cA nL FP pc (a_i2 (fun x y => x - y) (pc + 1)) := ms_i2 (fun _ _ _ _ _ _ _ _ _ k => lv_isub hx hb hdg k)
theorem ms_imul (hx : p.tables.exec = Jvm.exec) (hb : c.code = cc) (hdg : decode cc pc = .ok (.imul, 1)) : mm_S p l e R s m args below meth c f D cl cA nL FP pc (a_i2 (fun x y => x * y) (pc + 1)) := ms_i2 (fun _ _ _ _ _ _ _ _ _ k => lv_imul hx hb hdg k)
theorem ms_iand (hx : p.tables.exec = Jvm.exec) (hb : c.code = cc) (hdg : decode cc pc = .ok (.iand, 1)) : mm_S p l e R s m args below meth c f D cl cA nL FP pc (a_i2 (fun x y => x &&& y) (pc + 1)) := ms_i2 (fun _ _ _ _ _ _ _ _ _ k => lv_iand hx hb hdg k)
theorem ms_ior (hx : p.tables.exec = Jvm.exec) (hb : c.code = cc) (hdg : decode cc pc = .ok (.ior, 1)) : mm_S p l e R s m args below meth c f D cl cA nL FP pc (a_i2 (fun x y => x ||| y) (pc + 1)) := ms_i2 (fun _ _ _ _ _ _ _ _ _ k => lv_ior hx hb hdg k)
theorem ms_ixor (hx : p.tables.exec = Jvm.exec) (hb : c.code = cc) (hdg : decode cc pc = .ok (.ixor, 1)) : mm_S p l e R s m args below meth c f D cl cA nL FP pc (a_i2 (fun x y => x ^^^ y) (pc + 1)) := ms_i2 (fun _ _ _ _ _ _ _ _ _ k => lv_ixor hx hb hdg k)
theorem ms_ishl (hx : p.tables.exec = Jvm.exec) (hb : c.code = cc) (hdg : decode cc pc = .ok (.ishl, 1)) : mm_S p l e R s m args below meth c f D cl cA nL FP pc (a_i2 (fun x y => x <<< (y &&& 31)) (pc + 1)) := ms_i2 (fun _ _ _ _ _ _ _ _ _ k => lv_ishl hx hb hdg k)
theorem ms_ishr (hx : p.tables.exec = Jvm.exec) (hb : c.code = cc) (hdg : decode cc pc = .ok (.ishr, 1)) : mm_S p l e R s m args below meth c f D cl cA nL FP pc (a_i2 (fun x y => x >>> (y &&& 31)) (pc + 1)) := ms_i2 (fun _ _ _ _ _ _ _ _ _ k => lv_ishr hx hb hdg k)
theorem ms_iushr (hx : p.tables.exec = Jvm.exec) (hb : c.code = cc) (hdg : decode cc pc = .ok (.iushr, 1)) : mm_S p l e R s m args below meth c f D cl cA nL FP pc (a_i2 (fun x y => (x.toUInt32 >>> (y.toUInt32 &&& Int32.toUInt32 31)).toInt32) (pc + 1)) := ms_i2 (fun _ _ _ _ _ _ _ _ _ k => lv_iushr hx hb hdg rfl k)
theorem ms_idiv (hx : p.tables.exec = Jvm.exec) (hb : c.code = cc) (hdg : decode cc pc = .ok (.idiv, 1)) : mm_S p l e R s m args below meth c f D cl cA nL FP pc (a_id (fun x y => x / y) (pc + 1)) := ms_id (fun _ _ _ _ _ _ _ _ _ hy k => lv_idiv hx hb hdg hy k)
theorem ms_irem (hx : p.tables.exec = Jvm.exec) (hb : c.code = cc) (hdg : decode cc pc = .ok (.irem, 1)) : mm_S p l e R s m args below meth c f D cl cA nL FP pc (a_id (fun x y => x - x / y * y) (pc + 1)) := ms_id (fun _ _ _ _ _ _ _ _ _ hy k => lv_irem hx hb hdg hy k)
theorem ms_ineg (hx : p.tables.exec = Jvm.exec) (hb : c.code = cc) (hdg : decode cc pc = .ok (.ineg, 1)) : mm_S p l e R s m args below meth c f D cl cA nL FP pc (a_i1 (fun x => -x) (pc + 1)) := ms_i1 (fun _ _ _ _ _ _ _ _ k => lv_ineg hx hb hdg k)
theorem ms_i2b (hx : p.tables.exec = Jvm.exec) (hb : c.code = cc) (hdg : decode cc pc = .ok (.i2b, 1)) : mm_S p l e R s m args below meth c f D cl cA nL FP pc (a_i1 (fun x => x.toInt8.toInt32) (pc + 1)) := ms_i1 (fun _ _ _ _ _ _ _ _ k => lv_i2b hx hb hdg rfl k)
theorem ms_i2c (hx : p.tables.exec = Jvm.exec) (hb : c.code = cc) (hdg : decode cc pc = .ok (.i2c, 1)) : mm_S p l e R s m args below meth c f D cl cA nL FP pc (a_i1 (fun x => (x.toUInt32 % 65536).toInt32) (pc + 1)) := ms_i1 (fun _ _ _ _ _ _ _ _ k => lv_i2c hx hb hdg rfl k)
theorem ms_ladd (hx : p.tables.exec = Jvm.exec) (hb : c.code = cc) (hdg : decode cc pc = .ok (.ladd, 1)) : mm_S p l e R s m args below meth c f D cl cA nL FP pc (a_l2 (fun x y => x + y) (pc + 1)) := ms_l2 (fun _ _ _ _ _ _ _ _ _ k => lv_ladd hx hb hdg k)
theorem ms_lsub (hx : p.tables.exec = Jvm.exec) (hb : c.code = cc) (hdg : decode cc pc = .ok (.lsub, 1)) : mm_S p l e R s m args below meth c f D cl cA nL FP pc (a_l2 (fun x y => x - y) (pc + 1)) := ms_l2 (fun _ _ _ _ _ _ _ _ _ k => lv_lsub hx hb hdg k)
theorem ms_lmul (hx : p.tables.exec = Jvm.exec) (hb : c.code = cc) (hdg : decode cc pc = .ok (.lmul, 1)) : mm_S p l e R s m args below meth c f D cl cA nL FP pc (a_l2 (fun x y => x * y) (pc + 1)) := ms_l2 (fun _ _ _ _ _ _ _ _ _ k => lv_lmul hx hb hdg k)
theorem ms_lcmp (hx : p.tables.exec = Jvm.exec) (hb : c.code = cc) (hdg : decode cc pc = .ok (.lcmp, 1)) : mm_S p l e R s m args below meth c f D cl cA nL FP pc (a_lcmp (pc + 1)) := by
  intro F _ ls st h o ho
  unfold a_lcmp at ho
  split at ho
  · simp only [mm_fI_eq] at ho
    cases ho
    exact mm_G.st (fun Q cells slots H locs la _ _ _ _ _ kk => W.lcmp hx hb hdg kk)
  · cases ho
theorem ms_i2l (hx : p.tables.exec = Jvm.exec) (hb : c.code = cc) (hdg : decode cc pc = .ok (.i2l, 1)) : mm_S p l e R s m args below meth c f D cl cA nL FP pc (a_i2l (pc + 1)) := by
  intro F _ ls st h o ho
  unfold a_i2l at ho
  split at ho
  · simp only [mm_fL_eq] at ho
    cases ho
    exact mm_G.st (fun Q cells slots H locs la _ _ _ _ _ kk => lv_i2l hx hb hdg rfl kk)
  · cases ho
theorem ms_l2i (hx : p.tables.exec = Jvm.exec) (hb : c.code = cc) (hdg : decode cc pc = .ok (.l2i, 1)) : mm_S p l e R s m args below meth c f D cl cA nL FP pc (a_l2i (pc + 1)) := by
  intro F _ ls st h o ho
  unfold a_l2i at ho
  split at ho
  · simp only [mm_fI_eq] at ho
    cases ho
    exact mm_G.st (fun Q cells slots H locs la _ _ _ _ _ kk => lv_l2i hx hb hdg rfl kk)
  · cases ho
theorem ms_if {t : Int32 → Bool} {tgt nx : Nat} (row : ∀ (Q : State → Prop) (cells slots : Nat) (H : Heap) (locs : List Loc) (la : Array Slot) (rest : List Value) (x : Int32), (t x = true → W p l e R s m args below meth c H locs cells slots Q (F0 m tgt la rest)) → (t x = false → W p l e R s m args below meth c H locs cells slots Q (F0 m nx la rest)) → W p l e R s m args below meth c H locs cells slots Q (F0 m pc la (.int x :: rest))) : mm_S p l e R s m args below meth c f D cl cA nL FP pc (a_if t tgt nx) := by
  intro F _ ls st h o ho
  unfold a_if at ho
  split at ho
  · next x r =>
    cases hb : t x with
    | true =>
      rw [hb] at ho
      cases ho
      exact mm_G.st (fun Q cells slots H locs la _ _ _ _ _ kk => row Q cells slots H locs la _ x (fun _ => kk) (fun h => by rw [hb] at h; cases h))
    | false =>
      rw [hb] at ho
      cases ho
      exact mm_G.st (fun Q cells slots H locs la _ _ _ _ _ kk => row Q cells slots H locs la _ x (fun h => by rw [hb] at h; cases h) (fun _ => kk))
  · cases ho
theorem ms_ic {t : Int32 → Int32 → Bool} {tgt nx : Nat} (row : ∀ (Q : State → Prop) (cells slots : Nat) (H : Heap) (locs : List Loc) (la : Array Slot) (rest : List Value) (x y : Int32), (t x y = true → W p l e R s m args below meth c H locs cells slots Q (F0 m tgt la rest)) → (t x y = false → W p l e R s m args below meth c H locs cells slots Q (F0 m nx la rest)) → W p l e R s m args below meth c H locs cells slots Q (F0 m pc la (.int y :: .int x :: rest))) : mm_S p l e R s m args below meth c f D cl cA nL FP pc (a_ic t tgt nx) := by
  intro F _ ls st h o ho
  unfold a_ic at ho
  split at ho
  · next y x r =>
    cases hb : t x y with
    | true =>
      rw [hb] at ho
      cases ho
      exact mm_G.st (fun Q cells slots H locs la _ _ _ _ _ kk => row Q cells slots H locs la _ x y (fun _ => kk) (fun h => by rw [hb] at h; cases h))
    | false =>
      rw [hb] at ho
      cases ho
      exact mm_G.st (fun Q cells slots H locs la _ _ _ _ _ kk => row Q cells slots H locs la _ x y (fun h => by rw [hb] at h; cases h) (fun _ => kk))
  · cases ho
theorem ms_goto (hx : p.tables.exec = Jvm.exec) (hb : c.code = cc) {off : Int} {tgt : Nat} (ht : (pc : Int) + off = (tgt : Int)) (hdg : decode cc pc = .ok (.goto off, 3)) : mm_S p l e R s m args below meth c f D cl cA nL FP pc (a_goto tgt) := by
  intro F _ ls st h o ho
  cases ho
  exact mm_G.st (fun Q cells slots H locs la _ _ _ _ _ kk => lv_goto hx hb hdg ht kk)
theorem ms_if_eq (hx : p.tables.exec = Jvm.exec) (hb : c.code = cc) {off : Int} {tgt : Nat} (ht : (pc : Int) + off = (tgt : Int)) (hdg : decode cc pc = .ok (.ifCond .eq off, 3)) : mm_S p l e R s m args below meth c f D cl cA nL FP pc (a_if (fun x => decide (x = 0)) tgt (pc + 3)) := ms_if (fun _ _ _ _ _ _ _ _ k1 k2 => lv_if_eq hx hb hdg ht (fun h => k1 (decide_eq_true h)) (fun h => k2 (decide_eq_false h)))
theorem ms_ic_eq (hx : p.tables.exec = Jvm.exec) (hb : c.code = cc) {off : Int} {tgt : Nat} (ht : (pc : Int) + off = (tgt : Int)) (hdg : decode cc pc = .ok (.if_icmp .eq off, 3)) : mm_S p l e R s m args below meth c f D cl cA nL FP pc (a_ic (fun x y => decide (x = y)) tgt (pc + 3)) := ms_ic (fun _ _ _ _ _ _ _ _ _ k1 k2 => lv_icmp_eq hx hb hdg ht (fun h => k1 (decide_eq_true h)) (fun h => k2 (decide_eq_false h)))
theorem ms_if_ne (hx : p.tables.exec = Jvm.exec) (hb : c.code = cc) {off : Int} {tgt : Nat} (ht : (pc : Int) + off = (tgt : Int)) (hdg : decode cc pc = .ok (.ifCond .ne off, 3)) : mm_S p l e R s m args below meth c f D cl cA nL FP pc (a_if (fun x => decide (¬ x = 0)) tgt (pc + 3)) := ms_if (fun _ _ _ _ _ _ _ _ k1 k2 => lv_if_ne hx hb hdg ht (fun h => k1 (decide_eq_true h)) (fun h => k2 (decide_eq_false (fun q => q h))))
theorem ms_ic_ne (hx : p.tables.exec = Jvm.exec) (hb : c.code = cc) {off : Int} {tgt : Nat} (ht : (pc : Int) + off = (tgt : Int)) (hdg : decode cc pc = .ok (.if_icmp .ne off, 3)) : mm_S p l e R s m args below meth c f D cl cA nL FP pc (a_ic (fun x y => decide (¬ x = y)) tgt (pc + 3)) := ms_ic (fun _ _ _ _ _ _ _ _ _ k1 k2 => lv_icmp_ne hx hb hdg ht (fun h => k1 (decide_eq_true h)) (fun h => k2 (decide_eq_false (fun q => q h))))
theorem ms_if_lt (hx : p.tables.exec = Jvm.exec) (hb : c.code = cc) {off : Int} {tgt : Nat} (ht : (pc : Int) + off = (tgt : Int)) (hdg : decode cc pc = .ok (.ifCond .lt off, 3)) : mm_S p l e R s m args below meth c f D cl cA nL FP pc (a_if (fun x => decide (x < 0)) tgt (pc + 3)) := ms_if (fun _ _ _ _ _ _ _ _ k1 k2 => lv_if_lt hx hb hdg ht (fun h => k1 (decide_eq_true h)) (fun h => k2 (decide_eq_false h)))
theorem ms_ic_lt (hx : p.tables.exec = Jvm.exec) (hb : c.code = cc) {off : Int} {tgt : Nat} (ht : (pc : Int) + off = (tgt : Int)) (hdg : decode cc pc = .ok (.if_icmp .lt off, 3)) : mm_S p l e R s m args below meth c f D cl cA nL FP pc (a_ic (fun x y => decide (x < y)) tgt (pc + 3)) := ms_ic (fun _ _ _ _ _ _ _ _ _ k1 k2 => lv_icmp_lt hx hb hdg ht (fun h => k1 (decide_eq_true h)) (fun h => k2 (decide_eq_false h)))
theorem ms_if_ge (hx : p.tables.exec = Jvm.exec) (hb : c.code = cc) {off : Int} {tgt : Nat} (ht : (pc : Int) + off = (tgt : Int)) (hdg : decode cc pc = .ok (.ifCond .ge off, 3)) : mm_S p l e R s m args below meth c f D cl cA nL FP pc (a_if (fun x => decide (0 ≤ x)) tgt (pc + 3)) := ms_if (fun _ _ _ _ _ _ _ _ k1 k2 => lv_if_ge hx hb hdg ht (fun h => k1 (decide_eq_true h)) (fun h => k2 (decide_eq_false h)))
theorem ms_ic_ge (hx : p.tables.exec = Jvm.exec) (hb : c.code = cc) {off : Int} {tgt : Nat} (ht : (pc : Int) + off = (tgt : Int)) (hdg : decode cc pc = .ok (.if_icmp .ge off, 3)) : mm_S p l e R s m args below meth c f D cl cA nL FP pc (a_ic (fun x y => decide (y ≤ x)) tgt (pc + 3)) := ms_ic (fun _ _ _ _ _ _ _ _ _ k1 k2 => lv_icmp_ge hx hb hdg ht (fun h => k1 (decide_eq_true h)) (fun h => k2 (decide_eq_false h)))
theorem ms_if_gt (hx : p.tables.exec = Jvm.exec) (hb : c.code = cc) {off : Int} {tgt : Nat} (ht : (pc : Int) + off = (tgt : Int)) (hdg : decode cc pc = .ok (.ifCond .gt off, 3)) : mm_S p l e R s m args below meth c f D cl cA nL FP pc (a_if (fun x => decide (0 < x)) tgt (pc + 3)) := ms_if (fun _ _ _ _ _ _ _ _ k1 k2 => lv_if_gt hx hb hdg ht (fun h => k1 (decide_eq_true h)) (fun h => k2 (decide_eq_false h)))
theorem ms_ic_gt (hx : p.tables.exec = Jvm.exec) (hb : c.code = cc) {off : Int} {tgt : Nat} (ht : (pc : Int) + off = (tgt : Int)) (hdg : decode cc pc = .ok (.if_icmp .gt off, 3)) : mm_S p l e R s m args below meth c f D cl cA nL FP pc (a_ic (fun x y => decide (y < x)) tgt (pc + 3)) := ms_ic (fun _ _ _ _ _ _ _ _ _ k1 k2 => lv_icmp_gt hx hb hdg ht (fun h => k1 (decide_eq_true h)) (fun h => k2 (decide_eq_false h)))
theorem ms_if_le (hx : p.tables.exec = Jvm.exec) (hb : c.code = cc) {off : Int} {tgt : Nat} (ht : (pc : Int) + off = (tgt : Int)) (hdg : decode cc pc = .ok (.ifCond .le off, 3)) : mm_S p l e R s m args below meth c f D cl cA nL FP pc (a_if (fun x => decide (x ≤ 0)) tgt (pc + 3)) := ms_if (fun _ _ _ _ _ _ _ _ k1 k2 => lv_if_le hx hb hdg ht (fun h => k1 (decide_eq_true h)) (fun h => k2 (decide_eq_false h)))
theorem ms_ic_le (hx : p.tables.exec = Jvm.exec) (hb : c.code = cc) {off : Int} {tgt : Nat} (ht : (pc : Int) + off = (tgt : Int)) (hdg : decode cc pc = .ok (.if_icmp .le off, 3)) : mm_S p l e R s m args below meth c f D cl cA nL FP pc (a_ic (fun x y => decide (x ≤ y)) tgt (pc + 3)) := ms_ic (fun _ _ _ _ _ _ _ _ _ k1 k2 => lv_icmp_le hx hb hdg ht (fun h => k1 (decide_eq_true h)) (fun h => k2 (decide_eq_false h)))
end MS2
