def R_law : String := "TippedCratesLaw"
def lw_P (b : Addr) (xs : List Int32) (args : Array Value) (s : State) : Prop := args = #[.ref b] ∧ s.IntsAt b xs ∧ xs.length ≤ 3072 ∧ (Jvm.Cond.and given_1 narrow_1).before args s = true
def lw_Q (_ : Array Value) (s : State) (o : Outcome) (t : State) : Prop := o = .returned (some (.int 1)) ∧ Framed s o t [] 600000 7302250
def lw_Z (below : List Frame) (a : Array Value) (s : State) : State → Prop := fun t => ∃ o, t.status = .running ∧ Ended t below o ∧ lw_Q a s o t
/-- the law's own end, with 1 on the stack, nothing written that was there before, its room as the claim has it -/
theorem lw_ret {p : Program} {l : Launch} {e : Env} {s : State} {m : MethodId} {below : List Frame} {meth : Method} {c : Code} {b : Nat} (hx : p.tables.exec = Jvm.exec) (hb : c.code = code) (hr : meth.sig.returnType = ret) (hlocks : meth.locks = false) {pc : Nat} {H : Heap} {ls : Array Slot} (hdg : decode code pc = .ok (.ireturn, 1)) : W p l e room_1 s m #[Value.ref b] below meth c H [] 600000 7302250 (lw_Z below #[Value.ref b] s) (F0 m pc ls [.int 1]) := by
  intro T hT X
  obtain ⟨fs, hret, hrun, hended, hW, hframe⟩ := X.leave (v := some (.int 1)) (hlocks := hlocks) (fun h => by rw [hr] at h; cases h)
  have hmeth' : T.vm.method? m = some meth := X.method'
  refine ⟨T.setFrames fs, ?_, .returned (some (.int 1)), hrun, hended, rfl, ⟨_, rfl⟩, hW, hframe⟩
  jvm_step X.here [X.here.top, hx, hb, hdg, hmeth', hr, ret, narrow_b1]
  (try refine ⟨rfl, ?_⟩); (try refine ⟨rfl, ?_⟩)
  first | (intro acts; rw [hret _ acts rfl rfl rfl]) | rw [hret _ _ rfl rfl rfl]
  exact Steps.refl _
/-- what holds at the law's entry: the machine, the code, the tables' words (any of lw_tbl by 'hts w (by decide +kernel)'), the script of L ints xs at the cell b, what the Statement gives of the start (any of its parts by flat_of_before) -/
def lw_At (p : Program) (s : State) (m : MethodId) (meth : Method) (c : Code) (b L : Nat) (xs : Nat → Int32) : Prop :=
  p.tables.exec = Jvm.exec ∧ c.code = code ∧ meth.sig.returnType = ret ∧ c.maxLocals = 4 ∧ s.vm.findClass R_law = some m.cls ∧ (∀ w ∈ lw_tbl, w.before #[Value.ref b] s = true) ∧ va_X b L xs s s.heap ∧ b < s.heap.size ∧ meth.locks = false ∧ (Jvm.Cond.and given_1 narrow_1).before #[Value.ref b] s = true
abbrev ws_fl : List Cond := flatC (Jvm.Cond.and given_1 narrow_1)
theorem ws_at {args : Array Value} {s : State} (h : ∀ c ∈ ws_fl, c.before args s = true) {i : Nat} {c : Cond} (e : ws_fl[i]? = some c) : c.before args s = true := h c (List.mem_of_getElem? e)
theorem ws_tb {args : Array Value} {s : State} (h : ∀ w ∈ lw_tbl, w.before args s = true) {i : Nat} {c : Cond} (e : lw_tbl[i]? = some c) : c.before args s = true := h c (List.mem_of_getElem? e)
theorem ws_e0 : ∀ j, j < 4 → ws_fl[12 + j]? = some (Cond.eq (.elem (.static "TippedCrates" "COMES_BENEATH" "[I") (.int (Int32.ofNat j))) (.int ((mm_sl.getD 0 []).getD j 0))) := by decide +kernel
theorem ws_e1 : ∀ j, j < 4 → ws_fl[19 + j]? = some (Cond.eq (.elem (.static "TippedCrates" "COMES_TOP" "[I") (.int (Int32.ofNat j))) (.int ((mm_sl.getD 1 []).getD j 0))) := by decide +kernel
theorem ws_e2 : ∀ j, j < 4 → ws_fl[26 + j]? = some (Cond.eq (.elem (.static "TippedCrates" "STEP_X" "[I") (.int (Int32.ofNat j))) (.int ((mm_sl.getD 2 []).getD j 0))) := by decide +kernel
theorem ws_e3 : ∀ j, j < 4 → ws_fl[33 + j]? = some (Cond.eq (.elem (.static "TippedCrates" "STEP_Y" "[I") (.int (Int32.ofNat j))) (.int ((mm_sl.getD 3 []).getD j 0))) := by decide +kernel
theorem ws_e4 : ∀ j, j < 7 → ws_fl[40 + j]? = some (Cond.eq (.elem (.static "TippedCrates" "TENS" "[I") (.int (Int32.ofNat j))) (.int ((mm_sl.getD 4 []).getD j 0))) := by decide +kernel
set_option maxRecDepth 100000 in
theorem ws_s0 : ∀ j, j < 114 → ws_fl[51 + j]? = some (Cond.eq (.elem (.field (.string "TippedCrates$Tape" 27) "java/lang/String" "value" "[B") (.int (Int32.ofNat j))) (.int ((mm_sb.getD 0 []).getD j 0))) := by decide +kernel
set_option maxRecDepth 100000 in
theorem ws_s1 : ∀ j, j < 9 → ws_fl[169 + j]? = some (Cond.eq (.elem (.field (.string "TippedCrates$Tape" 70) "java/lang/String" "value" "[B") (.int (Int32.ofNat j))) (.int ((mm_sb.getD 1 []).getD j 0))) := by decide +kernel
set_option maxRecDepth 100000 in
theorem ws_cl {args : Array Value} {s : State} (hts : ∀ w ∈ lw_tbl, w.before args s = true) : ∀ c : Nat, ∃ q : ClassId × (Nat → Nat), ∀ r, mm_cl[c]? = some r → u_Kn s r.1 r.2.1 r.2.2 q.1 q.2 := fun c => match c with
  | 0 => by
    obtain ⟨a, b, h⟩ := u_known (C := RX0) (T := TX0) (N := 1) (n := 1) hts (fun w h => mm_AWt w (inq_0 w h)) (ws_tb hts (i := 391) (by decide +kernel))
    exact ⟨(a, b), fun r e => by cases e; exact h⟩
  | 1 => by
    obtain ⟨a, b, h⟩ := u_known (C := RX1) (T := TX1) (N := 5) (n := 5) hts (fun w h => mm_AWt w (inq_1 w h)) (ws_tb hts (i := 243) (by decide +kernel))
    exact ⟨(a, b), fun r e => by cases e; exact h⟩
  | 2 => by
    obtain ⟨a, b, h⟩ := u_known (C := RX2) (T := TX2) (N := 5) (n := 5) hts (fun w h => mm_AWt w (inq_2 w h)) (ws_tb hts (i := 552) (by decide +kernel))
    exact ⟨(a, b), fun r e => by cases e; exact h⟩
  | 3 => by
    obtain ⟨a, b, h⟩ := u_known (C := RX3) (T := TX3) (N := 12) (n := 12) hts (fun w h => mm_AWt w (inq_3 w h)) (ws_tb hts (i := 237) (by decide +kernel))
    exact ⟨(a, b), fun r e => by cases e; exact h⟩
  | 4 => by
    obtain ⟨a, b, h⟩ := u_known (C := RX4) (T := TX4) (N := 19) (n := 19) hts (fun w h => mm_AWt w (inq_4 w h)) (ws_tb hts (i := 324) (by decide +kernel))
    exact ⟨(a, b), fun r e => by cases e; exact h⟩
  | 5 => by
    obtain ⟨a, b, h⟩ := u_known (C := RX5) (T := TX5) (N := 11) (n := 11) hts (fun w h => mm_AWt w (inq_5 w h)) (ws_tb hts (i := 508) (by decide +kernel))
    exact ⟨(a, b), fun r e => by cases e; exact h⟩
  | 6 => by
    obtain ⟨a, b, h⟩ := u_known (C := RX6) (T := TX6) (N := 5) (n := 5) hts (fun w h => mm_AWt w (inq_6 w h)) (ws_tb hts (i := 436) (by decide +kernel))
    exact ⟨(a, b), fun r e => by cases e; exact h⟩
  | 7 => by
    obtain ⟨a, b, h⟩ := u_known (C := RX7) (T := TX7) (N := 7) (n := 7) hts (fun w h => mm_AWt w (inq_7 w h)) (ws_tb hts (i := 559) (by decide +kernel))
    exact ⟨(a, b), fun r e => by cases e; exact h⟩
  | 8 => by
    obtain ⟨a, b, h⟩ := u_known (C := RX8) (T := TX8) (N := 7) (n := 7) hts (fun w h => mm_AWt w (inq_8 w h)) (ws_tb hts (i := 147) (by decide +kernel))
    exact ⟨(a, b), fun r e => by cases e; exact h⟩
  | 9 => by
    obtain ⟨a, b, h⟩ := u_known (C := RX9) (T := TX9) (N := 4) (n := 4) hts (fun w h => mm_AWt w (inq_9 w h)) (ws_tb hts (i := 401) (by decide +kernel))
    exact ⟨(a, b), fun r e => by cases e; exact h⟩
  | 10 => by
    obtain ⟨a, b, h⟩ := u_known (C := RX10) (T := TX10) (N := 13) (n := 13) hts (fun w h => mm_AWt w (inq_10 w h)) (ws_tb hts (i := 461) (by decide +kernel))
    exact ⟨(a, b), fun r e => by cases e; exact h⟩
  | 11 => by
    obtain ⟨a, b, h⟩ := u_known (C := RX11) (T := TX11) (N := 11) (n := 11) hts (fun w h => mm_AWt w (inq_11 w h)) (ws_tb hts (i := 139) (by decide +kernel))
    exact ⟨(a, b), fun r e => by cases e; exact h⟩
  | 12 => by
    obtain ⟨a, b, h⟩ := u_known (C := RX12) (T := TX12) (N := 80) (n := 80) hts (fun w h => mm_AWt w (inq_12 w h)) (ws_tb hts (i := 1377) (by decide +kernel))
    exact ⟨(a, b), fun r e => by cases e; exact h⟩
  | c + 13 => ⟨(0, fun _ => 0), fun r e => by cases e⟩
set_option maxRecDepth 100000 in
theorem ws_ar {args : Array Value} {s : State} (hts : ∀ w ∈ lw_tbl, w.before args s = true) (ty : FieldType) : ∃ c : ClassId, mm_ty ty = true → ArrOfT s c ty ∧ va_RA s c ty := by
  cases ty with
  | int =>
    obtain ⟨c, k, comp, h1, h2, h3⟩ := Cond.arrayClass_spec (type := .int) (ws_tb hts (i := 233) (by decide +kernel))
    exact ⟨c, fun _ => ⟨fun n z => ⟨fun k h => (by cases h), k, h2, comp, h3⟩, h1⟩⟩
  | long =>
    obtain ⟨c, k, comp, h1, h2, h3⟩ := Cond.arrayClass_spec (type := .long) (ws_tb hts (i := 234) (by decide +kernel))
    exact ⟨c, fun _ => ⟨fun n z => ⟨fun k h => (by cases h), k, h2, comp, h3⟩, h1⟩⟩
  | byte =>
    obtain ⟨c, k, comp, h1, h2, h3⟩ := Cond.arrayClass_spec (type := .byte) (ws_tb hts (i := 235) (by decide +kernel))
    exact ⟨c, fun _ => ⟨fun n z => ⟨fun k h => (by cases h), k, h2, comp, h3⟩, h1⟩⟩
  | boolean =>
    obtain ⟨c, k, comp, h1, h2, h3⟩ := Cond.arrayClass_spec (type := .boolean) (ws_tb hts (i := 550) (by decide +kernel))
    exact ⟨c, fun _ => ⟨fun n z => ⟨fun k h => (by cases h), k, h2, comp, h3⟩, h1⟩⟩
  | object C =>
    by_cases hC : C = "TippedCrates$State"
    · subst hC
      obtain ⟨comp, c, k, h1, h2, h3, h4, h5⟩ := Cond.arrayOver_spec (n := "TippedCrates$State") (ws_tb hts (i := 558) (by decide +kernel))
      exact ⟨c, fun _ => ⟨fun n z => ⟨fun k h => (by cases h), k, h3, comp, h4⟩, k, comp, h3, h4, h1, h5⟩⟩
    · exact ⟨0, fun h => absurd (of_decide_eq_true h) hC⟩
  | _ => exact ⟨0, fun h => by cases h⟩
