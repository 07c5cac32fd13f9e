abbrev mm_O : Type := (Nat × List (Option Value) × List Value × mm_H) ⊕ (mm_H × Option Value)
abbrev mm_F : Type := Nat → List Value → mm_H → Option (mm_H × Option Value)
abbrev mm_A : Type := mm_F → List (Option Value) → List Value → mm_H → Option mm_O
def a_none : mm_A := fun _ _ _ _ => none
def a_int (v : Int32) (nx : Nat) : mm_A := fun _ ls st h => some (.inl (nx, ls, .int v :: st, h))
def a_long (v : Int64) (nx : Nat) : mm_A := fun _ ls st h => some (.inl (nx, ls, .long v :: st, h))
def a_null (nx : Nat) : mm_A := fun _ ls st h => some (.inl (nx, ls, .null :: st, h))
def a_gs (j nx : Nat) : mm_A := fun _ ls st h => some (.inl (nx, ls, .ref (1000 + j) :: st, h))
def a_iload (i nx : Nat) : mm_A := fun _ ls st h => match ls[i]? with
  | some (some (.int x)) => some (.inl (nx, ls, .int x :: st, h))
  | _ => none
def a_lload (i nx : Nat) : mm_A := fun _ ls st h => match ls[i]? with
  | some (some (.long x)) => some (.inl (nx, ls, .long x :: st, h))
  | _ => none
def a_aload (i nx : Nat) : mm_A := fun _ ls st h => match ls[i]? with
  | some (some (.ref x)) => some (.inl (nx, ls, .ref x :: st, h))
  | _ => none
/-- a wide value just below a place that is written is gone -/
def mm_kl (ls : List (Option Value)) : Nat → List (Option Value)
  | 0 => ls
  | j + 1 => match ls[j]? with
    | some (some (.long _)) => ls.set j none
    | some (some (.double _)) => ls.set j none
    | _ => ls
def a_istore (i nx : Nat) : mm_A := fun _ ls st h => match st with
  | .int x :: r => mm_lK (mm_kl ls i) i (some (.int x)) (fun l2 => some (.inl (nx, l2, r, h)))
  | _ => none
def a_astore (i nx : Nat) : mm_A := fun _ ls st h => match st with
  | .ref x :: r => mm_lK (mm_kl ls i) i (some (.ref x)) (fun l2 => some (.inl (nx, l2, r, h)))
  | _ => none
def a_lstore (i nx : Nat) : mm_A := fun _ ls st h => match st with
  | .long x :: r => mm_lK (mm_kl ls i) i (some (.long x)) (fun l2 => mm_lK l2 (i + 1) none (fun l3 => some (.inl (nx, l3, r, h))))
  | _ => none
def a_iinc (i : Nat) (n : Int32) (nx : Nat) : mm_A := fun _ ls st h => match ls[i]? with
  | some (some (.int x)) => mm_fI (x + n) (fun z => mm_lK (mm_kl ls i) i (some (.int z)) (fun l2 => some (.inl (nx, l2, st, h))))
  | _ => none
def a_i1 (op : Int32 → Int32) (nx : Nat) : mm_A := fun _ ls st h => match st with
  | .int x :: r => mm_fI (op x) (fun z => some (.inl (nx, ls, .int z :: r, h)))
  | _ => none
def a_i2 (op : Int32 → Int32 → Int32) (nx : Nat) : mm_A := fun _ ls st h => match st with
  | .int y :: .int x :: r => mm_fI (op x y) (fun z => some (.inl (nx, ls, .int z :: r, h)))
  | _ => none
def a_id (op : Int32 → Int32 → Int32) (nx : Nat) : mm_A := fun _ ls st h => match st with
  | .int y :: .int x :: r => bif decide (y = 0) then none else mm_fI (op x y) (fun z => some (.inl (nx, ls, .int z :: r, h)))
  | _ => none
def a_l2 (op : Int64 → Int64 → Int64) (nx : Nat) : mm_A := fun _ ls st h => match st with
  | .long y :: .long x :: r => mm_fL (op x y) (fun z => some (.inl (nx, ls, .long z :: r, h)))
  | _ => none
def a_lcmp (nx : Nat) : mm_A := fun _ ls st h => match st with
  | .long y :: .long x :: r => mm_fI (lg_cmp x y) (fun z => some (.inl (nx, ls, .int z :: r, h)))
  | _ => none
def a_i2l (nx : Nat) : mm_A := fun _ ls st h => match st with
  | .int x :: r => mm_fL x.toInt64 (fun z => some (.inl (nx, ls, .long z :: r, h)))
  | _ => none
def a_l2i (nx : Nat) : mm_A := fun _ ls st h => match st with
  | .long x :: r => mm_fI x.toInt32 (fun z => some (.inl (nx, ls, .int z :: r, h)))
  | _ => none
def a_if (t : Int32 → Bool) (tgt nx : Nat) : mm_A := fun _ ls st h => match st with
  | .int x :: r => bif t x then some (.inl (tgt, ls, r, h)) else some (.inl (nx, ls, r, h))
  | _ => none
def a_ic (t : Int32 → Int32 → Bool) (tgt nx : Nat) : mm_A := fun _ ls st h => match st with
  | .int y :: .int x :: r => bif t x y then some (.inl (tgt, ls, r, h)) else some (.inl (nx, ls, r, h))
  | _ => none
def a_goto (tgt : Nat) : mm_A := fun _ ls st h => some (.inl (tgt, ls, st, h))
def a_tsw (lo hi : Int) (ts : List Nat) (df : Nat) : mm_A := fun _ ls st h => match st with
  | .int x :: r => bif decide (x.toInt < lo) || decide (hi < x.toInt) then some (.inl (df, ls, r, h)) else match ts[(x.toInt - lo).toNat]? with
    | some t => some (.inl (t, ls, r, h))
    | none => none
  | _ => none
def mm_lk : List (Int × Nat) → Nat → Int → Nat
  | [], df, _ => df
  | q :: qs, df, x => bif decide (x = q.1) then q.2 else mm_lk qs df x
def a_lsw (ps : List (Int × Nat)) (df : Nat) : mm_A := fun _ ls st h => match st with
  | .int x :: r => mm_fN (mm_lk ps df x.toInt) (fun t => some (.inl (t, ls, r, h)))
  | _ => none
def a_dup (nx : Nat) : mm_A := fun _ ls st h => match st with
  | v :: r => bif Nat.beq v.category 1 then some (.inl (nx, ls, v :: v :: r, h)) else none
  | _ => none
def a_pop (nx : Nat) : mm_A := fun _ ls st h => match st with
  | v :: r => bif Nat.beq v.category 1 then some (.inl (nx, ls, r, h)) else none
  | _ => none
def a_dupx1 (nx : Nat) : mm_A := fun _ ls st h => match st with
  | v :: w :: r => bif Nat.beq v.category 1 && Nat.beq w.category 1 then some (.inl (nx, ls, v :: w :: v :: r, h)) else none
  | _ => none
def a_dupx2 (nx : Nat) : mm_A := fun _ ls st h => match st with
  | v :: w :: u :: r => bif Nat.beq v.category 1 && Nat.beq w.category 1 && Nat.beq u.category 1 then some (.inl (nx, ls, v :: w :: u :: v :: r, h)) else none
  | _ => none
def a_dup2 (nx : Nat) : mm_A := fun _ ls st h => match st with
  | v :: w :: r => bif Nat.beq v.category 1 && Nat.beq w.category 1 then some (.inl (nx, ls, v :: w :: v :: w :: r, h)) else none
  | _ => none
def a_get (ci k nx : Nat) : mm_A := fun _ ls st h => match st with
  | .ref i :: r => match mm_hg h i with
    | some (.inl (c, fs)) => bif Nat.beq c ci then match fs[k]? with
      | some v => some (.inl (nx, ls, v :: r, h))
      | none => none
      else none
    | _ => none
  | _ => none
/-- a value that a place of a type holds as it is -/
def mm_fit (ty : FieldType) (v : Value) : Bool := match ty, v with
  | .int, .int _ => true
  | .long, .long _ => true
  | .boolean, .int x => decide (x = 0) || decide (x = 1)
  | .object _, .ref _ => true
  | .array _, .ref _ => true
  | _, _ => false
def a_put (ci k : Nat) (ty : FieldType) (nx : Nat) : mm_A := fun _ ls st h => match st with
  | v :: .ref i :: r => match mm_hg h i with
    | some (.inl (c, fs)) => bif Nat.beq c ci && mm_fit ty v && Nat.blt k fs.length then mm_lK fs k v (fun f2 => mm_hs h i (.inl (c, f2)) (fun h2 => some (.inl (nx, ls, r, h2)))) else none
    | _ => none
  | _ => none
/-- one cell more -/
def mm_ad {α : Type} (h : mm_H) (n : Nat) (c : mm_C) (k : mm_H → Option α) : Option α := bif Nat.blt h.1 512 then mm_setK 9 h.2.2 h.1 c (fun t => mm_fN (h.1 + 1) (fun a => mm_fN (h.2.1 + n) (fun b => k (a, b, t)))) else none
def a_new (ci : Nat) (fs : List Value) (nx : Nat) : mm_A := fun _ ls st h => mm_ad h fs.length (.inl (ci, fs)) (fun h2 => some (.inl (nx, ls, .ref h.1 :: st, h2)))
def a_na (ty : FieldType) (dv : Value) (nx : Nat) : mm_A := fun _ ls st h => match st with
  | .int n :: r => bif decide (n < 0) || decide (100000 < n) then none else mm_fN n.toNatClampNeg (fun N => mm_ad h N (.inr (ty, List.replicate N dv)) (fun h2 => some (.inl (nx, ls, .ref h.1 :: r, h2))))
  | _ => none
/-- kinds of arrays that the worlds hold -/
def mm_ty (ty : FieldType) : Bool := match ty with
  | .int => true
  | .long => true
  | .byte => true
  | .boolean => true
  | .object C => decide (C = "TippedCrates$State")
  | _ => false
/-- arrays outside the world (statics, the script): read, never written -/
abbrev mm_X : Type := Nat → Option (List Int32)
def a_alen (X : mm_X) (nx : Nat) : mm_A := fun _ ls st h => match st with
  | .ref i :: r => bif Nat.blt i 1000 then match mm_hg h i with
      | some (.inr (ty, xs)) => bif mm_ty ty then mm_fI (Int32.ofNat xs.length) (fun z => some (.inl (nx, ls, .int z :: r, h))) else none
      | _ => none
    else match X (i - 1000) with
      | some xs => mm_fI (Int32.ofNat xs.length) (fun z => some (.inl (nx, ls, .int z :: r, h)))
      | none => none
  | _ => none
def mm_in (x : Int32) (n : Nat) : Bool := !(decide (x < 0)) && Nat.blt x.toNatClampNeg n
def a_iald (X : mm_X) (nx : Nat) : mm_A := fun _ ls st h => match st with
  | .int j :: .ref i :: r => bif decide (j < 0) then none else bif Nat.blt i 1000 then match mm_hg h i with
      | some (.inr (.int, xs)) => match xs[j.toNatClampNeg]? with
        | some (.int v) => some (.inl (nx, ls, .int v :: r, h))
        | _ => none
      | _ => none
    else match X (i - 1000) with
      | some xs => match xs[j.toNatClampNeg]? with
        | some v => some (.inl (nx, ls, .int v :: r, h))
        | none => none
      | none => none
  | _ => none
def a_bald (nx : Nat) : mm_A := fun _ ls st h => match st with
  | .int j :: .ref i :: r => bif decide (j < 0) then none else match mm_hg h i with
      | some (.inr (.byte, xs)) => match xs[j.toNatClampNeg]? with
        | some (.int v) => some (.inl (nx, ls, .int v :: r, h))
        | _ => none
      | some (.inr (.boolean, xs)) => match xs[j.toNatClampNeg]? with
        | some (.int v) => some (.inl (nx, ls, .int v :: r, h))
        | _ => none
      | _ => none
  | _ => none
def a_lald (nx : Nat) : mm_A := fun _ ls st h => match st with
  | .int j :: .ref i :: r => bif decide (j < 0) then none else match mm_hg h i with
      | some (.inr (.long, xs)) => match xs[j.toNatClampNeg]? with
        | some (.long v) => some (.inl (nx, ls, .long v :: r, h))
        | _ => none
      | _ => none
  | _ => none
def a_aald (nx : Nat) : mm_A := fun _ ls st h => match st with
  | .int j :: .ref i :: r => bif decide (j < 0) then none else match mm_hg h i with
      | some (.inr (.object C, xs)) => bif mm_ty (.object C) then match xs[j.toNatClampNeg]? with
        | some (.ref v) => some (.inl (nx, ls, .ref v :: r, h))
        | _ => none
        else none
      | _ => none
  | _ => none
def a_iast (nx : Nat) : mm_A := fun _ ls st h => match st with
  | .int v :: .int j :: .ref i :: r => match mm_hg h i with
      | some (.inr (.int, xs)) => bif mm_in j xs.length then mm_lK xs j.toNatClampNeg (.int v) (fun y => mm_hs h i (.inr (.int, y)) (fun h2 => some (.inl (nx, ls, r, h2)))) else none
      | _ => none
  | _ => none
def a_last (nx : Nat) : mm_A := fun _ ls st h => match st with
  | .long v :: .int j :: .ref i :: r => match mm_hg h i with
      | some (.inr (.long, xs)) => bif mm_in j xs.length then mm_lK xs j.toNatClampNeg (.long v) (fun y => mm_hs h i (.inr (.long, y)) (fun h2 => some (.inl (nx, ls, r, h2)))) else none
      | _ => none
  | _ => none
def a_bast (nx : Nat) : mm_A := fun _ ls st h => match st with
  | .int v :: .int j :: .ref i :: r => match mm_hg h i with
      | some (.inr (.byte, xs)) => bif mm_in j xs.length then mm_fI (vp_nar .byte v) (fun z => mm_lK xs j.toNatClampNeg (.int z) (fun y => mm_hs h i (.inr (.byte, y)) (fun h2 => some (.inl (nx, ls, r, h2))))) else none
      | some (.inr (.boolean, xs)) => bif mm_in j xs.length then mm_fI (vp_nar .boolean v) (fun z => mm_lK xs j.toNatClampNeg (.int z) (fun y => mm_hs h i (.inr (.boolean, y)) (fun h2 => some (.inl (nx, ls, r, h2))))) else none
      | _ => none
  | _ => none
/-- an array of objects takes one of that class (its number) -/
def a_aast (C : String) (ci nx : Nat) : mm_A := fun _ ls st h => match st with
  | .ref v :: .int j :: .ref i :: r => match mm_hg h i, mm_hg h v with
      | some (.inr (ty, xs)), some (.inl (c, _)) => bif decide (ty = .object C) && Nat.beq c ci && mm_in j xs.length then mm_lK xs j.toNatClampNeg (.ref v) (fun y => mm_hs h i (.inr (ty, y)) (fun h2 => some (.inl (nx, ls, r, h2)))) else none
      | _, _ => none
  | _ => none
def mm_cat (st : List Value) : Nat := (st.map fun v => v.category).sum
def a_oi (nx : Nat) : mm_A := fun _ ls st h => match st with
  | .ref _ :: r => bif Nat.ble (mm_cat r) 8 then some (.inl (nx, ls, r, h)) else none
  | _ => none
/-- System.arraycopy of two arrays of one kind of numbers -/
def mm_cp (xs ys : List Value) (sp dp n : Nat) : List Value := ys.take dp ++ ((xs.drop sp).take n ++ ys.drop (dp + n))
def a_ac (nx : Nat) : mm_A := fun _ ls st h => match st with
  | .int n :: .int dp :: .ref d :: .int sp :: .ref b :: r => match mm_hg h b, mm_hg h d with
      | some (.inr (.int, xs)), some (.inr (.int, ys)) => bif Nat.ble (mm_cat r) 8 && !(decide (n < 0)) && !(decide (dp < 0)) && !(decide (sp < 0)) && Nat.ble (sp.toNatClampNeg + n.toNatClampNeg) xs.length && Nat.ble (dp.toNatClampNeg + n.toNatClampNeg) ys.length && (xs.all (mm_fit .int)) then mm_hs h d (.inr (.int, mm_cp xs ys sp.toNatClampNeg dp.toNatClampNeg n.toNatClampNeg)) (fun h2 => some (.inl (nx, ls, r, h2))) else none
      | _, _ => none
  | _ => none
def mm_pop {β : Type} : Nat → List Value → List Value → (List Value → List Value → Option β) → Option β
  | 0, st, acc, k => k acc st
  | n + 1, v :: st, acc, k => mm_pop n st (v :: acc) k
  | _ + 1, [], _, _ => none
theorem mm_pop_eq {β : Type} {o : β} : ∀ (n : Nat) (st acc : List Value) (k : List Value → List Value → Option β), mm_pop n st acc k = some o → ∃ as r, as.length = n ∧ st = as.reverse ++ r ∧ k (as ++ acc) r = some o := by
  intro n
  induction n with
  | zero => intro st acc k h; exact ⟨[], st, rfl, rfl, h⟩
  | succ n ih =>
    intro st acc k h
    cases st with
    | nil => cases h
    | cons v st =>
      obtain ⟨as, r, h1, h2, h3⟩ := ih st (v :: acc) k h
      refine ⟨as ++ [v], r, by simp [h1], by simp [h2], ?_⟩
      rw [List.append_assoc]
      exact h3
/-- calls: static; of an object of a class; a constructor -/
def a_ivS (k n nx : Nat) : mm_A := fun F ls st h => mm_pop n st [] (fun as r => bif Nat.ble (mm_cat r) 8 then match F k as h with
  | some (h2, v) => some (.inl (nx, ls, v.toList ++ r, h2))
  | none => none
  else none)
def a_ivV (ci k n nx : Nat) : mm_A := fun F ls st h => mm_pop n st [] (fun as r0 => match r0 with
  | .ref i :: r => match mm_hg h i with
    | some (.inl (c, _)) => bif Nat.beq c ci && Nat.ble (mm_cat r) 8 then match F k (.ref i :: as) h with
      | some (h2, v) => some (.inl (nx, ls, v.toList ++ r, h2))
      | none => none
      else none
    | _ => none
  | _ => none)
def a_ivI (k n nx : Nat) : mm_A := fun F ls st h => mm_pop n st [] (fun as r0 => match r0 with
  | .ref i :: r => bif Nat.ble (mm_cat r) 8 then match F k (.ref i :: as) h with
    | some (h2, none) => some (.inl (nx, ls, r, h2))
    | _ => none
    else none
  | _ => none)
def a_iret (ty : FieldType) : mm_A := fun _ _ st h => match st with
  | [.int x] => bif mm_fit ty (.int x) then some (.inr (h, some (.int x))) else none
  | _ => none
def a_lret : mm_A := fun _ _ st h => match st with
  | [.long x] => some (.inr (h, some (.long x)))
  | _ => none
def a_ret : mm_A := fun _ _ st h => match st with
  | [] => some (.inr (h, none))
  | _ => none
/-- locals at a method's entry -/
def mm_en : List Value → List (Option Value)
  | [] => []
  | v :: vs => if v.category = 2 then some v :: none :: mm_en vs else some v :: mm_en vs
def mm_pad : List (Option Value) → Nat → List (Option Value)
  | l, 0 => l
  | [], n + 1 => none :: mm_pad [] n
  | x :: l, n + 1 => x :: mm_pad l n
def mm_run (F : mm_F) (code : Nat → mm_A) : Nat → Nat → List (Option Value) → List Value → mm_H → Option (mm_H × Option Value)
  | 0, _, _, _, _ => none
  | n + 1, pc, ls, st, h => match code pc F ls st h with
    | none => none
    | some (.inr r) => some r
    | some (.inl (pc2, ls2, st2, h2)) => mm_run F code n pc2 ls2 st2 h2
def mm_exec (code : Nat → Nat → mm_A) (nL : Nat → Nat) (fuel : Nat) : Nat → mm_F
  | 0 => fun _ _ _ => none
  | d + 1 => fun k as h => bif Nat.ble (mm_en as).length (nL k) then match mm_run (mm_exec code nL fuel d) (code k) fuel 0 (mm_pad (mm_en as) (nL k)) [] h with
    | some (h2, r) => bif Nat.ble h.1 h2.1 && Nat.ble h.2.1 h2.2.1 then some (h2, r) else none
    | none => none
    else none
