/-! The first of a row's places of which something holds -/
def fnd (p : Nat → Bool) : Nat → Nat → Option Nat
  | _, 0 => none
  | j, m + 1 => bif p j then some j else fnd p (j + 1) m
theorem fnd_lt {p : Nat → Bool} : ∀ (m j c : Nat), fnd p j m = some c → j ≤ c ∧ c < j + m ∧ p c = true := by
  intro m
  induction m with
  | zero => intro j c h; cases h
  | succ m ih =>
    intro j c h
    unfold fnd at h
    cases hp : p j with
    | true => rw [hp] at h; cases h; exact ⟨Nat.le_refl _, by omega, hp⟩
    | false =>
      rw [hp] at h
      obtain ⟨h1, h2, h3⟩ := ih (j + 1) c h
      exact ⟨by omega, by omega, h3⟩
/-- which crate of a State is on a flag -/
def crOn (A : mA) (F : mF) (a : Nat) (flag : Int32) : Option Nat := fnd (fun c => decide ((A (a + 2)).getD c 0 = flag)) 0 (F a 4).toInt.toNat
def oI (o : Option Nat) (d : Int32) : Int32 := match o with
  | some c => Int32.ofNat c
  | none => d
theorem i_of {x : Int32} (h : 0 ≤ x.toInt) : x = Int32.ofNat x.toInt.toNat := (Int32.ofNat_toNatClampNeg x (Int32.le_iff_toInt_le.mpr h)).symm
set_option maxRecDepth 20000 in
theorem c_crateOn {a : Nat} (ha : a ∈ stL) (flag : Int32) (A : mA) (F : mF) (L : mL) (sw : Bool) (oa : stOk A a) (h0 : 0 ≤ (F a 4).toInt) (h3 : (F a 4).toInt ≤ 3) : mm_K 1 77 [.ref a, .int flag] (mh A F L sw) (fun h2 r => h2 = mh A F L sw ∧ r = some (.int (oI (crOn A F a flag) (-1)))) := by
  obtain ⟨n, hn⟩ : ∃ n, n = (F a 4).toInt.toNat := ⟨_, rfl⟩
  have hF : F a 4 = Int32.ofNat n := by rw [hn]; exact i_of h0
  have l2 := oa.2.1
  have loop : ∀ (m j : Nat), j + m = n → mm_W 0 mc_77 2 [some (.ref a), some (.int flag), some (.int (Int32.ofNat j))] [] (mh A F L sw) (fun h2 r => (∃ (A2 : mA) (F2 : mF) (L2 : mL) (s2 : Bool), h2 = mh A2 F2 L2 s2) ∧ h2 = mh A F L sw ∧ r = some (.int (oI (fnd (fun c => decide ((A (a + 2)).getD c 0 = flag)) j m) (-1)))) := by
    intro m
    induction m with
    | zero =>
      intro j hj
      refine w_st (fun _ => rfl) ?_
      refine w_st (fun _ => rfl) ?_
      refine gs_4 ha rfl ?_
      refine w_icT rfl (decide_eq_true (by rw [hF]; exact (Int32.ofNat_le_ofNat (by omega) (by omega)).mpr (by omega))) ?_
      refine w_st (fun _ => rfl) ?_
      exact w_rt (fun _ => rfl) ⟨⟨_, _, _, _, rfl⟩, rfl, rfl⟩
    | succ m ih =>
      intro j hj
      refine w_st (fun _ => rfl) ?_
      refine w_st (fun _ => rfl) ?_
      refine gs_4 ha rfl ?_
      refine w_icF rfl (decide_eq_false (fun q => by rw [hF] at q; exact absurd ((Int32.ofNat_le_ofNat (by omega) (by omega)).mp q) (by omega))) ?_
      refine w_st (fun _ => rfl) ?_
      refine gs_1 ha rfl ?_
      refine w_st (fun _ => rfl) ?_
      have e1 : (Int32.ofNat j).toInt = j := i_nat (by omega)
      refine la (st_I2 ha) rfl (by omega) (by omega) (fun x hx => ?_)
      have e2 : (A (a + 2)).getD j 0 = x := by
        rw [e1] at hx
        have hx2 : (A (a + 2))[j]? = some x := hx
        rw [List.getD_eq_getElem?_getD, hx2]
        rfl
      refine w_st (fun _ => rfl) ?_
      by_cases q : x = flag
      · refine w_icF rfl (decide_eq_false (fun w => w q)) ?_
        refine w_st (fun _ => rfl) ?_
        refine w_rt (fun _ => rfl) ⟨⟨_, _, _, _, rfl⟩, rfl, ?_⟩
        unfold fnd
        rw [decide_eq_true (by rw [e2]; exact q)]
        rfl
      · refine w_icT rfl (decide_eq_true q) ?_
        refine w_iincE rfl rfl (i_succ j) ?_
        refine w_st (fun _ => rfl) ?_
        have k := ih (j + 1) (by omega)
        have e3 : fnd (fun c => decide ((A (a + 2)).getD c 0 = flag)) j (m + 1) = fnd (fun c => decide ((A (a + 2)).getD c 0 = flag)) (j + 1) m := by
          show (bif decide ((A (a + 2)).getD j 0 = flag) then _ else _) = _
          rw [decide_eq_false (by rw [e2]; exact q)]
          rfl
        rw [e3]
        exact k
  refine K_of rfl ?_
  show mm_W 0 mc_77 0 [some (.ref a), some (.int flag), none] [] (mh A F L sw) _
  refine w_st (fun _ => rfl) ?_
  refine w_st (fun _ => rfl) ?_
  have k := loop n 0 (by omega)
  unfold crOn
  rw [← hn]
  exact k
