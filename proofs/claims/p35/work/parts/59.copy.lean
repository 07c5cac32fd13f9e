/-- a State's rows are as long as they are made -/
def stOk (A : mA) (a : Nat) : Prop := (A (a + 1)).length = 25 ∧ (A (a + 2)).length = 3 ∧ (A (a + 3)).length = 18 ∧ (A (a + 4)).length = 3
/-- b's rows and fields stand in a, too -/
def cpA (A : mA) (a b : Nat) : mA := fun j => if j = a + 1 then A (b + 1) else if j = a + 2 then A (b + 2) else if j = a + 3 then A (b + 3) else if j = a + 4 then A (b + 4) else A j
def cpF (F : mF) (a b : Nat) : mF := uF (uF (uF F a 4 (F b 4)) a 5 (F b 5)) a 6 (F b 6)
theorem uA_get {A : mA} {i j : Nat} {x : List Int32} : uA A i x j = if j = i then x else A j := rfl
theorem st_apartx {a b : Nat} (ha : a ∈ stL) (hb : b ∈ stL) : a = b ∨ a + 4 < b ∨ b + 4 < a := by
  by_cases h : a = b
  · exact Or.inl h
  · exact Or.inr (st_apart ha hb h)
set_option maxRecDepth 20000 in
theorem c_copyOf {a b : Nat} (ha : a ∈ stL) (hb : b ∈ stL) (A : mA) (F : mF) (L : mL) (sw : Bool) (oa : stOk A a) (ob : stOk A b) : mm_K 1 76 [.ref a, .ref b] (mh A F L sw) (fun h2 r => h2 = mh (cpA A a b) (cpF F a b) L sw ∧ r = none) := by
  refine K_of rfl ?_
  show mm_W 0 mc_76 0 [some (.ref a), some (.ref b)] [] (mh A F L sw) _
  obtain ⟨o1, o2, o3, o4⟩ := oa
  obtain ⟨q1, q2, q3, q4⟩ := ob
  have e0 : (0 : Int32).toInt = 0 := rfl
  have e25 : (25 : Int32).toInt = 25 := rfl
  have e3 : (3 : Int32).toInt = 3 := rfl
  have e18 : (18 : Int32).toInt = 18 := rfl
  refine w_st (fun _ => rfl) ?_
  refine gs_0 hb rfl ?_
  refine w_st (fun _ => rfl) ?_
  refine w_st (fun _ => rfl) ?_
  refine gs_0 ha rfl ?_
  refine w_st (fun _ => rfl) ?_
  have la1 := o1
  have lb1 := q1
  refine w_st (fun _ => rfl) ?_
  refine aca (st_I1 hb) (st_I1 ha) rfl (by omega) (by omega) (by omega) (by rw [lb1]; omega) (by rw [la1]; omega) rfl ?_
  have c1 : cpI (A (b + 1)) (A (a + 1)) (0 : Int32).toInt.toNat (0 : Int32).toInt.toNat (25 : Int32).toInt.toNat = A (b + 1) := cpI_all lb1 la1
  rw [c1]
  generalize hM1 : uA A (a + 1) (A (b + 1)) = M1
  have v2a1 : M1 (a + 2) = A (a + 2) := by rw [← hM1, uA_ne (by have := st_apartx ha hb; omega)]
  have v2b1 : M1 (b + 2) = A (b + 2) := by rw [← hM1, uA_ne (by have := st_apartx ha hb; omega)]
  have v3a1 : M1 (a + 3) = A (a + 3) := by rw [← hM1, uA_ne (by have := st_apartx ha hb; omega)]
  have v3b1 : M1 (b + 3) = A (b + 3) := by rw [← hM1, uA_ne (by have := st_apartx ha hb; omega)]
  have v4a1 : M1 (a + 4) = A (a + 4) := by rw [← hM1, uA_ne (by have := st_apartx ha hb; omega)]
  have v4b1 : M1 (b + 4) = A (b + 4) := by rw [← hM1, uA_ne (by have := st_apartx ha hb; omega)]
  refine w_st (fun _ => rfl) ?_
  refine gs_1 hb rfl ?_
  refine w_st (fun _ => rfl) ?_
  refine w_st (fun _ => rfl) ?_
  refine gs_1 ha rfl ?_
  refine w_st (fun _ => rfl) ?_
  have la2 : (M1 (a + 2)).length = 3 := by rw [v2a1]; exact o2
  have lb2 : (M1 (b + 2)).length = 3 := by rw [v2b1]; exact q2
  refine w_st (fun _ => rfl) ?_
  refine aca (st_I2 hb) (st_I2 ha) rfl (by omega) (by omega) (by omega) (by rw [lb2]; omega) (by rw [la2]; omega) rfl ?_
  have c2 : cpI (M1 (b + 2)) (M1 (a + 2)) (0 : Int32).toInt.toNat (0 : Int32).toInt.toNat (3 : Int32).toInt.toNat = M1 (b + 2) := cpI_all lb2 la2
  rw [c2]
  rw [v2b1]
  generalize hM2 : uA M1 (a + 2) (A (b + 2)) = M2
  have v3a2 : M2 (a + 3) = A (a + 3) := by rw [← hM2, uA_ne (by have := st_apartx ha hb; omega)]; exact v3a1
  have v3b2 : M2 (b + 3) = A (b + 3) := by rw [← hM2, uA_ne (by have := st_apartx ha hb; omega)]; exact v3b1
  have v4a2 : M2 (a + 4) = A (a + 4) := by rw [← hM2, uA_ne (by have := st_apartx ha hb; omega)]; exact v4a1
  have v4b2 : M2 (b + 4) = A (b + 4) := by rw [← hM2, uA_ne (by have := st_apartx ha hb; omega)]; exact v4b1
  refine w_st (fun _ => rfl) ?_
  refine gs_2 hb rfl ?_
  refine w_st (fun _ => rfl) ?_
  refine w_st (fun _ => rfl) ?_
  refine gs_2 ha rfl ?_
  refine w_st (fun _ => rfl) ?_
  have la3 : (M2 (a + 3)).length = 18 := by rw [v3a2]; exact o3
  have lb3 : (M2 (b + 3)).length = 18 := by rw [v3b2]; exact q3
  refine w_st (fun _ => rfl) ?_
  refine gs_2 ha rfl ?_
  refine lena (X := mm_xt) (nx := 44) (n := 18) (st_I3 ha) rfl (by rw [la3]; rfl) ?_
  refine aca (st_I3 hb) (st_I3 ha) rfl (by omega) (by omega) (by omega) (by rw [lb3]; omega) (by rw [la3]; omega) rfl ?_
  have c3 : cpI (M2 (b + 3)) (M2 (a + 3)) (0 : Int32).toInt.toNat (0 : Int32).toInt.toNat (18 : Int32).toInt.toNat = M2 (b + 3) := cpI_all lb3 la3
  rw [c3]
  rw [v3b2]
  generalize hM3 : uA M2 (a + 3) (A (b + 3)) = M3
  have v4a3 : M3 (a + 4) = A (a + 4) := by rw [← hM3, uA_ne (by have := st_apartx ha hb; omega)]; exact v4a2
  have v4b3 : M3 (b + 4) = A (b + 4) := by rw [← hM3, uA_ne (by have := st_apartx ha hb; omega)]; exact v4b2
  refine w_st (fun _ => rfl) ?_
  refine gs_3 hb rfl ?_
  refine w_st (fun _ => rfl) ?_
  refine w_st (fun _ => rfl) ?_
  refine gs_3 ha rfl ?_
  refine w_st (fun _ => rfl) ?_
  have la4 : (M3 (a + 4)).length = 3 := by rw [v4a3]; exact o4
  have lb4 : (M3 (b + 4)).length = 3 := by rw [v4b3]; exact q4
  refine w_st (fun _ => rfl) ?_
  refine aca (st_I4 hb) (st_I4 ha) rfl (by omega) (by omega) (by omega) (by rw [lb4]; omega) (by rw [la4]; omega) rfl ?_
  have c4 : cpI (M3 (b + 4)) (M3 (a + 4)) (0 : Int32).toInt.toNat (0 : Int32).toInt.toNat (3 : Int32).toInt.toNat = M3 (b + 4) := cpI_all lb4 la4
  rw [c4]
  rw [v4b3]
  generalize hM4 : uA M3 (a + 4) (A (b + 4)) = M4
  refine w_st (fun _ => rfl) ?_
  refine w_st (fun _ => rfl) ?_
  refine gs_4 hb rfl ?_
  refine ps_4 ha rfl ?_
  refine w_st (fun _ => rfl) ?_
  refine w_st (fun _ => rfl) ?_
  refine gs_5 hb rfl ?_
  refine ps_5 ha rfl ?_
  refine w_st (fun _ => rfl) ?_
  refine w_st (fun _ => rfl) ?_
  refine gs_6 hb rfl ?_
  refine ps_6 ha rfl ?_
  refine w_rt (fun _ => rfl) ⟨⟨_, _, _, _, rfl⟩, ?_, rfl⟩
  have eA : M4 = cpA A a b := by
    rw [← hM4, ← hM3, ← hM2, ← hM1]
    funext j
    simp only [uA_get, cpA]
    by_cases h1 : j = a + 1
    · simp [h1]
    · by_cases h2 : j = a + 2
      · simp [h2]
      · by_cases h3 : j = a + 3
        · simp [h3]
        · simp [h1, h2, h3]
  have eF : uF (uF (uF F a 4 (F b 4)) a 5 (uF F a 4 (F b 4) b 5)) a 6 (uF (uF F a 4 (F b 4)) a 5 (uF F a 4 (F b 4) b 5) b 6) = cpF F a b := by
    have h1 : uF F a 4 (F b 4) b 5 = F b 5 := uF_ne (fun w => by omega)
    have h2 : uF (uF F a 4 (F b 4)) a 5 (F b 5) b 6 = F b 6 := by rw [uF_ne (fun w => by omega), uF_ne (fun w => by omega)]
    rw [h1, h2]
    rfl
  rw [eA, eF]
