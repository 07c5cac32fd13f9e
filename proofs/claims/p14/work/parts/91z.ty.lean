theorem ty0_0 (j : Nat) : (tyB 0 j).1 ≤ rd m00 0 j ∧ rd m00 0 j ≤ (tyB 0 j).2 := by
  exact i_rg _
theorem ty0_1 (j : Nat) : (tyB 1 j).1 ≤ rd m00 1 j ∧ rd m00 1 j ≤ (tyB 1 j).2 := by
  by_cases h0 : j = 0
  · subst h0; decide
  by_cases h6 : j = 6
  · subst h6; decide
  have e : tyB 1 j = (-2147483648, 2147483647) := by
    show (bif Nat.beq j 0 then (0, 2000) else (bif Nat.beq j 6 then (0, 2000) else (-2147483648, 2147483647))) = (-2147483648, 2147483647)
    rw [nb_ne h0, nb_ne h6]
    rfl
  rw [e]
  exact i_rg _
theorem ty0_2 (j : Nat) : (tyB 2 j).1 ≤ rd m00 2 j ∧ rd m00 2 j ≤ (tyB 2 j).2 := by
  exact i_rg _
theorem ty0_3 (j : Nat) : (tyB 3 j).1 ≤ rd m00 3 j ∧ rd m00 3 j ≤ (tyB 3 j).2 := by
  exact i_rg _
theorem ty0_4 (j : Nat) : (tyB 4 j).1 ≤ rd m00 4 j ∧ rd m00 4 j ≤ (tyB 4 j).2 := by
  exact i_rg _
theorem ty0_5 (j : Nat) : (tyB 5 j).1 ≤ rd m00 5 j ∧ rd m00 5 j ≤ (tyB 5 j).2 := by
  show (-128 : Int) ≤ (([] : List Int32).getD j 0).toInt ∧ (([] : List Int32).getD j 0).toInt ≤ 127
  exact gd_all (by decide +kernel) (by decide) j
theorem ty0_6 (j : Nat) : (tyB 6 j).1 ≤ rd m00 6 j ∧ rd m00 6 j ≤ (tyB 6 j).2 := by
  exact i_rg _
theorem ty0_7 (j : Nat) : (tyB 7 j).1 ≤ rd m00 7 j ∧ rd m00 7 j ≤ (tyB 7 j).2 := by
  by_cases h0 : j = 0
  · subst h0; decide
  by_cases h1 : j = 1
  · subst h1; decide
  by_cases h3 : j = 3
  · subst h3; decide
  have e : tyB 7 j = (-2147483648, 2147483647) := by
    show (bif Nat.beq j 0 then (2, 5) else (bif Nat.beq j 1 then (2, 5) else (bif Nat.beq j 3 then (0, 3) else (-2147483648, 2147483647)))) = (-2147483648, 2147483647)
    rw [nb_ne h0, nb_ne h1, nb_ne h3]
    rfl
  rw [e]
  exact i_rg _
theorem ty0_8 (j : Nat) : (tyB 8 j).1 ≤ rd m00 8 j ∧ rd m00 8 j ≤ (tyB 8 j).2 := by
  show (0 : Int) ≤ (([] : List Int32).getD j 0).toInt ∧ (([] : List Int32).getD j 0).toInt ≤ 9
  exact gd_all (by decide +kernel) (by decide) j
theorem ty0_9 (j : Nat) : (tyB 9 j).1 ≤ rd m00 9 j ∧ rd m00 9 j ≤ (tyB 9 j).2 := by
  show (-1 : Int) ≤ (([(-1), (-1), (-1)] : List Int32).getD j 0).toInt ∧ (([(-1), (-1), (-1)] : List Int32).getD j 0).toInt ≤ 24
  exact gd_all (by decide +kernel) (by decide) j
theorem ty0_10 (j : Nat) : (tyB 10 j).1 ≤ rd m00 10 j ∧ rd m00 10 j ≤ (tyB 10 j).2 := by
  show (0 : Int) ≤ (([] : List Int32).getD j 0).toInt ∧ (([] : List Int32).getD j 0).toInt ≤ 9999
  exact gd_all (by decide +kernel) (by decide) j
theorem ty0_11 (j : Nat) : (tyB 11 j).1 ≤ rd m00 11 j ∧ rd m00 11 j ≤ (tyB 11 j).2 := by
  by_cases h4 : j = 4
  · subst h4; decide
  have e : tyB 11 j = (-2147483648, 2147483647) := by
    show (bif Nat.beq j 4 then (0, 420) else (-2147483648, 2147483647)) = (-2147483648, 2147483647)
    rw [nb_ne h4]
    rfl
  rw [e]
  exact i_rg _
theorem ty0_12 (j : Nat) : (tyB 12 j).1 ≤ rd m00 12 j ∧ rd m00 12 j ≤ (tyB 12 j).2 := by
  exact i_rg _
theorem ty0_13 (j : Nat) : (tyB 13 j).1 ≤ rd m00 13 j ∧ rd m00 13 j ≤ (tyB 13 j).2 := by
  show (0 : Int) ≤ (([8, 2, 0, 2, 8, 2, 0, 2] : List Int32).getD j 0).toInt ∧ (([8, 2, 0, 2, 8, 2, 0, 2] : List Int32).getD j 0).toInt ≤ 79999
  exact gd_all (by decide +kernel) (by decide) j
theorem ty0_14 (j : Nat) : (tyB 14 j).1 ≤ rd m00 14 j ∧ rd m00 14 j ≤ (tyB 14 j).2 := by
  show (0 : Int) ≤ (([0, 2, 4, 6] : List Int32).getD j 0).toInt ∧ (([0, 2, 4, 6] : List Int32).getD j 0).toInt ≤ 420
  exact gd_all (by decide +kernel) (by decide) j
theorem ty0_15 (j : Nat) : (tyB 15 j).1 ≤ rd m00 15 j ∧ rd m00 15 j ≤ (tyB 15 j).2 := by
  exact i_rg _
theorem ty0_16 (j : Nat) : (tyB 16 j).1 ≤ rd m00 16 j ∧ rd m00 16 j ≤ (tyB 16 j).2 := by
  exact i_rg _
theorem ty0_17 (j : Nat) : (tyB 17 j).1 ≤ rd m00 17 j ∧ rd m00 17 j ≤ (tyB 17 j).2 := by
  exact i_rg _
theorem ty0_18 (j : Nat) : (tyB 18 j).1 ≤ rd m00 18 j ∧ rd m00 18 j ≤ (tyB 18 j).2 := by
  show (-1 : Int) ≤ (([1, 4, (-1), (-1), 2, 5, 0, (-1), 3, 6, 1, (-1), (-1), 7, 2, (-1), 5, 8, (-1), 0, 6, 9, 4, 1, 7, 10, 5, 2, (-1), 11, 6, 3, 9, 12, (-1), 4, 10, 13, 8, 5, 11, 14, 9, 6, (-1), 15, 10, 7, 13, (-1), (-1), 8, 14, (-1), 12, 9, 15, (-1), 13, 10, (-1), (-1), 14, 11] : List Int32).getD j 0).toInt ∧ (([1, 4, (-1), (-1), 2, 5, 0, (-1), 3, 6, 1, (-1), (-1), 7, 2, (-1), 5, 8, (-1), 0, 6, 9, 4, 1, 7, 10, 5, 2, (-1), 11, 6, 3, 9, 12, (-1), 4, 10, 13, 8, 5, 11, 14, 9, 6, (-1), 15, 10, 7, 13, (-1), (-1), 8, 14, (-1), 12, 9, 15, (-1), 13, 10, (-1), (-1), 14, 11] : List Int32).getD j 0).toInt ≤ 24
  exact gd_all (by decide +kernel) (by decide) j
theorem ty0_19 (j : Nat) : (tyB 19 j).1 ≤ rd m00 19 j ∧ rd m00 19 j ≤ (tyB 19 j).2 := by
  by_cases h4 : j = 4
  · subst h4; decide
  by_cases h8 : j = 8
  · subst h8; decide
  by_cases h9 : j = 9
  · subst h9; decide
  by_cases h11 : j = 11
  · subst h11; decide
  by_cases h12 : j = 12
  · subst h12; decide
  by_cases h13 : j = 13
  · subst h13; decide
  have e : tyB 19 j = (-2147483648, 2147483647) := by
    show (bif Nat.beq j 4 then (0, 400) else (bif Nat.beq j 8 then (0, 9999) else (bif Nat.beq j 9 then (0, 9999) else (bif Nat.beq j 11 then (0, 8) else (bif Nat.beq j 12 then (0, 10) else (bif Nat.beq j 13 then (0, 3) else (-2147483648, 2147483647))))))) = (-2147483648, 2147483647)
    rw [nb_ne h4, nb_ne h8, nb_ne h9, nb_ne h11, nb_ne h12, nb_ne h13]
    rfl
  rw [e]
  exact i_rg _
theorem ty0_20 (j : Nat) : (tyB 20 j).1 ≤ rd m00 20 j ∧ rd m00 20 j ≤ (tyB 20 j).2 := by
  by_cases h4 : j = 4
  · subst h4; decide
  have e : tyB 20 j = (-2147483648, 2147483647) := by
    show (bif Nat.beq j 4 then (0, 420) else (-2147483648, 2147483647)) = (-2147483648, 2147483647)
    rw [nb_ne h4]
    rfl
  rw [e]
  exact i_rg _
theorem ty0_21 (j : Nat) : (tyB 21 j).1 ≤ rd m00 21 j ∧ rd m00 21 j ≤ (tyB 21 j).2 := by
  exact i_rg _
theorem ty0_22 (j : Nat) : (tyB 22 j).1 ≤ rd m00 22 j ∧ rd m00 22 j ≤ (tyB 22 j).2 := by
  show (0 : Int) ≤ (([8, 2, 0, 2, 8, 2, 0, 2] : List Int32).getD j 0).toInt ∧ (([8, 2, 0, 2, 8, 2, 0, 2] : List Int32).getD j 0).toInt ≤ 79999
  exact gd_all (by decide +kernel) (by decide) j
theorem ty0_23 (j : Nat) : (tyB 23 j).1 ≤ rd m00 23 j ∧ rd m00 23 j ≤ (tyB 23 j).2 := by
  show (0 : Int) ≤ (([0, 2, 4, 6] : List Int32).getD j 0).toInt ∧ (([0, 2, 4, 6] : List Int32).getD j 0).toInt ≤ 420
  exact gd_all (by decide +kernel) (by decide) j
theorem ty0_24 (j : Nat) : (tyB 24 j).1 ≤ rd m00 24 j ∧ rd m00 24 j ≤ (tyB 24 j).2 := by
  exact i_rg _
theorem ty0_25 (j : Nat) : (tyB 25 j).1 ≤ rd m00 25 j ∧ rd m00 25 j ≤ (tyB 25 j).2 := by
  show (0 : Int) ≤ (([] : List Int32).getD j 0).toInt ∧ (([] : List Int32).getD j 0).toInt ≤ 9999
  exact gd_all (by decide +kernel) (by decide) j
theorem ty0_26 (j : Nat) : (tyB 26 j).1 ≤ rd m00 26 j ∧ rd m00 26 j ≤ (tyB 26 j).2 := by
  show (0 : Int) ≤ (([] : List Int32).getD j 0).toInt ∧ (([] : List Int32).getD j 0).toInt ≤ 9999
  exact gd_all (by decide +kernel) (by decide) j
theorem ty0_27 (j : Nat) : (tyB 27 j).1 ≤ rd m00 27 j ∧ rd m00 27 j ≤ (tyB 27 j).2 := by
  show (0 : Int) ≤ (([] : List Int32).getD j 0).toInt ∧ (([] : List Int32).getD j 0).toInt ≤ 9999
  exact gd_all (by decide +kernel) (by decide) j
theorem ty0_28 (j : Nat) : (tyB 28 j).1 ≤ rd m00 28 j ∧ rd m00 28 j ≤ (tyB 28 j).2 := by
  show (0 : Int) ≤ (([] : List Int32).getD j 0).toInt ∧ (([] : List Int32).getD j 0).toInt ≤ 9999
  exact gd_all (by decide +kernel) (by decide) j
theorem ty0_29 (j : Nat) : (tyB 29 j).1 ≤ rd m00 29 j ∧ rd m00 29 j ≤ (tyB 29 j).2 := by
  exact i_rg _
theorem ty0_30 (j : Nat) : (tyB 30 j).1 ≤ rd m00 30 j ∧ rd m00 30 j ≤ (tyB 30 j).2 := by
  exact i_rg _
theorem ty0_31 (j : Nat) : (tyB 31 j).1 ≤ rd m00 31 j ∧ rd m00 31 j ≤ (tyB 31 j).2 := by
  exact i_rg _
theorem ty0_32 (j : Nat) : (tyB 32 j).1 ≤ rd m00 32 j ∧ rd m00 32 j ≤ (tyB 32 j).2 := by
  show (0 : Int) ≤ (([0, 1, 2, 3, 4, 5, 4, 5, 2, 3, 1, 0, 2, 3, 1, 0, 4, 5, 5, 4, 2, 3, 0, 1, 3, 2, 0, 1, 4, 5, 1, 0, 2, 3, 5, 4, 2, 3, 5, 4, 1, 0, 3, 2, 4, 5, 1, 0, 4, 5, 1, 0, 3, 2, 1, 0, 3, 2, 4, 5, 5, 4, 1, 0, 2, 3, 2, 3, 4, 5, 0, 1, 3, 2, 5, 4, 0, 1, 4, 5, 0, 1, 2, 3, 5, 4, 0, 1, 3, 2, 2, 3, 0, 1, 5, 4, 3, 2, 1, 0, 5, 4, 1, 0, 5, 4, 3, 2, 5, 4, 3, 2, 1, 0, 0, 1, 5, 4, 2, 3, 1, 0, 4, 5, 2, 3, 0, 1, 4, 5, 3, 2, 4, 5, 3, 2, 0, 1, 0, 1, 3, 2, 5, 4] : List Int32).getD j 0).toInt ∧ (([0, 1, 2, 3, 4, 5, 4, 5, 2, 3, 1, 0, 2, 3, 1, 0, 4, 5, 5, 4, 2, 3, 0, 1, 3, 2, 0, 1, 4, 5, 1, 0, 2, 3, 5, 4, 2, 3, 5, 4, 1, 0, 3, 2, 4, 5, 1, 0, 4, 5, 1, 0, 3, 2, 1, 0, 3, 2, 4, 5, 5, 4, 1, 0, 2, 3, 2, 3, 4, 5, 0, 1, 3, 2, 5, 4, 0, 1, 4, 5, 0, 1, 2, 3, 5, 4, 0, 1, 3, 2, 2, 3, 0, 1, 5, 4, 3, 2, 1, 0, 5, 4, 1, 0, 5, 4, 3, 2, 5, 4, 3, 2, 1, 0, 0, 1, 5, 4, 2, 3, 1, 0, 4, 5, 2, 3, 0, 1, 4, 5, 3, 2, 4, 5, 3, 2, 0, 1, 0, 1, 3, 2, 5, 4] : List Int32).getD j 0).toInt ≤ 5
  exact gd_all (by decide +kernel) (by decide) j
theorem ty0_33 (j : Nat) : (tyB 33 j).1 ≤ rd m00 33 j ∧ rd m00 33 j ≤ (tyB 33 j).2 := by
  show (0 : Int) ≤ (([1, 2, 3, 4, 5, 6, 0, 7, 8, 9, 10, 0, 0, 11, 5, 12, 13, 0, 14, 9, 3, 15, 1, 16, 17, 18, 19, 1, 20, 1, 21, 18, 16, 17, 2, 21, 22, 4, 18, 2, 2, 20, 16, 19, 21, 22, 20, 3, 19, 3, 17, 22, 15, 19, 4, 20, 4, 21, 15, 17, 14, 23, 13, 5, 10, 5, 8, 23, 12, 14, 6, 8, 9, 7, 23, 6, 6, 10, 12, 13, 11, 13, 7, 10, 7, 8, 11, 14, 23, 12, 9, 11, 18, 16, 22, 15] : List Int32).getD j 0).toInt ∧ (([1, 2, 3, 4, 5, 6, 0, 7, 8, 9, 10, 0, 0, 11, 5, 12, 13, 0, 14, 9, 3, 15, 1, 16, 17, 18, 19, 1, 20, 1, 21, 18, 16, 17, 2, 21, 22, 4, 18, 2, 2, 20, 16, 19, 21, 22, 20, 3, 19, 3, 17, 22, 15, 19, 4, 20, 4, 21, 15, 17, 14, 23, 13, 5, 10, 5, 8, 23, 12, 14, 6, 8, 9, 7, 23, 6, 6, 10, 12, 13, 11, 13, 7, 10, 7, 8, 11, 14, 23, 12, 9, 11, 18, 16, 22, 15] : List Int32).getD j 0).toInt ≤ 23
  exact gd_all (by decide +kernel) (by decide) j
theorem ty0_34 (j : Nat) : (tyB 34 j).1 ≤ rd m00 34 j ∧ rd m00 34 j ≤ (tyB 34 j).2 := by
  exact i_rg _
theorem ty0_35 (j : Nat) : (tyB 35 j).1 ≤ rd m00 35 j ∧ rd m00 35 j ≤ (tyB 35 j).2 := by
  exact i_rg _
theorem ty0_36 (j : Nat) : (tyB 36 j).1 ≤ rd m00 36 j ∧ rd m00 36 j ≤ (tyB 36 j).2 := by
  by_cases h1 : j = 1
  · subst h1; decide
  have e : tyB 36 j = (-2147483648, 2147483647) := by
    show (bif Nat.beq j 1 then (0, 599) else (-2147483648, 2147483647)) = (-2147483648, 2147483647)
    rw [nb_ne h1]
    rfl
  rw [e]
  exact i_rg _
theorem ty0_37 (j : Nat) : (tyB 37 j).1 ≤ rd m00 37 j ∧ rd m00 37 j ≤ (tyB 37 j).2 := by
  show (-1 : Int) ≤ (([] : List Int32).getD j 0).toInt ∧ (([] : List Int32).getD j 0).toInt ≤ 24
  exact gd_all (by decide +kernel) (by decide) j
theorem ty0_38 (j : Nat) : (tyB 38 j).1 ≤ rd m00 38 j ∧ rd m00 38 j ≤ (tyB 38 j).2 := by
  show (0 : Int) ≤ (([] : List Int32).getD j 0).toInt ∧ (([] : List Int32).getD j 0).toInt ≤ 9
  exact gd_all (by decide +kernel) (by decide) j
theorem ty0_39 (j : Nat) : (tyB 39 j).1 ≤ rd m00 39 j ∧ rd m00 39 j ≤ (tyB 39 j).2 := by
  by_cases h0 : j = 0
  · subst h0; decide
  by_cases h7 : j = 7
  · subst h7; decide
  by_cases h8 : j = 8
  · subst h8; decide
  have e : tyB 39 j = (-2147483648, 2147483647) := by
    show (bif Nat.beq j 0 then (0, 600) else (bif Nat.beq j 7 then (44, 45) else (bif Nat.beq j 8 then (44, 45) else (-2147483648, 2147483647)))) = (-2147483648, 2147483647)
    rw [nb_ne h0, nb_ne h7, nb_ne h8]
    rfl
  rw [e]
  exact i_rg _
theorem ty0_40 (j : Nat) : (tyB 40 j).1 ≤ rd m00 40 j ∧ rd m00 40 j ≤ (tyB 40 j).2 := by
  show (0 : Int) ≤ (([] : List Int32).getD j 0).toInt ∧ (([] : List Int32).getD j 0).toInt ≤ 599
  exact gd_all (by decide +kernel) (by decide) j
theorem ty0_41 (j : Nat) : (tyB 41 j).1 ≤ rd m00 41 j ∧ rd m00 41 j ≤ (tyB 41 j).2 := by
  exact i_rg _
theorem ty0_42 (j : Nat) : (tyB 42 j).1 ≤ rd m00 42 j ∧ rd m00 42 j ≤ (tyB 42 j).2 := by
  show (-1 : Int) ≤ (([] : List Int32).getD j 0).toInt ∧ (([] : List Int32).getD j 0).toInt ≤ 599
  exact gd_all (by decide +kernel) (by decide) j
theorem ty0_43 (j : Nat) : (tyB 43 j).1 ≤ rd m00 43 j ∧ rd m00 43 j ≤ (tyB 43 j).2 := by
  exact i_rg _
theorem ty0_44 (j : Nat) : (tyB 44 j).1 ≤ rd m00 44 j ∧ rd m00 44 j ≤ (tyB 44 j).2 := by
  exact i_rg _
theorem ty0_45 (j : Nat) : (tyB 45 j).1 ≤ rd m00 45 j ∧ rd m00 45 j ≤ (tyB 45 j).2 := by
  exact i_rg _
theorem ty0_46 (j : Nat) : (tyB 46 j).1 ≤ rd m00 46 j ∧ rd m00 46 j ≤ (tyB 46 j).2 := by
  show (-1 : Int) ≤ (([] : List Int32).getD j 0).toInt ∧ (([] : List Int32).getD j 0).toInt ≤ 599
  exact gd_all (by decide +kernel) (by decide) j
theorem ty0_47 (j : Nat) : (tyB 47 j).1 ≤ rd m00 47 j ∧ rd m00 47 j ≤ (tyB 47 j).2 := by
  show (-1 : Int) ≤ (([] : List Int32).getD j 0).toInt ∧ (([] : List Int32).getD j 0).toInt ≤ 599
  exact gd_all (by decide +kernel) (by decide) j
theorem ty0_48 (j : Nat) : (tyB 48 j).1 ≤ rd m00 48 j ∧ rd m00 48 j ≤ (tyB 48 j).2 := by
  show (-1 : Int) ≤ (([] : List Int32).getD j 0).toInt ∧ (([] : List Int32).getD j 0).toInt ≤ 599
  exact gd_all (by decide +kernel) (by decide) j
theorem ty0_49 (j : Nat) : (tyB 49 j).1 ≤ rd m00 49 j ∧ rd m00 49 j ≤ (tyB 49 j).2 := by
  by_cases h0 : j = 0
  · subst h0; decide
  by_cases h9 : j = 9
  · subst h9; decide
  by_cases h10 : j = 10
  · subst h10; decide
  have e : tyB 49 j = (-2147483648, 2147483647) := by
    show (bif Nat.beq j 0 then (0, 20) else (bif Nat.beq j 9 then (0, 20) else (bif Nat.beq j 10 then (0, 5) else (-2147483648, 2147483647)))) = (-2147483648, 2147483647)
    rw [nb_ne h0, nb_ne h9, nb_ne h10]
    rfl
  rw [e]
  exact i_rg _
theorem ty0_50 (j : Nat) : (tyB 50 j).1 ≤ rd m00 50 j ∧ rd m00 50 j ≤ (tyB 50 j).2 := by
  show (0 : Int) ≤ (([] : List Int32).getD j 0).toInt ∧ (([] : List Int32).getD j 0).toInt ≤ 5
  exact gd_all (by decide +kernel) (by decide) j
theorem ty0_51 (j : Nat) : (tyB 51 j).1 ≤ rd m00 51 j ∧ rd m00 51 j ≤ (tyB 51 j).2 := by
  exact i_rg _
theorem ty0_52 (j : Nat) : (tyB 52 j).1 ≤ rd m00 52 j ∧ rd m00 52 j ≤ (tyB 52 j).2 := by
  exact i_rg _
theorem ty0_53 (j : Nat) : (tyB 53 j).1 ≤ rd m00 53 j ∧ rd m00 53 j ≤ (tyB 53 j).2 := by
  show (0 : Int) ≤ (([] : List Int32).getD j 0).toInt ∧ (([] : List Int32).getD j 0).toInt ≤ 9
  exact gd_all (by decide +kernel) (by decide) j
theorem ty0_54 (j : Nat) : (tyB 54 j).1 ≤ rd m00 54 j ∧ rd m00 54 j ≤ (tyB 54 j).2 := by
  exact i_rg _
theorem ty0_55 (j : Nat) : (tyB 55 j).1 ≤ rd m00 55 j ∧ rd m00 55 j ≤ (tyB 55 j).2 := by
  by_cases h0 : j = 0
  · subst h0; decide
  by_cases h4 : j = 4
  · subst h4; decide
  have e : tyB 55 j = (-2147483648, 2147483647) := by
    show (bif Nat.beq j 0 then (0, 40) else (bif Nat.beq j 4 then (0, 39) else (-2147483648, 2147483647))) = (-2147483648, 2147483647)
    rw [nb_ne h0, nb_ne h4]
    rfl
  rw [e]
  exact i_rg _
theorem ty0_56 (j : Nat) : (tyB 56 j).1 ≤ rd m00 56 j ∧ rd m00 56 j ≤ (tyB 56 j).2 := by
  exact i_rg _
theorem ty0_57 (j : Nat) : (tyB 57 j).1 ≤ rd m00 57 j ∧ rd m00 57 j ≤ (tyB 57 j).2 := by
  exact i_rg _
theorem ty0_58 (j : Nat) : (tyB 58 j).1 ≤ rd m00 58 j ∧ rd m00 58 j ≤ (tyB 58 j).2 := by
  exact i_rg _
theorem ty0_284 (j : Nat) : (tyB 284 j).1 ≤ rd m00 284 j ∧ rd m00 284 j ≤ (tyB 284 j).2 := by
  by_cases h2 : j = 2
  · subst h2; decide
  by_cases h4 : j = 4
  · subst h4; decide
  by_cases h10 : j = 10
  · subst h10; decide
  by_cases h11 : j = 11
  · subst h11; decide
  by_cases h12 : j = 12
  · subst h12; decide
  by_cases h18 : j = 18
  · subst h18; decide
  by_cases h19 : j = 19
  · subst h19; decide
  by_cases h20 : j = 20
  · subst h20; decide
  by_cases h38 : j = 38
  · subst h38; decide
  by_cases h44 : j = 44
  · subst h44; decide
  by_cases h48 : j = 48
  · subst h48; decide
  by_cases h60 : j = 60
  · subst h60; decide
  by_cases h67 : j = 67
  · subst h67; decide
  by_cases h72 : j = 72
  · subst h72; decide
  have e : tyB 284 j = (-2147483648, 2147483647) := by
    show (bif Nat.beq j 2 then (0, 2000) else (bif Nat.beq j 4 then (0, 2000) else (bif Nat.beq j 10 then (0, 402) else (bif Nat.beq j 11 then (0, 400) else (bif Nat.beq j 12 then (0, 9) else (bif Nat.beq j 18 then (0, 1) else (bif Nat.beq j 19 then (0, 1) else (bif Nat.beq j 20 then (0, 3) else (bif Nat.beq j 38 then (0, 260) else (bif Nat.beq j 44 then (0, 840) else (bif Nat.beq j 48 then (0, 64) else (bif Nat.beq j 60 then (0, 40) else (bif Nat.beq j 67 then (0, 600) else (bif Nat.beq j 72 then (0, 20) else (-2147483648, 2147483647))))))))))))))) = (-2147483648, 2147483647)
    rw [nb_ne h2, nb_ne h4, nb_ne h10, nb_ne h11, nb_ne h12, nb_ne h18, nb_ne h19, nb_ne h20, nb_ne h38, nb_ne h44, nb_ne h48, nb_ne h60, nb_ne h67, nb_ne h72]
    rfl
  rw [e]
  exact i_rg _
theorem ty0_285 (j : Nat) : (tyB 285 j).1 ≤ rd m00 285 j ∧ rd m00 285 j ≤ (tyB 285 j).2 := by
  show (-128 : Int) ≤ (([] : List Int32).getD j 0).toInt ∧ (([] : List Int32).getD j 0).toInt ≤ 127
  exact gd_all (by decide +kernel) (by decide) j
theorem ty0_286 (j : Nat) : (tyB 286 j).1 ≤ rd m00 286 j ∧ rd m00 286 j ≤ (tyB 286 j).2 := by
  show (-128 : Int) ≤ (([] : List Int32).getD j 0).toInt ∧ (([] : List Int32).getD j 0).toInt ≤ 127
  exact gd_all (by decide +kernel) (by decide) j
theorem ty0_287 (j : Nat) : (tyB 287 j).1 ≤ rd m00 287 j ∧ rd m00 287 j ≤ (tyB 287 j).2 := by
  show (0 : Int) ≤ (([] : List Int32).getD j 0).toInt ∧ (([] : List Int32).getD j 0).toInt ≤ 40
  exact gd_all (by decide +kernel) (by decide) j
theorem ty0_288 (j : Nat) : (tyB 288 j).1 ≤ rd m00 288 j ∧ rd m00 288 j ≤ (tyB 288 j).2 := by
  exact i_rg _
theorem ty0_289 (j : Nat) : (tyB 289 j).1 ≤ rd m00 289 j ∧ rd m00 289 j ≤ (tyB 289 j).2 := by
  show (0 : Int) ≤ (([] : List Int32).getD j 0).toInt ∧ (([] : List Int32).getD j 0).toInt ≤ 9999
  exact gd_all (by decide +kernel) (by decide) j
theorem ty0_290 (j : Nat) : (tyB 290 j).1 ≤ rd m00 290 j ∧ rd m00 290 j ≤ (tyB 290 j).2 := by
  exact i_rg _
theorem ty0_291 (j : Nat) : (tyB 291 j).1 ≤ rd m00 291 j ∧ rd m00 291 j ≤ (tyB 291 j).2 := by
  exact i_rg _
theorem ty0_292 (j : Nat) : (tyB 292 j).1 ≤ rd m00 292 j ∧ rd m00 292 j ≤ (tyB 292 j).2 := by
  exact i_rg _
theorem ty0_293 (j : Nat) : (tyB 293 j).1 ≤ rd m00 293 j ∧ rd m00 293 j ≤ (tyB 293 j).2 := by
  show (0 : Int) ≤ (([4, 4] : List Int32).getD j 0).toInt ∧ (([4, 4] : List Int32).getD j 0).toInt ≤ 9999
  exact gd_all (by decide +kernel) (by decide) j
theorem ty0_294 (j : Nat) : (tyB 294 j).1 ≤ rd m00 294 j ∧ rd m00 294 j ≤ (tyB 294 j).2 := by
  show (0 : Int) ≤ (([4, 4] : List Int32).getD j 0).toInt ∧ (([4, 4] : List Int32).getD j 0).toInt ≤ 9999
  exact gd_all (by decide +kernel) (by decide) j
theorem ty0_295 (j : Nat) : (tyB 295 j).1 ≤ rd m00 295 j ∧ rd m00 295 j ≤ (tyB 295 j).2 := by
  show (0 : Int) ≤ (([] : List Int32).getD j 0).toInt ∧ (([] : List Int32).getD j 0).toInt ≤ 8
  exact gd_all (by decide +kernel) (by decide) j
theorem ty0_296 (j : Nat) : (tyB 296 j).1 ≤ rd m00 296 j ∧ rd m00 296 j ≤ (tyB 296 j).2 := by
  show (0 : Int) ≤ (([] : List Int32).getD j 0).toInt ∧ (([] : List Int32).getD j 0).toInt ≤ 9999
  exact gd_all (by decide +kernel) (by decide) j
theorem ty0_297 (j : Nat) : (tyB 297 j).1 ≤ rd m00 297 j ∧ rd m00 297 j ≤ (tyB 297 j).2 := by
  show (0 : Int) ≤ (([] : List Int32).getD j 0).toInt ∧ (([] : List Int32).getD j 0).toInt ≤ 9999
  exact gd_all (by decide +kernel) (by decide) j
theorem ty0_298 (j : Nat) : (tyB 298 j).1 ≤ rd m00 298 j ∧ rd m00 298 j ≤ (tyB 298 j).2 := by
  show (0 : Int) ≤ (([] : List Int32).getD j 0).toInt ∧ (([] : List Int32).getD j 0).toInt ≤ 10
  exact gd_all (by decide +kernel) (by decide) j
theorem ty0_299 (j : Nat) : (tyB 299 j).1 ≤ rd m00 299 j ∧ rd m00 299 j ≤ (tyB 299 j).2 := by
  show (0 : Int) ≤ (([] : List Int32).getD j 0).toInt ∧ (([] : List Int32).getD j 0).toInt ≤ 9999
  exact gd_all (by decide +kernel) (by decide) j
theorem ty0_300 (j : Nat) : (tyB 300 j).1 ≤ rd m00 300 j ∧ rd m00 300 j ≤ (tyB 300 j).2 := by
  show (0 : Int) ≤ (([] : List Int32).getD j 0).toInt ∧ (([] : List Int32).getD j 0).toInt ≤ 9999
  exact gd_all (by decide +kernel) (by decide) j
theorem ty0_301 (j : Nat) : (tyB 301 j).1 ≤ rd m00 301 j ∧ rd m00 301 j ≤ (tyB 301 j).2 := by
  show (0 : Int) ≤ (([] : List Int32).getD j 0).toInt ∧ (([] : List Int32).getD j 0).toInt ≤ 9999
  exact gd_all (by decide +kernel) (by decide) j
theorem ty0_302 (j : Nat) : (tyB 302 j).1 ≤ rd m00 302 j ∧ rd m00 302 j ≤ (tyB 302 j).2 := by
  show (0 : Int) ≤ (([] : List Int32).getD j 0).toInt ∧ (([] : List Int32).getD j 0).toInt ≤ 3
  exact gd_all (by decide +kernel) (by decide) j
theorem ty0_303 (j : Nat) : (tyB 303 j).1 ≤ rd m00 303 j ∧ rd m00 303 j ≤ (tyB 303 j).2 := by
  show (0 : Int) ≤ (([] : List Int32).getD j 0).toInt ∧ (([] : List Int32).getD j 0).toInt ≤ 9999
  exact gd_all (by decide +kernel) (by decide) j
theorem ty0_304 (j : Nat) : (tyB 304 j).1 ≤ rd m00 304 j ∧ rd m00 304 j ≤ (tyB 304 j).2 := by
  show (0 : Int) ≤ (([] : List Int32).getD j 0).toInt ∧ (([] : List Int32).getD j 0).toInt ≤ 9999
  exact gd_all (by decide +kernel) (by decide) j
theorem ty0_305 (j : Nat) : (tyB 305 j).1 ≤ rd m00 305 j ∧ rd m00 305 j ≤ (tyB 305 j).2 := by
  show (0 : Int) ≤ (([] : List Int32).getD j 0).toInt ∧ (([] : List Int32).getD j 0).toInt ≤ 9999
  exact gd_all (by decide +kernel) (by decide) j
theorem ty0_306 (j : Nat) : (tyB 306 j).1 ≤ rd m00 306 j ∧ rd m00 306 j ≤ (tyB 306 j).2 := by
  show (0 : Int) ≤ (([] : List Int32).getD j 0).toInt ∧ (([] : List Int32).getD j 0).toInt ≤ 9999
  exact gd_all (by decide +kernel) (by decide) j
theorem ty0_307 (j : Nat) : (tyB 307 j).1 ≤ rd m00 307 j ∧ rd m00 307 j ≤ (tyB 307 j).2 := by
  show (0 : Int) ≤ (([] : List Int32).getD j 0).toInt ∧ (([] : List Int32).getD j 0).toInt ≤ 260
  exact gd_all (by decide +kernel) (by decide) j
theorem ty0_308 (j : Nat) : (tyB 308 j).1 ≤ rd m00 308 j ∧ rd m00 308 j ≤ (tyB 308 j).2 := by
  show (0 : Int) ≤ (([] : List Int32).getD j 0).toInt ∧ (([] : List Int32).getD j 0).toInt ≤ 260
  exact gd_all (by decide +kernel) (by decide) j
theorem ty0_309 (j : Nat) : (tyB 309 j).1 ≤ rd m00 309 j ∧ rd m00 309 j ≤ (tyB 309 j).2 := by
  exact i_rg _
theorem ty0_310 (j : Nat) : (tyB 310 j).1 ≤ rd m00 310 j ∧ rd m00 310 j ≤ (tyB 310 j).2 := by
  show (0 : Int) ≤ (([] : List Int32).getD j 0).toInt ∧ (([] : List Int32).getD j 0).toInt ≤ 840
  exact gd_all (by decide +kernel) (by decide) j
theorem ty0_311 (j : Nat) : (tyB 311 j).1 ≤ rd m00 311 j ∧ rd m00 311 j ≤ (tyB 311 j).2 := by
  show (0 : Int) ≤ (([] : List Int32).getD j 0).toInt ∧ (([] : List Int32).getD j 0).toInt ≤ 840
  exact gd_all (by decide +kernel) (by decide) j
theorem ty0_312 (j : Nat) : (tyB 312 j).1 ≤ rd m00 312 j ∧ rd m00 312 j ≤ (tyB 312 j).2 := by
  show (0 : Int) ≤ (([] : List Int32).getD j 0).toInt ∧ (([] : List Int32).getD j 0).toInt ≤ 840
  exact gd_all (by decide +kernel) (by decide) j
theorem ty0_313 (j : Nat) : (tyB 313 j).1 ≤ rd m00 313 j ∧ rd m00 313 j ≤ (tyB 313 j).2 := by
  show (0 : Int) ≤ (([] : List Int32).getD j 0).toInt ∧ (([] : List Int32).getD j 0).toInt ≤ 840
  exact gd_all (by decide +kernel) (by decide) j
theorem ty0_314 (j : Nat) : (tyB 314 j).1 ≤ rd m00 314 j ∧ rd m00 314 j ≤ (tyB 314 j).2 := by
  show (0 : Int) ≤ (([] : List Int32).getD j 0).toInt ∧ (([] : List Int32).getD j 0).toInt ≤ 5
  exact gd_all (by decide +kernel) (by decide) j
theorem ty0_315 (j : Nat) : (tyB 315 j).1 ≤ rd m00 315 j ∧ rd m00 315 j ≤ (tyB 315 j).2 := by
  show (0 : Int) ≤ (([] : List Int32).getD j 0).toInt ∧ (([] : List Int32).getD j 0).toInt ≤ 9999
  exact gd_all (by decide +kernel) (by decide) j
theorem ty0_316 (j : Nat) : (tyB 316 j).1 ≤ rd m00 316 j ∧ rd m00 316 j ≤ (tyB 316 j).2 := by
  exact i_rg _
theorem ty0_317 (j : Nat) : (tyB 317 j).1 ≤ rd m00 317 j ∧ rd m00 317 j ≤ (tyB 317 j).2 := by
  exact i_rg _
theorem ty0_318 (j : Nat) : (tyB 318 j).1 ≤ rd m00 318 j ∧ rd m00 318 j ≤ (tyB 318 j).2 := by
  exact i_rg _
theorem ty0_319 (j : Nat) : (tyB 319 j).1 ≤ rd m00 319 j ∧ rd m00 319 j ≤ (tyB 319 j).2 := by
  show (0 : Int) ≤ (([0, 1, 2, 3, 4, 5, 4, 5, 2, 3, 1, 0, 2, 3, 1, 0, 4, 5, 5, 4, 2, 3, 0, 1, 3, 2, 0, 1, 4, 5, 1, 0, 2, 3, 5, 4, 2, 3, 5, 4, 1, 0, 3, 2, 4, 5, 1, 0, 4, 5, 1, 0, 3, 2, 1, 0, 3, 2, 4, 5, 5, 4, 1, 0, 2, 3, 2, 3, 4, 5, 0, 1, 3, 2, 5, 4, 0, 1, 4, 5, 0, 1, 2, 3, 5, 4, 0, 1, 3, 2, 2, 3, 0, 1, 5, 4, 3, 2, 1, 0, 5, 4, 1, 0, 5, 4, 3, 2, 5, 4, 3, 2, 1, 0, 0, 1, 5, 4, 2, 3, 1, 0, 4, 5, 2, 3, 0, 1, 4, 5, 3, 2, 4, 5, 3, 2, 0, 1, 0, 1, 3, 2, 5, 4] : List Int32).getD j 0).toInt ∧ (([0, 1, 2, 3, 4, 5, 4, 5, 2, 3, 1, 0, 2, 3, 1, 0, 4, 5, 5, 4, 2, 3, 0, 1, 3, 2, 0, 1, 4, 5, 1, 0, 2, 3, 5, 4, 2, 3, 5, 4, 1, 0, 3, 2, 4, 5, 1, 0, 4, 5, 1, 0, 3, 2, 1, 0, 3, 2, 4, 5, 5, 4, 1, 0, 2, 3, 2, 3, 4, 5, 0, 1, 3, 2, 5, 4, 0, 1, 4, 5, 0, 1, 2, 3, 5, 4, 0, 1, 3, 2, 2, 3, 0, 1, 5, 4, 3, 2, 1, 0, 5, 4, 1, 0, 5, 4, 3, 2, 5, 4, 3, 2, 1, 0, 0, 1, 5, 4, 2, 3, 1, 0, 4, 5, 2, 3, 0, 1, 4, 5, 3, 2, 4, 5, 3, 2, 0, 1, 0, 1, 3, 2, 5, 4] : List Int32).getD j 0).toInt ≤ 5
  exact gd_all (by decide +kernel) (by decide) j
theorem ty0_320 (j : Nat) : (tyB 320 j).1 ≤ rd m00 320 j ∧ rd m00 320 j ≤ (tyB 320 j).2 := by
  show (0 : Int) ≤ (([1, 2, 3, 4, 5, 6, 0, 7, 8, 9, 10, 0, 0, 11, 5, 12, 13, 0, 14, 9, 3, 15, 1, 16, 17, 18, 19, 1, 20, 1, 21, 18, 16, 17, 2, 21, 22, 4, 18, 2, 2, 20, 16, 19, 21, 22, 20, 3, 19, 3, 17, 22, 15, 19, 4, 20, 4, 21, 15, 17, 14, 23, 13, 5, 10, 5, 8, 23, 12, 14, 6, 8, 9, 7, 23, 6, 6, 10, 12, 13, 11, 13, 7, 10, 7, 8, 11, 14, 23, 12, 9, 11, 18, 16, 22, 15] : List Int32).getD j 0).toInt ∧ (([1, 2, 3, 4, 5, 6, 0, 7, 8, 9, 10, 0, 0, 11, 5, 12, 13, 0, 14, 9, 3, 15, 1, 16, 17, 18, 19, 1, 20, 1, 21, 18, 16, 17, 2, 21, 22, 4, 18, 2, 2, 20, 16, 19, 21, 22, 20, 3, 19, 3, 17, 22, 15, 19, 4, 20, 4, 21, 15, 17, 14, 23, 13, 5, 10, 5, 8, 23, 12, 14, 6, 8, 9, 7, 23, 6, 6, 10, 12, 13, 11, 13, 7, 10, 7, 8, 11, 14, 23, 12, 9, 11, 18, 16, 22, 15] : List Int32).getD j 0).toInt ≤ 23
  exact gd_all (by decide +kernel) (by decide) j
theorem ty0_321 (j : Nat) : (tyB 321 j).1 ≤ rd m00 321 j ∧ rd m00 321 j ≤ (tyB 321 j).2 := by
  show (0 : Int) ≤ (([2, 3, 0, 1, 5, 4] : List Int32).getD j 0).toInt ∧ (([2, 3, 0, 1, 5, 4] : List Int32).getD j 0).toInt ≤ 9
  exact gd_all (by decide +kernel) (by decide) j
theorem ty0_322 (j : Nat) : (tyB 322 j).1 ≤ rd m00 322 j ∧ rd m00 322 j ≤ (tyB 322 j).2 := by
  show (ty51 j).1 ≤ (([] : List Int32).getD j 0).toInt ∧ (([] : List Int32).getD j 0).toInt ≤ (ty51 j).2
  unfold ty51
  split
  · exact gd_all (fun x h => by cases h) (by decide) j
  · split
    · exact gd_all (fun x h => by cases h) (by decide) j
    · exact i_rg _
theorem ty0_323 (j : Nat) : (tyB 323 j).1 ≤ rd m00 323 j ∧ rd m00 323 j ≤ (tyB 323 j).2 := by
  show (ty51 j).1 ≤ (([] : List Int32).getD j 0).toInt ∧ (([] : List Int32).getD j 0).toInt ≤ (ty51 j).2
  unfold ty51
  split
  · exact gd_all (fun x h => by cases h) (by decide) j
  · split
    · exact gd_all (fun x h => by cases h) (by decide) j
    · exact i_rg _
theorem ty0_324 (j : Nat) : (tyB 324 j).1 ≤ rd m00 324 j ∧ rd m00 324 j ≤ (tyB 324 j).2 := by
  show (ty51 j).1 ≤ (([] : List Int32).getD j 0).toInt ∧ (([] : List Int32).getD j 0).toInt ≤ (ty51 j).2
  unfold ty51
  split
  · exact gd_all (fun x h => by cases h) (by decide) j
  · split
    · exact gd_all (fun x h => by cases h) (by decide) j
    · exact i_rg _
theorem ty0_325 (j : Nat) : (tyB 325 j).1 ≤ rd m00 325 j ∧ rd m00 325 j ≤ (tyB 325 j).2 := by
  show (-1 : Int) ≤ (([] : List Int32).getD j 0).toInt ∧ (([] : List Int32).getD j 0).toInt ≤ 599
  exact gd_all (by decide +kernel) (by decide) j
theorem ty0_326 (j : Nat) : (tyB 326 j).1 ≤ rd m00 326 j ∧ rd m00 326 j ≤ (tyB 326 j).2 := by
  exact i_rg _
theorem ty0_327 (j : Nat) : (tyB 327 j).1 ≤ rd m00 327 j ∧ rd m00 327 j ≤ (tyB 327 j).2 := by
  show (0 : Int) ≤ (([] : List Int32).getD j 0).toInt ∧ (([] : List Int32).getD j 0).toInt ≤ 599
  exact gd_all (by decide +kernel) (by decide) j
theorem ty0_328 (j : Nat) : (tyB 328 j).1 ≤ rd m00 328 j ∧ rd m00 328 j ≤ (tyB 328 j).2 := by
  exact i_rg _
theorem ty0_329 (j : Nat) : (tyB 329 j).1 ≤ rd m00 329 j ∧ rd m00 329 j ≤ (tyB 329 j).2 := by
  show (0 : Int) ≤ (([] : List Int32).getD j 0).toInt ∧ (([] : List Int32).getD j 0).toInt ≤ 599
  exact gd_all (by decide +kernel) (by decide) j
theorem ty0_330 (j : Nat) : (tyB 330 j).1 ≤ rd m00 330 j ∧ rd m00 330 j ≤ (tyB 330 j).2 := by
  exact i_rg _
theorem ty0_331 (j : Nat) : (tyB 331 j).1 ≤ rd m00 331 j ∧ rd m00 331 j ≤ (tyB 331 j).2 := by
  show (0 : Int) ≤ (([] : List Int32).getD j 0).toInt ∧ (([] : List Int32).getD j 0).toInt ≤ 99
  exact gd_all (by decide +kernel) (by decide) j
theorem ty0_332 (j : Nat) : (tyB 332 j).1 ≤ rd m00 332 j ∧ rd m00 332 j ≤ (tyB 332 j).2 := by
  exact i_rg _
theorem ty0_333 (j : Nat) : (tyB 333 j).1 ≤ rd m00 333 j ∧ rd m00 333 j ≤ (tyB 333 j).2 := by
  exact i_rg _
theorem ty0_334 (j : Nat) : (tyB 334 j).1 ≤ rd m00 334 j ∧ rd m00 334 j ≤ (tyB 334 j).2 := by
  show (0 : Int) ≤ (([] : List Int32).getD j 0).toInt ∧ (([] : List Int32).getD j 0).toInt ≤ 5
  exact gd_all (by decide +kernel) (by decide) j
theorem ty0_335 (j : Nat) : (tyB 335 j).1 ≤ rd m00 335 j ∧ rd m00 335 j ≤ (tyB 335 j).2 := by
  exact i_rg _
theorem ty0_336 (j : Nat) : (tyB 336 j).1 ≤ rd m00 336 j ∧ rd m00 336 j ≤ (tyB 336 j).2 := by
  exact i_rg _
theorem ty0_337 (j : Nat) : (tyB 337 j).1 ≤ rd m00 337 j ∧ rd m00 337 j ≤ (tyB 337 j).2 := by
  show (0 : Int) ≤ (([] : List Int32).getD j 0).toInt ∧ (([] : List Int32).getD j 0).toInt ≤ 9
  exact gd_all (by decide +kernel) (by decide) j
theorem ty0_338 (j : Nat) : (tyB 338 j).1 ≤ rd m00 338 j ∧ rd m00 338 j ≤ (tyB 338 j).2 := by
  exact i_rg _
theorem ty0_339 (j : Nat) : (tyB 339 j).1 ≤ rd m00 339 j ∧ rd m00 339 j ≤ (tyB 339 j).2 := by
  exact i_rg _
theorem ty0_340 (j : Nat) : (tyB 340 j).1 ≤ rd m00 340 j ∧ rd m00 340 j ≤ (tyB 340 j).2 := by
  show (ty51 j).1 ≤ (([] : List Int32).getD j 0).toInt ∧ (([] : List Int32).getD j 0).toInt ≤ (ty51 j).2
  unfold ty51
  split
  · exact gd_all (fun x h => by cases h) (by decide) j
  · split
    · exact gd_all (fun x h => by cases h) (by decide) j
    · exact i_rg _
theorem ty0_mem : ∀ i : Nat, i < 341 → ¬ (59 ≤ i ∧ i < 284) → i ∈ [0, 1, 2, 3, 4, 5, 6, 7, 8, 9, 10, 11, 12, 13, 14, 15, 16, 17, 18, 19, 20, 21, 22, 23, 24, 25, 26, 27, 28, 29, 30, 31, 32, 33, 34, 35, 36, 37, 38, 39, 40, 41, 42, 43, 44, 45, 46, 47, 48, 49, 50, 51, 52, 53, 54, 55, 56, 57, 58, 284, 285, 286, 287, 288, 289, 290, 291, 292, 293, 294, 295, 296, 297, 298, 299, 300, 301, 302, 303, 304, 305, 306, 307, 308, 309, 310, 311, 312, 313, 314, 315, 316, 317, 318, 319, 320, 321, 322, 323, 324, 325, 326, 327, 328, 329, 330, 331, 332, 333, 334, 335, 336, 337, 338, 339, 340] := by decide +kernel
theorem ty0_all : ∀ i ∈ [0, 1, 2, 3, 4, 5, 6, 7, 8, 9, 10, 11, 12, 13, 14, 15, 16, 17, 18, 19, 20, 21, 22, 23, 24, 25, 26, 27, 28, 29, 30, 31, 32, 33, 34, 35, 36, 37, 38, 39, 40, 41, 42, 43, 44, 45, 46, 47, 48, 49, 50, 51, 52, 53, 54, 55, 56, 57, 58, 284, 285, 286, 287, 288, 289, 290, 291, 292, 293, 294, 295, 296, 297, 298, 299, 300, 301, 302, 303, 304, 305, 306, 307, 308, 309, 310, 311, 312, 313, 314, 315, 316, 317, 318, 319, 320, 321, 322, 323, 324, 325, 326, 327, 328, 329, 330, 331, 332, 333, 334, 335, 336, 337, 338, 339, 340], ∀ j : Nat, (tyB i j).1 ≤ rd m00 i j ∧ rd m00 i j ≤ (tyB i j).2 := List.forall_mem_cons.mpr ⟨ty0_0, List.forall_mem_cons.mpr ⟨ty0_1, List.forall_mem_cons.mpr ⟨ty0_2, List.forall_mem_cons.mpr ⟨ty0_3, List.forall_mem_cons.mpr ⟨ty0_4, List.forall_mem_cons.mpr ⟨ty0_5, List.forall_mem_cons.mpr ⟨ty0_6, List.forall_mem_cons.mpr ⟨ty0_7, List.forall_mem_cons.mpr ⟨ty0_8, List.forall_mem_cons.mpr ⟨ty0_9, List.forall_mem_cons.mpr ⟨ty0_10, List.forall_mem_cons.mpr ⟨ty0_11, List.forall_mem_cons.mpr ⟨ty0_12, List.forall_mem_cons.mpr ⟨ty0_13, List.forall_mem_cons.mpr ⟨ty0_14, List.forall_mem_cons.mpr ⟨ty0_15, List.forall_mem_cons.mpr ⟨ty0_16, List.forall_mem_cons.mpr ⟨ty0_17, List.forall_mem_cons.mpr ⟨ty0_18, List.forall_mem_cons.mpr ⟨ty0_19, List.forall_mem_cons.mpr ⟨ty0_20, List.forall_mem_cons.mpr ⟨ty0_21, List.forall_mem_cons.mpr ⟨ty0_22, List.forall_mem_cons.mpr ⟨ty0_23, List.forall_mem_cons.mpr ⟨ty0_24, List.forall_mem_cons.mpr ⟨ty0_25, List.forall_mem_cons.mpr ⟨ty0_26, List.forall_mem_cons.mpr ⟨ty0_27, List.forall_mem_cons.mpr ⟨ty0_28, List.forall_mem_cons.mpr ⟨ty0_29, List.forall_mem_cons.mpr ⟨ty0_30, List.forall_mem_cons.mpr ⟨ty0_31, List.forall_mem_cons.mpr ⟨ty0_32, List.forall_mem_cons.mpr ⟨ty0_33, List.forall_mem_cons.mpr ⟨ty0_34, List.forall_mem_cons.mpr ⟨ty0_35, List.forall_mem_cons.mpr ⟨ty0_36, List.forall_mem_cons.mpr ⟨ty0_37, List.forall_mem_cons.mpr ⟨ty0_38, List.forall_mem_cons.mpr ⟨ty0_39, List.forall_mem_cons.mpr ⟨ty0_40, List.forall_mem_cons.mpr ⟨ty0_41, List.forall_mem_cons.mpr ⟨ty0_42, List.forall_mem_cons.mpr ⟨ty0_43, List.forall_mem_cons.mpr ⟨ty0_44, List.forall_mem_cons.mpr ⟨ty0_45, List.forall_mem_cons.mpr ⟨ty0_46, List.forall_mem_cons.mpr ⟨ty0_47, List.forall_mem_cons.mpr ⟨ty0_48, List.forall_mem_cons.mpr ⟨ty0_49, List.forall_mem_cons.mpr ⟨ty0_50, List.forall_mem_cons.mpr ⟨ty0_51, List.forall_mem_cons.mpr ⟨ty0_52, List.forall_mem_cons.mpr ⟨ty0_53, List.forall_mem_cons.mpr ⟨ty0_54, List.forall_mem_cons.mpr ⟨ty0_55, List.forall_mem_cons.mpr ⟨ty0_56, List.forall_mem_cons.mpr ⟨ty0_57, List.forall_mem_cons.mpr ⟨ty0_58, List.forall_mem_cons.mpr ⟨ty0_284, List.forall_mem_cons.mpr ⟨ty0_285, List.forall_mem_cons.mpr ⟨ty0_286, List.forall_mem_cons.mpr ⟨ty0_287, List.forall_mem_cons.mpr ⟨ty0_288, List.forall_mem_cons.mpr ⟨ty0_289, List.forall_mem_cons.mpr ⟨ty0_290, List.forall_mem_cons.mpr ⟨ty0_291, List.forall_mem_cons.mpr ⟨ty0_292, List.forall_mem_cons.mpr ⟨ty0_293, List.forall_mem_cons.mpr ⟨ty0_294, List.forall_mem_cons.mpr ⟨ty0_295, List.forall_mem_cons.mpr ⟨ty0_296, List.forall_mem_cons.mpr ⟨ty0_297, List.forall_mem_cons.mpr ⟨ty0_298, List.forall_mem_cons.mpr ⟨ty0_299, List.forall_mem_cons.mpr ⟨ty0_300, List.forall_mem_cons.mpr ⟨ty0_301, List.forall_mem_cons.mpr ⟨ty0_302, List.forall_mem_cons.mpr ⟨ty0_303, List.forall_mem_cons.mpr ⟨ty0_304, List.forall_mem_cons.mpr ⟨ty0_305, List.forall_mem_cons.mpr ⟨ty0_306, List.forall_mem_cons.mpr ⟨ty0_307, List.forall_mem_cons.mpr ⟨ty0_308, List.forall_mem_cons.mpr ⟨ty0_309, List.forall_mem_cons.mpr ⟨ty0_310, List.forall_mem_cons.mpr ⟨ty0_311, List.forall_mem_cons.mpr ⟨ty0_312, List.forall_mem_cons.mpr ⟨ty0_313, List.forall_mem_cons.mpr ⟨ty0_314, List.forall_mem_cons.mpr ⟨ty0_315, List.forall_mem_cons.mpr ⟨ty0_316, List.forall_mem_cons.mpr ⟨ty0_317, List.forall_mem_cons.mpr ⟨ty0_318, List.forall_mem_cons.mpr ⟨ty0_319, List.forall_mem_cons.mpr ⟨ty0_320, List.forall_mem_cons.mpr ⟨ty0_321, List.forall_mem_cons.mpr ⟨ty0_322, List.forall_mem_cons.mpr ⟨ty0_323, List.forall_mem_cons.mpr ⟨ty0_324, List.forall_mem_cons.mpr ⟨ty0_325, List.forall_mem_cons.mpr ⟨ty0_326, List.forall_mem_cons.mpr ⟨ty0_327, List.forall_mem_cons.mpr ⟨ty0_328, List.forall_mem_cons.mpr ⟨ty0_329, List.forall_mem_cons.mpr ⟨ty0_330, List.forall_mem_cons.mpr ⟨ty0_331, List.forall_mem_cons.mpr ⟨ty0_332, List.forall_mem_cons.mpr ⟨ty0_333, List.forall_mem_cons.mpr ⟨ty0_334, List.forall_mem_cons.mpr ⟨ty0_335, List.forall_mem_cons.mpr ⟨ty0_336, List.forall_mem_cons.mpr ⟨ty0_337, List.forall_mem_cons.mpr ⟨ty0_338, List.forall_mem_cons.mpr ⟨ty0_339, List.forall_mem_cons.mpr ⟨ty0_340, fun _ h => by cases h⟩⟩⟩⟩⟩⟩⟩⟩⟩⟩⟩⟩⟩⟩⟩⟩⟩⟩⟩⟩⟩⟩⟩⟩⟩⟩⟩⟩⟩⟩⟩⟩⟩⟩⟩⟩⟩⟩⟩⟩⟩⟩⟩⟩⟩⟩⟩⟩⟩⟩⟩⟩⟩⟩⟩⟩⟩⟩⟩⟩⟩⟩⟩⟩⟩⟩⟩⟩⟩⟩⟩⟩⟩⟩⟩⟩⟩⟩⟩⟩⟩⟩⟩⟩⟩⟩⟩⟩⟩⟩⟩⟩⟩⟩⟩⟩⟩⟩⟩⟩⟩⟩⟩⟩⟩⟩⟩⟩⟩⟩⟩⟩⟩⟩⟩⟩
theorem l00_st : ∀ d : Nat, d < 225 → ¬ d = 217 → l00 (59 + d) = [] := by decide +kernel
theorem Ty_00 : Ty m00 := by
  intro i j
  by_cases h1 : i < 341
  · by_cases h2 : 59 ≤ i ∧ i < 284
    · by_cases h3 : i = 276
      · subst h3
        show (-1 : Int) ≤ (([(-1), (-1), (-1)] : List Int32).getD j 0).toInt ∧ (([(-1), (-1), (-1)] : List Int32).getD j 0).toInt ≤ 24
        exact gd_all (by decide) (by decide) j
      · have e : rd m00 i j = 0 := by
          have q := l00_st (i - 59) (by omega) (by omega)
          rw [show 59 + (i - 59) = i by omega] at q
          show ((l00 i).getD j 0).toInt = 0
          rw [q]
          rfl
        rw [e]
        unfold tyB
        rw [if_pos h2]
        unfold tyS
        split
        · split <;> decide
        · split
          · decide
          · split
            · decide
            · split <;> decide
    · exact ty0_all i (ty0_mem i h1 h2) j
  · have e : tyB i j = (-2147483648, 2147483647) := by
      unfold tyB
      rw [if_neg (by omega)]
      unfold tyT
      rw [mm_blt, decide_eq_false h1]
      rfl
    rw [e]
    exact i_rg _
theorem CR_00 : CR m00 := by
  refine ⟨⟨fun j h q => ?_, fun j h q => ?_, fun i h q => ?_⟩, ⟨rfl, fun c h => ?_, fun k h => ?_⟩, fun k h => ?_, fun s h q => ?_⟩
  · have hj : j < 8 := by have e : rd m00 11 4 = 8 := by decide
                          omega
    exact absurd q ((by decide : ∀ j : Nat, j < 8 → ¬ rd m00 13 j % 8 = 1) j hj)
  · have hj : j < 8 := by have e : rd m00 20 4 = 8 := by decide
                          omega
    exact absurd q ((by decide : ∀ j : Nat, j < 8 → ¬ rd m00 22 j % 8 = 1) j hj)
  · exfalso
    cases i with
    | zero => exact absurd q (by decide)
    | succ n =>
      have e : rd m00 2 (n + 1) = 0 := by
        show (([] : List Int32).getD n 0).toInt = 0
        rfl
      omega
  · have e : rd m00 274 4 = 0 := by decide
    omega
  · have e : rd m00 274 4 = 0 := by decide
    omega
  · have e : rd m00 55 0 = 0 := by decide
    omega
  · exact absurd ((by decide : ∀ s : Nat, s < 3 → rd m00 58 s = 0) s h) q
theorem MI_00 : MI m00 := by
  refine ⟨Ty_00, ?_, fun k hk b h1 h2 => ?_⟩
  · unfold MW
    decide
  · have e : rd m00 308 (Int.toNat (4 * rd m00 284 18 + k)) = 0 := rfl
    omega
