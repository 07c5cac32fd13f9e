/-! Numbers: division, rest, shifts, where nothing wraps -/
theorem dv_wr (a b : Int) : dvI a b = wr ((wr a).tdiv (wr b)) := by
  unfold dvI io
  rw [Int32.toInt_div, to_of, to_of, wr_bmod]
theorem dv_eq {a b : Int} (h0 : 0 ≤ a) (h1 : a ≤ 2147483647) (h2 : 0 < b) (h3 : b ≤ 2147483647) : dvI a b = a / b := by
  rw [dv_wr, wr_id (by omega) h1, wr_id (by omega) h3, Int.tdiv_eq_ediv_of_nonneg h0]
  have q1 : 0 ≤ a / b := Int.ediv_nonneg h0 (by omega)
  have q2 : a / b ≤ a := Int.ediv_le_self b h0
  exact wr_id (by omega) (by omega)
theorem rm_eq {a b : Int} (h0 : 0 ≤ a) (h1 : a ≤ 2147483647) (h2 : 0 < b) (h3 : b ≤ 2147483647) : rmI a b = a % b := by
  unfold rmI io
  have e1 : (Int32.ofInt a / Int32.ofInt b) = Int32.ofInt (a / b) := by
    have := dv_eq h0 h1 h2 h3
    unfold dvI io at this
    rw [← of_to (Int32.ofInt a / Int32.ofInt b), this]
  show (Int32.ofInt a - Int32.ofInt a / Int32.ofInt b * Int32.ofInt b).toInt = _
  have q1 : 0 ≤ a / b := Int.ediv_nonneg h0 (by omega)
  have q3 : a / b * b ≤ a := Int.ediv_mul_le a (by omega)
  have q4 : 0 ≤ a / b * b := Int.mul_nonneg q1 (by omega)
  have q5 : a % b = a - a / b * b := by rw [Int.emod_def, Int.mul_comm]
  rw [e1, ml_of, wr_id (by omega) (by omega), sb_of, to_of]
  rw [wr_id (x := a - a / b * b) (by omega) (by omega), wr_id (by omega) (by omega), q5]
theorem wh_b {w h : Int} (hw : 2 ≤ w ∧ w ≤ 5) (hh : 2 ≤ h ∧ h ≤ 5) : 4 ≤ w * h ∧ w * h ≤ 25 := by
  have h1 : w = 2 ∨ w = 3 ∨ w = 4 ∨ w = 5 := by omega
  rcases h1 with rfl | rfl | rfl | rfl <;> omega
theorem sx_0 {j : Int} (h : 0 ≤ j ∧ j < 4) : 2 ≤ sx 0 j ∧ sx 0 j ≤ 5 := by
  have h1 : j = 0 ∨ j = 1 ∨ j = 2 ∨ j = 3 := by omega
  rcases h1 with rfl | rfl | rfl | rfl <;> decide
theorem sx_1 {j : Int} (h : 0 ≤ j ∧ j < 4) : 2 ≤ sx 1 j ∧ sx 1 j ≤ 5 := by
  have h1 : j = 0 ∨ j = 1 ∨ j = 2 ∨ j = 3 := by omega
  rcases h1 with rfl | rfl | rfl | rfl <;> decide
theorem sx_2 {j : Int} (h : 0 ≤ j ∧ j < 4) : -1 ≤ sx 2 j ∧ sx 2 j ≤ 1 := by
  have h1 : j = 0 ∨ j = 1 ∨ j = 2 ∨ j = 3 := by omega
  rcases h1 with rfl | rfl | rfl | rfl <;> decide
theorem sx_3 {j : Int} (h : 0 ≤ j ∧ j < 4) : -1 ≤ sx 3 j ∧ sx 3 j ≤ 1 := by
  have h1 : j = 0 ∨ j = 1 ∨ j = 2 ∨ j = 3 := by omega
  rcases h1 with rfl | rfl | rfl | rfl <;> decide
theorem sx_4 {j : Int} (h : 0 ≤ j ∧ j < 7) : 1 ≤ sx 4 j ∧ sx 4 j ≤ 1000000 := by
  have h1 : j = 0 ∨ j = 1 ∨ j = 2 ∨ j = 3 ∨ j = 4 ∨ j = 5 ∨ j = 6 := by omega
  rcases h1 with rfl | rfl | rfl | rfl | rfl | rfl | rfl <;> decide
theorem nb_eqv (x : Int) : nb x = (x + 128) % 256 - 128 := by
  unfold nb
  rw [vp_nar_byte]
  have h : ((Int32.ofInt x).toInt8.toInt32).toInt = (x + 128) % 256 - 128 := by
    rw [Int8.toInt_toInt32, Int32.toInt_toInt8, to_of]
    have e : ∀ y : Int, y.bmod (2 ^ 8) = (y + 128) % 256 - 128 := by
      intro y
      have e : (2 : Nat) ^ 8 = 256 := by decide
      rw [e, Int.bmod_def]
      split <;> omega
    rw [e]
    unfold wr
    omega
  exact h
theorem nb_bd (x : Int) : -128 ≤ nb x ∧ nb x ≤ 127 := by
  rw [nb_eqv]
  omega
