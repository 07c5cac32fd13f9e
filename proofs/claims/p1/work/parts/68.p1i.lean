theorem pr_flag (a b : Int32) : p1_pr 126 236 [.int a, .int b] := by
  by_cases q : (0 : Int32) ≤ a ∧ a ≤ 4 * 4 - 1
  · by_cases w : (0 : Int32) ≤ b ∧ b ≤ 2
    · obtain ⟨n, hn, rfl⟩ := p1_in (k := 15) (by decide) q
      obtain ⟨m, hm, rfl⟩ := p1_in (k := 2) (by decide) w
      exact p1_t_ok (fa_flag n hn m hm)
    · refine pr_flag1 a b q ?_
      have w1 : ¬ (0 ≤ b.toInt ∧ b.toInt ≤ 2) := fun h => w ⟨Int32.le_iff_toInt_le.mpr h.1, Int32.le_iff_toInt_le.mpr h.2⟩
      omega
  · exact pr_flag0 a b q
theorem pr_paint (a b : Int32) : p1_pr 130 242 [.int a, .int b] := by
  by_cases q : (0 : Int32) ≤ a ∧ a ≤ 4 * 4 - 1
  · by_cases w : (0 : Int32) ≤ b ∧ b ≤ 9
    · obtain ⟨n, hn, rfl⟩ := p1_in (k := 15) (by decide) q
      obtain ⟨m, hm, rfl⟩ := p1_in (k := 9) (by decide) w
      exact p1_t_ok (fa_paint n hn m hm)
    · exact pr_paint1 a b q w
  · exact pr_paint0 a b q
theorem pr_minutes (a : Int32) : p1_pr 131 244 [.int a] := by
  by_cases q : (0 : Int32) ≤ a ∧ a ≤ 60
  · obtain ⟨n, hn, rfl⟩ := p1_in (k := 60) (by decide) q
    exact p1_t_ok (fa_minutes n hn)
  · exact pr_minutes0 a q
theorem pr_paidIn (a : Int32) : p1_pr 149 275 [.int a] := by
  by_cases q : (0 : Int32) ≤ a ∧ a ≤ 60
  · obtain ⟨n, hn, rfl⟩ := p1_in (k := 60) (by decide) q
    exact p1_t_ok (fa_paidIn n hn)
  · exact pr_paidIn0 a q
theorem pr_flagIn (a b : Int32) : p1_pr 148 274 [.int a, .int b] := by
  by_cases q : (0 : Int32) ≤ a ∧ a ≤ 4 * 4 - 1
  · by_cases w : (0 : Int32) ≤ b ∧ b ≤ 60
    · obtain ⟨n, hn, rfl⟩ := p1_in (k := 15) (by decide) q
      obtain ⟨m, hm, rfl⟩ := p1_in (k := 60) (by decide) w
      exact pr_flagIn2 n m hn hm q w
    · exact pr_flagIn1 a b q w
  · exact pr_flagIn0 a b q
theorem pr_tell (a b : Int32) (c : Nat) (hc : c < 2) : p1_pr 151 277 [.int a, .int b, .int (Int32.ofNat c)] := by
  by_cases q : (1 : Int32) ≤ a ∧ a ≤ 5
  · by_cases w : (0 : Int32) ≤ b ∧ b ≤ 9
    · obtain ⟨n, hn, rfl⟩ := p1_in (k := 5) (by decide) ⟨Int32.le_trans (by decide) q.1, q.2⟩
      obtain ⟨m, hm, rfl⟩ := p1_in (k := 9) (by decide) w
      exact p1_t_ok (fa_tell n hn m hm c hc)
    · exact pr_tell1 a b _ q w
  · exact pr_tell0 a b _ q
theorem pr_hold (a : Int32) : p1_pr 155 284 [.int a] := by
  by_cases q : (0 : Int32) ≤ a ∧ a ≤ 2
  · obtain ⟨n, hn, rfl⟩ := p1_in (k := 2) (by decide) q
    exact p1_t_ok (fa_hold n hn)
  · exact pr_hold0 a q
theorem pr_restore (a : Int32) : p1_pr 156 285 [.int a] := by
  by_cases q : (0 : Int32) ≤ a ∧ a ≤ 2
  · obtain ⟨n, hn, rfl⟩ := p1_in (k := 2) (by decide) q
    exact p1_t_ok (fa_restore n hn)
  · exact pr_restore0 a q
theorem pr_count (a : Int32) : p1_pr 157 287 [.int a] := by
  by_cases q : (0 : Int32) ≤ a ∧ a ≤ 16
  · obtain ⟨n, hn, rfl⟩ := p1_in (k := 16) (by decide) q
    exact p1_t_ok (fa_count n hn)
  · refine pr_count0 a ?_
    have w1 : ¬ (0 ≤ a.toInt ∧ a.toInt ≤ 16) := fun h => q ⟨Int32.le_iff_toInt_le.mpr h.1, Int32.le_iff_toInt_le.mpr h.2⟩
    omega
theorem pr_back (a : Int32) : p1_pr 123 171 [.int a] := by
  by_cases q : a < 0
  · exact pr_back0 a q
  · by_cases w : a ≤ 0
    · obtain ⟨n, hn, rfl⟩ := p1_in (k := 0) (by decide) ⟨Int32.not_lt.mp q, w⟩
      exact p1_t_ok (fa_back n hn)
    · exact pr_back1 a q w
