/-- four faces go round: what stands where behind it -/
theorem tf_00 {m : Mm} {b x : Nat} : rd (tfM m b x (x + 5) (x + 4)) b (x + 0) = rd m b (x + 4) := by
  unfold tfM
  rw [rd_wt, if_neg (by omega), rd_wt, if_neg (by omega), rd_wt, if_neg (by omega), rd_wt, if_pos ⟨rfl, by omega⟩, wr_i (rd_rg _ _ _)]
theorem tf_01 {m : Mm} {b x : Nat} : rd (tfM m b x (x + 5) (x + 4)) b (x + 1) = rd m b (x + 5) := by
  unfold tfM
  rw [rd_wt, if_neg (by omega), rd_wt, if_pos ⟨rfl, by omega⟩, wr_i (rd_rg _ _ _), rd_wt, if_neg (by omega), rd_wt, if_neg (by omega)]
theorem tf_02 {m : Mm} {b x : Nat} : rd (tfM m b x (x + 5) (x + 4)) b (x + 2) = rd m b (x + 2) := by
  unfold tfM
  rw [rd_wt, if_neg (by omega), rd_wt, if_neg (by omega), rd_wt, if_neg (by omega), rd_wt, if_neg (by omega)]
theorem tf_03 {m : Mm} {b x : Nat} : rd (tfM m b x (x + 5) (x + 4)) b (x + 3) = rd m b (x + 3) := by
  unfold tfM
  rw [rd_wt, if_neg (by omega), rd_wt, if_neg (by omega), rd_wt, if_neg (by omega), rd_wt, if_neg (by omega)]
theorem tf_04 {m : Mm} {b x : Nat} : rd (tfM m b x (x + 5) (x + 4)) b (x + 4) = rd m b (x + 1) := by
  unfold tfM
  rw [rd_wt, if_neg (by omega), rd_wt, if_neg (by omega), rd_wt, if_pos ⟨rfl, by omega⟩, wr_i (rd_rg _ _ _), rd_wt, if_neg (by omega)]
theorem tf_05 {m : Mm} {b x : Nat} : rd (tfM m b x (x + 5) (x + 4)) b (x + 5) = rd m b (x + 0) := by
  unfold tfM
  rw [rd_wt, if_pos ⟨rfl, by omega⟩, wr_i (rd_rg _ _ _)]
  rfl
theorem tf_10 {m : Mm} {b x : Nat} : rd (tfM m b x (x + 3) (x + 2)) b (x + 0) = rd m b (x + 2) := by
  unfold tfM
  rw [rd_wt, if_neg (by omega), rd_wt, if_neg (by omega), rd_wt, if_neg (by omega), rd_wt, if_pos ⟨rfl, by omega⟩, wr_i (rd_rg _ _ _)]
theorem tf_11 {m : Mm} {b x : Nat} : rd (tfM m b x (x + 3) (x + 2)) b (x + 1) = rd m b (x + 3) := by
  unfold tfM
  rw [rd_wt, if_neg (by omega), rd_wt, if_pos ⟨rfl, by omega⟩, wr_i (rd_rg _ _ _), rd_wt, if_neg (by omega), rd_wt, if_neg (by omega)]
theorem tf_12 {m : Mm} {b x : Nat} : rd (tfM m b x (x + 3) (x + 2)) b (x + 2) = rd m b (x + 1) := by
  unfold tfM
  rw [rd_wt, if_neg (by omega), rd_wt, if_neg (by omega), rd_wt, if_pos ⟨rfl, by omega⟩, wr_i (rd_rg _ _ _), rd_wt, if_neg (by omega)]
theorem tf_13 {m : Mm} {b x : Nat} : rd (tfM m b x (x + 3) (x + 2)) b (x + 3) = rd m b (x + 0) := by
  unfold tfM
  rw [rd_wt, if_pos ⟨rfl, by omega⟩, wr_i (rd_rg _ _ _)]
  rfl
theorem tf_14 {m : Mm} {b x : Nat} : rd (tfM m b x (x + 3) (x + 2)) b (x + 4) = rd m b (x + 4) := by
  unfold tfM
  rw [rd_wt, if_neg (by omega), rd_wt, if_neg (by omega), rd_wt, if_neg (by omega), rd_wt, if_neg (by omega)]
theorem tf_15 {m : Mm} {b x : Nat} : rd (tfM m b x (x + 3) (x + 2)) b (x + 5) = rd m b (x + 5) := by
  unfold tfM
  rw [rd_wt, if_neg (by omega), rd_wt, if_neg (by omega), rd_wt, if_neg (by omega), rd_wt, if_neg (by omega)]
theorem tf_20 {m : Mm} {b x : Nat} : rd (tfM m b x (x + 4) (x + 5)) b (x + 0) = rd m b (x + 5) := by
  unfold tfM
  rw [rd_wt, if_neg (by omega), rd_wt, if_neg (by omega), rd_wt, if_neg (by omega), rd_wt, if_pos ⟨rfl, by omega⟩, wr_i (rd_rg _ _ _)]
theorem tf_21 {m : Mm} {b x : Nat} : rd (tfM m b x (x + 4) (x + 5)) b (x + 1) = rd m b (x + 4) := by
  unfold tfM
  rw [rd_wt, if_neg (by omega), rd_wt, if_pos ⟨rfl, by omega⟩, wr_i (rd_rg _ _ _), rd_wt, if_neg (by omega), rd_wt, if_neg (by omega)]
theorem tf_22 {m : Mm} {b x : Nat} : rd (tfM m b x (x + 4) (x + 5)) b (x + 2) = rd m b (x + 2) := by
  unfold tfM
  rw [rd_wt, if_neg (by omega), rd_wt, if_neg (by omega), rd_wt, if_neg (by omega), rd_wt, if_neg (by omega)]
theorem tf_23 {m : Mm} {b x : Nat} : rd (tfM m b x (x + 4) (x + 5)) b (x + 3) = rd m b (x + 3) := by
  unfold tfM
  rw [rd_wt, if_neg (by omega), rd_wt, if_neg (by omega), rd_wt, if_neg (by omega), rd_wt, if_neg (by omega)]
theorem tf_24 {m : Mm} {b x : Nat} : rd (tfM m b x (x + 4) (x + 5)) b (x + 4) = rd m b (x + 0) := by
  unfold tfM
  rw [rd_wt, if_pos ⟨rfl, by omega⟩, wr_i (rd_rg _ _ _)]
  rfl
theorem tf_25 {m : Mm} {b x : Nat} : rd (tfM m b x (x + 4) (x + 5)) b (x + 5) = rd m b (x + 1) := by
  unfold tfM
  rw [rd_wt, if_neg (by omega), rd_wt, if_neg (by omega), rd_wt, if_pos ⟨rfl, by omega⟩, wr_i (rd_rg _ _ _), rd_wt, if_neg (by omega)]
theorem tf_30 {m : Mm} {b x : Nat} : rd (tfM m b x (x + 2) (x + 3)) b (x + 0) = rd m b (x + 3) := by
  unfold tfM
  rw [rd_wt, if_neg (by omega), rd_wt, if_neg (by omega), rd_wt, if_neg (by omega), rd_wt, if_pos ⟨rfl, by omega⟩, wr_i (rd_rg _ _ _)]
theorem tf_31 {m : Mm} {b x : Nat} : rd (tfM m b x (x + 2) (x + 3)) b (x + 1) = rd m b (x + 2) := by
  unfold tfM
  rw [rd_wt, if_neg (by omega), rd_wt, if_pos ⟨rfl, by omega⟩, wr_i (rd_rg _ _ _), rd_wt, if_neg (by omega), rd_wt, if_neg (by omega)]
theorem tf_32 {m : Mm} {b x : Nat} : rd (tfM m b x (x + 2) (x + 3)) b (x + 2) = rd m b (x + 0) := by
  unfold tfM
  rw [rd_wt, if_pos ⟨rfl, by omega⟩, wr_i (rd_rg _ _ _)]
  rfl
theorem tf_33 {m : Mm} {b x : Nat} : rd (tfM m b x (x + 2) (x + 3)) b (x + 3) = rd m b (x + 1) := by
  unfold tfM
  rw [rd_wt, if_neg (by omega), rd_wt, if_neg (by omega), rd_wt, if_pos ⟨rfl, by omega⟩, wr_i (rd_rg _ _ _), rd_wt, if_neg (by omega)]
theorem tf_34 {m : Mm} {b x : Nat} : rd (tfM m b x (x + 2) (x + 3)) b (x + 4) = rd m b (x + 4) := by
  unfold tfM
  rw [rd_wt, if_neg (by omega), rd_wt, if_neg (by omega), rd_wt, if_neg (by omega), rd_wt, if_neg (by omega)]
theorem tf_35 {m : Mm} {b x : Nat} : rd (tfM m b x (x + 2) (x + 3)) b (x + 5) = rd m b (x + 5) := by
  unfold tfM
  rw [rd_wt, if_neg (by omega), rd_wt, if_neg (by omega), rd_wt, if_neg (by omega), rd_wt, if_neg (by omega)]
theorem tf_p {m : Mm} {b x : Nat} {k p : Int} (hk : 0 ≤ k ∧ k ≤ 3) (hp : 0 ≤ p ∧ p ≤ 5) : rd (tfM m b x (x + Int.toNat (cb k)) (x + Int.toNat (ct k))) b (x + Int.toNat p) = rd m b (x + Int.toNat (frm k p)) := by
  have h1 : k = 0 ∨ k = 1 ∨ k = 2 ∨ k = 3 := by omega
  have h2 : p = 0 ∨ p = 1 ∨ p = 2 ∨ p = 3 ∨ p = 4 ∨ p = 5 := by omega
  rcases h1 with rfl | rfl | rfl | rfl
  · rcases h2 with rfl | rfl | rfl | rfl | rfl | rfl
    · exact tf_00
    · exact tf_01
    · exact tf_02
    · exact tf_03
    · exact tf_04
    · exact tf_05
  · rcases h2 with rfl | rfl | rfl | rfl | rfl | rfl
    · exact tf_10
    · exact tf_11
    · exact tf_12
    · exact tf_13
    · exact tf_14
    · exact tf_15
  · rcases h2 with rfl | rfl | rfl | rfl | rfl | rfl
    · exact tf_20
    · exact tf_21
    · exact tf_22
    · exact tf_23
    · exact tf_24
    · exact tf_25
  · rcases h2 with rfl | rfl | rfl | rfl | rfl | rfl
    · exact tf_30
    · exact tf_31
    · exact tf_32
    · exact tf_33
    · exact tf_34
    · exact tf_35
theorem tf_o {m : Mm} {b x s r i j : Nat} (h : ¬ (i = b ∧ (j = x ∨ j = r ∨ j = x + 1 ∨ j = s))) : rd (tfM m b x s r) i j = rd m i j := by
  unfold tfM
  rw [rd_wt, if_neg (by omega), rd_wt, if_neg (by omega), rd_wt, if_neg (by omega), rd_wt, if_neg (by omega)]
theorem frm_b {k p : Int} (hk : 0 ≤ k ∧ k ≤ 3) (hp : 0 ≤ p ∧ p ≤ 5) : 0 ≤ frm k p ∧ frm k p ≤ 5 := by
  have h1 : k = 0 ∨ k = 1 ∨ k = 2 ∨ k = 3 := by omega
  have h2 : p = 0 ∨ p = 1 ∨ p = 2 ∨ p = 3 ∨ p = 4 ∨ p = 5 := by omega
  rcases h1 with rfl | rfl | rfl | rfl <;> rcases h2 with rfl | rfl | rfl | rfl | rfl | rfl <;> decide
theorem ct_b {k : Int} (hk : 0 ≤ k ∧ k ≤ 3) : (2 ≤ ct k ∧ ct k ≤ 5) ∧ (2 ≤ cb k ∧ cb k ≤ 5) := by
  have h1 : k = 0 ∨ k = 1 ∨ k = 2 ∨ k = 3 := by omega
  rcases h1 with rfl | rfl | rfl | rfl <;> decide
theorem sx_cb {k : Int} (hk : 0 ≤ k ∧ k ≤ 3) : sx 0 k = cb k ∧ sx 1 k = ct k := by
  have h1 : k = 0 ∨ k = 1 ∨ k = 2 ∨ k = 3 := by omega
  rcases h1 with rfl | rfl | rfl | rfl <;> decide
theorem sx_xy {k f w : Int} (hk : 0 ≤ k ∧ k ≤ 3) : f % w + sx 2 k = tXI w f k ∧ f / w + sx 3 k = tYI w f k := by
  have h1 : k = 0 ∨ k = 1 ∨ k = 2 ∨ k = 3 := by omega
  have e2 : sx 2 0 = 1 ∧ sx 2 1 = 0 ∧ sx 2 2 = -1 ∧ sx 2 3 = 0 ∧ sx 3 0 = 0 ∧ sx 3 1 = 1 ∧ sx 3 2 = 0 ∧ sx 3 3 = -1 := by decide
  unfold tXI tYI
  rcases h1 with rfl | rfl | rfl | rfl <;> simp <;> omega
/-- what a law tells looks at variables 0 .. 8 alone -/
theorem ev_cg {va vb : Int → Int} (h : ∀ i : Int, 0 ≤ i → i ≤ 8 → va i = vb i) {k : Int} : ∀ {L : Rp} {st : List Int} {e : Int}, wf k (st.length : Int) L e → ev va L st = ev vb L st
  | [], _, _, _ => rfl
  | x :: L, st, e, w => by
    obtain ⟨w0, w1⟩ := wf_c w
    rcases w1 with ⟨c, c0, -, c8, r⟩ | ⟨c, -, l, r⟩
    · rw [ev_p c, ev_p c]
      have e1 : (if x.1 = 0 then x.2 else va x.2) = (if x.1 = 0 then x.2 else vb x.2) := by
        by_cases q : x.1 = 0
        · rw [if_pos q, if_pos q]
        · rw [if_neg q, if_neg q, h x.2 w0.1 (c8 (by omega))]
      rw [e1]
      exact ev_cg h (by simpa using r)
    · match st, l, r with
      | [], l, _ => exact absurd l (by simp)
      | [_], l, _ => exact absurd l (by simp)
      | b :: a :: t, _, r =>
        by_cases z : x.1 = 7 ∧ b = 0
        · rw [ev_z (by omega) z, ev_z (by omega) z]
        · rw [ev_o (by omega) z, ev_o (by omega) z]
          refine ev_cg (k := k) h (e := e) (st := ap x.1 a b :: t) ?_
          have n : (((b :: a :: t).length : Nat) : Int) - 1 = (((ap x.1 a b) :: t).length : Int) := by simp
          rw [← n]
          exact r
theorem rvC_cg {va vb : Int → Int} (h : ∀ i : Int, 0 ≤ i → i ≤ 8 → va i = vb i) {L : Rp} (w : wf 15 0 L 1) : rvC va L [] = rvC vb L [] := by
  unfold rvC
  rw [ev_cg h (st := []) w]
theorem lval_cg {va vb : Int → Int} (h : ∀ i : Int, 0 ≤ i → i ≤ 8 → va i = vb i) {L : Rp} (w : wf 15 0 L 1) : ∀ {R : List (Rp × Rp × Rp)}, (∀ x, x ∈ R → wfT x) → lval va R L = lval vb R L
  | [], _ => rvC_cg h w
  | x :: R, q => by
    have wx := q x List.mem_cons_self
    have e1 : ev va (x.1 ++ x.2.1) [] = ev vb (x.1 ++ x.2.1) [] := ev_cg h (st := []) (k := 16) (wf_app (wf_mono (by decide) wx.1) (wf_sh wx.2.1))
    show (match ev va (x.1 ++ x.2.1) [] with | some [v, u] => if u < v then rvC va x.2.2 [] else lval va R L | _ => 0) = (match ev vb (x.1 ++ x.2.1) [] with | some [v, u] => if u < v then rvC vb x.2.2 [] else lval vb R L | _ => 0)
    rw [e1, rvC_cg h wx.2.2, lval_cg h w (fun y hy => q y (List.mem_cons_of_mem _ hy))]
theorem fC_ne {r : Ro} {i : Nat} {v c : Int} (h : ¬ Int.toNat (43 + c) = i) : fC (ro_u r i v) c = fC r c := ro_ne h
