/-- TippedCrates$State.sumOfMarks()I -/
def P_80 (d : Nat) (m : Mm) (a : Nat) (Q : Mm → Int → Prop) : Prop :=
  (∃ (I_13 : Int → Int → Prop) (mu_13 : Int → Int → Nat), I_13 0 0 ∧
    ∀ (x1_13 x4_13 : Int) , rg x1_13 → rg x4_13 → I_13 x1_13 x4_13 →
    ((25 ≤ x4_13 → Q m x1_13) ∧
        (¬ 25 ≤ x4_13 → (((0 : Int) ≤ x4_13 ∧ x4_13 < 25) ∧ (∀ z5_23 : Int, z5_23 = (rd m (a + 1) (Int.toNat x4_13)) → (∀ z1_29 : Int, z1_29 = (wr (x1_13 + z5_23)) → (∀ z4_30 : Int, z4_30 = wr (x4_13 + 1) → (I_13 z1_29 z4_30 ∧ mu_13 z1_29 z4_30 < mu_13 x1_13 x4_13))))))))
set_option maxRecDepth 20000 in
theorem br_80 {d : Nat} {m : Mm} {a : Nat} {Q : Mm → Int → Prop} (h_a : isSt a) (H : P_80 d m a Q) : CK (d + 1) 80 [.ref a] m Q := by
  unfold P_80 at H
  refine CK_of rfl ?_
  show mm_W d mc_80 0 [some (.ref a), none, none, none, none, none] [] (fm m) (XK Q)
  refine f_int 0 rfl rfl ?_
  refine w_st (ls2 := [some (.ref a), some (iv 0), none, none, none, none]) (fun _ => rfl) ?_
  refine w_st (fun _ => rfl) ?_
  refine f_getr rfl (st_l0 h_a) (st_ck h_a _ _).1 rfl ?_
  refine w_st (ls2 := [some (.ref a), some (iv 0), some (.ref (a + 1)), none, none, none]) (fun _ => rfl) ?_
  refine w_st (fun _ => rfl) ?_
  refine f_len (st_1 h_a) rfl ?_
  refine w_st (ls2 := [some (.ref a), some (iv 0), some (.ref (a + 1)), some (iv 25), none, none]) (fun _ => rfl) ?_
  refine f_int 0 rfl rfl ?_
  refine w_st (ls2 := [some (.ref a), some (iv 0), some (.ref (a + 1)), some (iv 25), some (iv 0), none]) (fun _ => rfl) ?_
  obtain ⟨I_13, mu_13, H0_13, HB_13⟩ := H
  have lp_13 : ∀ (z : Nat) (x1_13 x4_13 : Int)  (g5_13 : Option Value), mu_13 x1_13 x4_13 < z → rg x1_13 → rg x4_13 → I_13 x1_13 x4_13 → mm_W d mc_80 13 [some (.ref a), some (iv x1_13), some (.ref (a + 1)), some (iv 25), some (iv x4_13), g5_13] [] (fm m) (XK Q) := by
    intro z
    induction z with
    | zero => intro x1_13 x4_13 g5_13 hz; exact absurd hz (Nat.not_lt_zero _)
    | succ z ih_13 =>
      intro x1_13 x4_13 g5_13 hz_13 r_x1_13 r_x4_13 hI
      have H := HB_13 x1_13 x4_13 r_x1_13 r_x4_13 hI
      refine w_st (fun _ => rfl) ?_
      refine w_st (fun _ => rfl) ?_
      refine b_ge rfl r_x4_13 (isR_rg (st_1 h_a)) (fun hq => ?_) (fun hq => ?_)
      · replace H := H.1 hq
        refine w_st (fun _ => rfl) ?_
        exact f_iret rfl r_x1_13 H
      · replace H := H.2 hq
        refine w_st (fun _ => rfl) ?_
        refine w_st (fun _ => rfl) ?_
        refine f_ld (st_1 h_a) rfl H.1 ?_
        replace H := H.2
        obtain ⟨z5_23, e_z5_23⟩ : ∃ q : Int, q = (rd m (a + 1) (Int.toNat x4_13)) := ⟨_, rfl⟩
        have r_z5_23 : rg z5_23 := by rw [e_z5_23]; exact (rd_rg _ _ _)
        replace H := H z5_23 e_z5_23
        refine f_nm e_z5_23 ?_
        refine w_st (ls2 := [some (.ref a), some (iv x1_13), some (.ref (a + 1)), some (iv 25), some (iv x4_13), some (iv z5_23)]) (fun _ => rfl) ?_
        refine w_st (fun _ => rfl) ?_
        refine w_st (fun _ => rfl) ?_
        refine f_add rfl ?_
        obtain ⟨z1_29, e_z1_29⟩ : ∃ q : Int, q = (wr (x1_13 + z5_23)) := ⟨_, rfl⟩
        have r_z1_29 : rg z1_29 := by rw [e_z1_29]; exact (wr_rg _)
        replace H := H z1_29 e_z1_29
        refine f_nm e_z1_29 ?_
        refine w_st (ls2 := [some (.ref a), some (iv z1_29), some (.ref (a + 1)), some (iv 25), some (iv x4_13), some (iv z5_23)]) (fun _ => rfl) ?_
        obtain ⟨z4_30, e_z4_30⟩ : ∃ q : Int, q = wr (x4_13 + 1) := ⟨_, rfl⟩
        have r_z4_30 : rg z4_30 := by rw [e_z4_30]; exact wr_rg _
        replace H := H z4_30 e_z4_30
        refine f_iinc (ls2 := [some (.ref a), some (iv z1_29), some (.ref (a + 1)), some (iv 25), some (iv z4_30), some (iv z5_23)]) 1 rfl rfl rfl e_z4_30 rfl ?_
        refine w_st (fun _ => rfl) ?_
        exact ih_13 z1_29 z4_30 (some (iv z5_23)) (Nat.lt_of_lt_of_le H.2 (Nat.le_of_lt_succ hz_13)) r_z1_29 r_z4_30 H.1
  exact lp_13 _ 0 0 none (Nat.lt_succ_self _) (by unfold rg; decide) (by unfold rg; decide) H0_13
/-- TippedCrates$State.greatestMark()I -/
def P_81 (d : Nat) (m : Mm) (a : Nat) (Q : Mm → Int → Prop) : Prop :=
  (∃ (I_13 : Int → Int → Prop) (mu_13 : Int → Int → Nat), I_13 0 0 ∧
    ∀ (x1_13 x4_13 : Int) , rg x1_13 → rg x4_13 → I_13 x1_13 x4_13 →
    ((25 ≤ x4_13 → Q m x1_13) ∧
        (¬ 25 ≤ x4_13 → (((0 : Int) ≤ x4_13 ∧ x4_13 < 25) ∧ (∀ z5_23 : Int, z5_23 = (rd m (a + 1) (Int.toNat x4_13)) → (∀ z1_31 : Int, z1_31 = (max x1_13 z5_23) → (∀ z4_32 : Int, z4_32 = wr (x4_13 + 1) → (I_13 z1_31 z4_32 ∧ mu_13 z1_31 z4_32 < mu_13 x1_13 x4_13))))))))
set_option maxRecDepth 20000 in
theorem br_81 {d : Nat} {m : Mm} {a : Nat} {Q : Mm → Int → Prop} (h_a : isSt a) (H : P_81 d m a Q) : CK (d + 1) 81 [.ref a] m Q := by
  unfold P_81 at H
  refine CK_of rfl ?_
  show mm_W d mc_81 0 [some (.ref a), none, none, none, none, none] [] (fm m) (XK Q)
  refine f_int 0 rfl rfl ?_
  refine w_st (ls2 := [some (.ref a), some (iv 0), none, none, none, none]) (fun _ => rfl) ?_
  refine w_st (fun _ => rfl) ?_
  refine f_getr rfl (st_l0 h_a) (st_ck h_a _ _).1 rfl ?_
  refine w_st (ls2 := [some (.ref a), some (iv 0), some (.ref (a + 1)), none, none, none]) (fun _ => rfl) ?_
  refine w_st (fun _ => rfl) ?_
  refine f_len (st_1 h_a) rfl ?_
  refine w_st (ls2 := [some (.ref a), some (iv 0), some (.ref (a + 1)), some (iv 25), none, none]) (fun _ => rfl) ?_
  refine f_int 0 rfl rfl ?_
  refine w_st (ls2 := [some (.ref a), some (iv 0), some (.ref (a + 1)), some (iv 25), some (iv 0), none]) (fun _ => rfl) ?_
  obtain ⟨I_13, mu_13, H0_13, HB_13⟩ := H
  have lp_13 : ∀ (z : Nat) (x1_13 x4_13 : Int)  (g5_13 : Option Value), mu_13 x1_13 x4_13 < z → rg x1_13 → rg x4_13 → I_13 x1_13 x4_13 → mm_W d mc_81 13 [some (.ref a), some (iv x1_13), some (.ref (a + 1)), some (iv 25), some (iv x4_13), g5_13] [] (fm m) (XK Q) := by
    intro z
    induction z with
    | zero => intro x1_13 x4_13 g5_13 hz; exact absurd hz (Nat.not_lt_zero _)
    | succ z ih_13 =>
      intro x1_13 x4_13 g5_13 hz_13 r_x1_13 r_x4_13 hI
      have H := HB_13 x1_13 x4_13 r_x1_13 r_x4_13 hI
      refine w_st (fun _ => rfl) ?_
      refine w_st (fun _ => rfl) ?_
      refine b_ge rfl r_x4_13 (isR_rg (st_1 h_a)) (fun hq => ?_) (fun hq => ?_)
      · replace H := H.1 hq
        refine w_st (fun _ => rfl) ?_
        exact f_iret rfl r_x1_13 H
      · replace H := H.2 hq
        refine w_st (fun _ => rfl) ?_
        refine w_st (fun _ => rfl) ?_
        refine f_ld (st_1 h_a) rfl H.1 ?_
        replace H := H.2
        obtain ⟨z5_23, e_z5_23⟩ : ∃ q : Int, q = (rd m (a + 1) (Int.toNat x4_13)) := ⟨_, rfl⟩
        have r_z5_23 : rg z5_23 := by rw [e_z5_23]; exact (rd_rg _ _ _)
        replace H := H z5_23 e_z5_23
        refine f_nm e_z5_23 ?_
        refine w_st (ls2 := [some (.ref a), some (iv x1_13), some (.ref (a + 1)), some (iv 25), some (iv x4_13), some (iv z5_23)]) (fun _ => rfl) ?_
        refine w_st (fun _ => rfl) ?_
        refine w_st (fun _ => rfl) ?_
        refine f_max rfl r_x1_13 r_z5_23 rfl ?_
        obtain ⟨z1_31, e_z1_31⟩ : ∃ q : Int, q = (max x1_13 z5_23) := ⟨_, rfl⟩
        have r_z1_31 : rg z1_31 := by rw [e_z1_31]; exact (mx_rg r_x1_13 r_z5_23)
        replace H := H z1_31 e_z1_31
        refine f_nm e_z1_31 ?_
        refine w_st (ls2 := [some (.ref a), some (iv z1_31), some (.ref (a + 1)), some (iv 25), some (iv x4_13), some (iv z5_23)]) (fun _ => rfl) ?_
        obtain ⟨z4_32, e_z4_32⟩ : ∃ q : Int, q = wr (x4_13 + 1) := ⟨_, rfl⟩
        have r_z4_32 : rg z4_32 := by rw [e_z4_32]; exact wr_rg _
        replace H := H z4_32 e_z4_32
        refine f_iinc (ls2 := [some (.ref a), some (iv z1_31), some (.ref (a + 1)), some (iv 25), some (iv z4_32), some (iv z5_23)]) 1 rfl rfl rfl e_z4_32 rfl ?_
        refine w_st (fun _ => rfl) ?_
        exact ih_13 z1_31 z4_32 (some (iv z5_23)) (Nat.lt_of_lt_of_le H.2 (Nat.le_of_lt_succ hz_13)) r_z1_31 r_z4_32 H.1
  exact lp_13 _ 0 0 none (Nat.lt_succ_self _) (by unfold rg; decide) (by unfold rg; decide) H0_13
/-- TippedCrates$State.allTips()I -/
def P_82 (d : Nat) (m : Mm) (a : Nat) (Q : Mm → Int → Prop) : Prop :=
  (∃ (I_13 : Int → Int → Prop) (mu_13 : Int → Int → Nat), I_13 0 0 ∧
    ∀ (x1_13 x4_13 : Int) , rg x1_13 → rg x4_13 → I_13 x1_13 x4_13 →
    ((3 ≤ x4_13 → Q m x1_13) ∧
        (¬ 3 ≤ x4_13 → (((0 : Int) ≤ x4_13 ∧ x4_13 < 3) ∧ (∀ z5_23 : Int, z5_23 = (rd m (a + 4) (Int.toNat x4_13)) → (∀ z1_29 : Int, z1_29 = (wr (x1_13 + z5_23)) → (∀ z4_30 : Int, z4_30 = wr (x4_13 + 1) → (I_13 z1_29 z4_30 ∧ mu_13 z1_29 z4_30 < mu_13 x1_13 x4_13))))))))
set_option maxRecDepth 20000 in
theorem br_82 {d : Nat} {m : Mm} {a : Nat} {Q : Mm → Int → Prop} (h_a : isSt a) (H : P_82 d m a Q) : CK (d + 1) 82 [.ref a] m Q := by
  unfold P_82 at H
  refine CK_of rfl ?_
  show mm_W d mc_82 0 [some (.ref a), none, none, none, none, none] [] (fm m) (XK Q)
  refine f_int 0 rfl rfl ?_
  refine w_st (ls2 := [some (.ref a), some (iv 0), none, none, none, none]) (fun _ => rfl) ?_
  refine w_st (fun _ => rfl) ?_
  refine f_getr rfl (st_l0 h_a) (st_ck h_a _ _).1 rfl ?_
  refine w_st (ls2 := [some (.ref a), some (iv 0), some (.ref (a + 4)), none, none, none]) (fun _ => rfl) ?_
  refine w_st (fun _ => rfl) ?_
  refine f_len (st_4 h_a) rfl ?_
  refine w_st (ls2 := [some (.ref a), some (iv 0), some (.ref (a + 4)), some (iv 3), none, none]) (fun _ => rfl) ?_
  refine f_int 0 rfl rfl ?_
  refine w_st (ls2 := [some (.ref a), some (iv 0), some (.ref (a + 4)), some (iv 3), some (iv 0), none]) (fun _ => rfl) ?_
  obtain ⟨I_13, mu_13, H0_13, HB_13⟩ := H
  have lp_13 : ∀ (z : Nat) (x1_13 x4_13 : Int)  (g5_13 : Option Value), mu_13 x1_13 x4_13 < z → rg x1_13 → rg x4_13 → I_13 x1_13 x4_13 → mm_W d mc_82 13 [some (.ref a), some (iv x1_13), some (.ref (a + 4)), some (iv 3), some (iv x4_13), g5_13] [] (fm m) (XK Q) := by
    intro z
    induction z with
    | zero => intro x1_13 x4_13 g5_13 hz; exact absurd hz (Nat.not_lt_zero _)
    | succ z ih_13 =>
      intro x1_13 x4_13 g5_13 hz_13 r_x1_13 r_x4_13 hI
      have H := HB_13 x1_13 x4_13 r_x1_13 r_x4_13 hI
      refine w_st (fun _ => rfl) ?_
      refine w_st (fun _ => rfl) ?_
      refine b_ge rfl r_x4_13 (isR_rg (st_4 h_a)) (fun hq => ?_) (fun hq => ?_)
      · replace H := H.1 hq
        refine w_st (fun _ => rfl) ?_
        exact f_iret rfl r_x1_13 H
      · replace H := H.2 hq
        refine w_st (fun _ => rfl) ?_
        refine w_st (fun _ => rfl) ?_
        refine f_ld (st_4 h_a) rfl H.1 ?_
        replace H := H.2
        obtain ⟨z5_23, e_z5_23⟩ : ∃ q : Int, q = (rd m (a + 4) (Int.toNat x4_13)) := ⟨_, rfl⟩
        have r_z5_23 : rg z5_23 := by rw [e_z5_23]; exact (rd_rg _ _ _)
        replace H := H z5_23 e_z5_23
        refine f_nm e_z5_23 ?_
        refine w_st (ls2 := [some (.ref a), some (iv x1_13), some (.ref (a + 4)), some (iv 3), some (iv x4_13), some (iv z5_23)]) (fun _ => rfl) ?_
        refine w_st (fun _ => rfl) ?_
        refine w_st (fun _ => rfl) ?_
        refine f_add rfl ?_
        obtain ⟨z1_29, e_z1_29⟩ : ∃ q : Int, q = (wr (x1_13 + z5_23)) := ⟨_, rfl⟩
        have r_z1_29 : rg z1_29 := by rw [e_z1_29]; exact (wr_rg _)
        replace H := H z1_29 e_z1_29
        refine f_nm e_z1_29 ?_
        refine w_st (ls2 := [some (.ref a), some (iv z1_29), some (.ref (a + 4)), some (iv 3), some (iv x4_13), some (iv z5_23)]) (fun _ => rfl) ?_
        obtain ⟨z4_30, e_z4_30⟩ : ∃ q : Int, q = wr (x4_13 + 1) := ⟨_, rfl⟩
        have r_z4_30 : rg z4_30 := by rw [e_z4_30]; exact wr_rg _
        replace H := H z4_30 e_z4_30
        refine f_iinc (ls2 := [some (.ref a), some (iv z1_29), some (.ref (a + 4)), some (iv 3), some (iv z4_30), some (iv z5_23)]) 1 rfl rfl rfl e_z4_30 rfl ?_
        refine w_st (fun _ => rfl) ?_
        exact ih_13 z1_29 z4_30 (some (iv z5_23)) (Nat.lt_of_lt_of_le H.2 (Nat.le_of_lt_succ hz_13)) r_z1_29 r_z4_30 H.1
  exact lp_13 _ 0 0 none (Nat.lt_succ_self _) (by unfold rg; decide) (by unfold rg; decide) H0_13
/-- TippedCrates$State.flagsWithCrates()I -/
def P_83 (d : Nat) (m : Mm) (a : Nat) (Q : Mm → Int → Prop) : Prop :=
  (∃ (I_4 : Int → Int → Prop) (mu_4 : Int → Int → Nat), I_4 0 0 ∧
    ∀ (x1_4 x2_4 : Int) , rg x1_4 → rg x2_4 → I_4 x1_4 x2_4 →
    (((rd m a 4) ≤ x2_4 → Q m x1_4) ∧
        (¬ (rd m a 4) ≤ x2_4 → (((0 : Int) ≤ x2_4 ∧ x2_4 < 3) ∧ (∀ z1_22 : Int, z1_22 = (orI x1_4 (slI 1 (rd m (a + 2) (Int.toNat x2_4)))) → (∀ z2_23 : Int, z2_23 = wr (x2_4 + 1) → (I_4 z1_22 z2_23 ∧ mu_4 z1_22 z2_23 < mu_4 x1_4 x2_4)))))))
set_option maxRecDepth 20000 in
theorem br_83 {d : Nat} {m : Mm} {a : Nat} {Q : Mm → Int → Prop} (h_a : isSt a) (H : P_83 d m a Q) : CK (d + 1) 83 [.ref a] m Q := by
  unfold P_83 at H
  refine CK_of rfl ?_
  show mm_W d mc_83 0 [some (.ref a), none, none] [] (fm m) (XK Q)
  refine f_int 0 rfl rfl ?_
  refine w_st (ls2 := [some (.ref a), some (iv 0), none]) (fun _ => rfl) ?_
  refine f_int 0 rfl rfl ?_
  refine w_st (ls2 := [some (.ref a), some (iv 0), some (iv 0)]) (fun _ => rfl) ?_
  obtain ⟨I_4, mu_4, H0_4, HB_4⟩ := H
  have lp_4 : ∀ (z : Nat) (x1_4 x2_4 : Int) , mu_4 x1_4 x2_4 < z → rg x1_4 → rg x2_4 → I_4 x1_4 x2_4 → mm_W d mc_83 4 [some (.ref a), some (iv x1_4), some (iv x2_4)] [] (fm m) (XK Q) := by
    intro z
    induction z with
    | zero => intro x1_4 x2_4 hz; exact absurd hz (Nat.not_lt_zero _)
    | succ z ih_4 =>
      intro x1_4 x2_4 hz_4 r_x1_4 r_x2_4 hI
      have H := HB_4 x1_4 x2_4 r_x1_4 r_x2_4 hI
      refine w_st (fun _ => rfl) ?_
      refine w_st (fun _ => rfl) ?_
      refine f_get rfl (st_l0 h_a) (st_ck h_a _ _).1 rfl ?_
      refine b_ge rfl r_x2_4 (rd_rg _ _ _) (fun hq => ?_) (fun hq => ?_)
      · replace H := H.1 hq
        refine w_st (fun _ => rfl) ?_
        exact f_iret rfl r_x1_4 H
      · replace H := H.2 hq
        refine w_st (fun _ => rfl) ?_
        refine f_int 1 rfl rfl ?_
        refine w_st (fun _ => rfl) ?_
        refine f_getr rfl (st_l0 h_a) (st_ck h_a _ _).1 rfl ?_
        refine w_st (fun _ => rfl) ?_
        refine f_ld (st_2 h_a) rfl H.1 ?_
        replace H := H.2
        refine f_slI rfl ?_
        refine f_orI rfl ?_
        obtain ⟨z1_22, e_z1_22⟩ : ∃ q : Int, q = (orI x1_4 (slI 1 (rd m (a + 2) (Int.toNat x2_4)))) := ⟨_, rfl⟩
        have r_z1_22 : rg z1_22 := by rw [e_z1_22]; exact (io_rg _ _ _)
        replace H := H z1_22 e_z1_22
        refine f_nm e_z1_22 ?_
        refine w_st (ls2 := [some (.ref a), some (iv z1_22), some (iv x2_4)]) (fun _ => rfl) ?_
        obtain ⟨z2_23, e_z2_23⟩ : ∃ q : Int, q = wr (x2_4 + 1) := ⟨_, rfl⟩
        have r_z2_23 : rg z2_23 := by rw [e_z2_23]; exact wr_rg _
        replace H := H z2_23 e_z2_23
        refine f_iinc (ls2 := [some (.ref a), some (iv z1_22), some (iv z2_23)]) 1 rfl rfl rfl e_z2_23 rfl ?_
        refine w_st (fun _ => rfl) ?_
        exact ih_4 z1_22 z2_23 (Nat.lt_of_lt_of_le H.2 (Nat.le_of_lt_succ hz_4)) r_z1_22 r_z2_23 H.1
  exact lp_4 _ 0 0 (Nat.lt_succ_self _) (by unfold rg; decide) (by unfold rg; decide) H0_4
/-- TippedCrates$State.sumOfTops()I -/
def P_84 (d : Nat) (m : Mm) (a : Nat) (Q : Mm → Int → Prop) : Prop :=
  (∃ (I_4 : Int → Int → Mm → Prop) (mu_4 : Int → Int → Mm → Nat), I_4 0 0 m ∧
    ∀ (x1_4 x2_4 : Int) (m_4 : Mm), rg x1_4 → rg x2_4 → I_4 x1_4 x2_4 m_4 →
    (((rd m_4 a 4) ≤ x2_4 → Q m_4 x1_4) ∧
        (¬ (rd m_4 a 4) ≤ x2_4 → CK d 78 [.ref a, iv x2_4] m_4 (fun m15 v15 =>
          (∀ z1_19 : Int, z1_19 = (wr (x1_4 + v15)) → (∀ z2_20 : Int, z2_20 = wr (x2_4 + 1) → (I_4 z1_19 z2_20 m15 ∧ mu_4 z1_19 z2_20 m15 < mu_4 x1_4 x2_4 m_4)))))))
set_option maxRecDepth 20000 in
theorem br_84 {d : Nat} {m : Mm} {a : Nat} {Q : Mm → Int → Prop} (h_a : isSt a) (H : P_84 d m a Q) : CK (d + 1) 84 [.ref a] m Q := by
  unfold P_84 at H
  refine CK_of rfl ?_
  show mm_W d mc_84 0 [some (.ref a), none, none] [] (fm m) (XK Q)
  refine f_int 0 rfl rfl ?_
  refine w_st (ls2 := [some (.ref a), some (iv 0), none]) (fun _ => rfl) ?_
  refine f_int 0 rfl rfl ?_
  refine w_st (ls2 := [some (.ref a), some (iv 0), some (iv 0)]) (fun _ => rfl) ?_
  obtain ⟨I_4, mu_4, H0_4, HB_4⟩ := H
  have lp_4 : ∀ (z : Nat) (x1_4 x2_4 : Int) (m_4 : Mm), mu_4 x1_4 x2_4 m_4 < z → rg x1_4 → rg x2_4 → I_4 x1_4 x2_4 m_4 → mm_W d mc_84 4 [some (.ref a), some (iv x1_4), some (iv x2_4)] [] (fm m_4) (XK Q) := by
    intro z
    induction z with
    | zero => intro x1_4 x2_4 m_4 hz; exact absurd hz (Nat.not_lt_zero _)
    | succ z ih_4 =>
      intro x1_4 x2_4 m_4 hz_4 r_x1_4 r_x2_4 hI
      have H := HB_4 x1_4 x2_4 m_4 r_x1_4 r_x2_4 hI
      refine w_st (fun _ => rfl) ?_
      refine w_st (fun _ => rfl) ?_
      refine f_get rfl (st_l0 h_a) (st_ck h_a _ _).1 rfl ?_
      refine b_ge rfl r_x2_4 (rd_rg _ _ _) (fun hq => ?_) (fun hq => ?_)
      · replace H := H.1 hq
        refine w_st (fun _ => rfl) ?_
        exact f_iret rfl r_x1_4 H
      · replace H := H.2 hq
        refine w_st (fun _ => rfl) ?_
        refine w_st (fun _ => rfl) ?_
        refine w_st (fun _ => rfl) ?_
        refine k_VK (as := [iv x2_4]) rfl mg_84 rfl rfl (st_l0 h_a) (st_ck h_a _ _).1 rfl H (fun m15 v15 r_v15 H => ?_)
        refine f_add rfl ?_
        obtain ⟨z1_19, e_z1_19⟩ : ∃ q : Int, q = (wr (x1_4 + v15)) := ⟨_, rfl⟩
        have r_z1_19 : rg z1_19 := by rw [e_z1_19]; exact (wr_rg _)
        replace H := H z1_19 e_z1_19
        refine f_nm e_z1_19 ?_
        refine w_st (ls2 := [some (.ref a), some (iv z1_19), some (iv x2_4)]) (fun _ => rfl) ?_
        obtain ⟨z2_20, e_z2_20⟩ : ∃ q : Int, q = wr (x2_4 + 1) := ⟨_, rfl⟩
        have r_z2_20 : rg z2_20 := by rw [e_z2_20]; exact wr_rg _
        replace H := H z2_20 e_z2_20
        refine f_iinc (ls2 := [some (.ref a), some (iv z1_19), some (iv z2_20)]) 1 rfl rfl rfl e_z2_20 rfl ?_
        refine w_st (fun _ => rfl) ?_
        exact ih_4 z1_19 z2_20 m15 (Nat.lt_of_lt_of_le H.2 (Nat.le_of_lt_succ hz_4)) r_z1_19 r_z2_20 H.1
  exact lp_4 _ 0 0 m (Nat.lt_succ_self _) (by unfold rg; decide) (by unfold rg; decide) H0_4
/-- TippedCrates$Tape.push(I)V -/
def P_86 (d : Nat) (m : Mm) (x1 : Int) (Q : Mm → Prop) : Prop :=
  (∃ (I_3 : Int → Mm → Prop) (mu_3 : Int → Mm → Nat), I_3 24 m ∧
    ∀ (x2_3 : Int) (m_3 : Mm), rg x2_3 → I_3 x2_3 m_3 →
    (∃ R_46 : Prop,
        ((x2_3 < 0 → R_46) ∧
        (¬ x2_3 < 0 → ((2000 ≤ (rd m_3 1 0) → R_46) ∧
          (¬ 2000 ≤ (rd m_3 1 0) → (((0 : Int) ≤ (rd m_3 1 0) ∧ (rd m_3 1 0) < 2000) ∧ (∀ m29 : Mm, m29 = wt m_3 5 (Int.toNat (rd m_3 1 0)) (nb (nb (srI x1 x2_3))) → (∀ m37 : Mm, m37 = wt m29 1 0 (wr ((rd m29 1 0) + 1)) → (∀ z2_40 : Int, z2_40 = wr (x2_3 + (-8)) → (I_3 z2_40 m37 ∧ mu_3 z2_40 m37 < mu_3 x2_3 m_3))))))))) ∧
        (R_46 →
        Q m_3)))
set_option maxRecDepth 20000 in
theorem br_86 {d : Nat} {m : Mm} {x1 : Int} {Q : Mm → Prop} (r_x1 : rg x1) (H : P_86 d m x1 Q) : CV (d + 1) 86 [.ref 1, iv x1] m Q := by
  unfold P_86 at H
  refine CV_of rfl ?_
  show mm_W d mc_86 0 [some (.ref 1), some (iv x1), none] [] (fm m) (XV Q)
  refine f_int 24 rfl rfl ?_
  refine w_st (ls2 := [some (.ref 1), some (iv x1), some (iv 24)]) (fun _ => rfl) ?_
  obtain ⟨I_3, mu_3, H0_3, HB_3⟩ := H
  have lp_3 : ∀ (z : Nat) (x2_3 : Int) (m_3 : Mm), mu_3 x2_3 m_3 < z → rg x2_3 → I_3 x2_3 m_3 → mm_W d mc_86 3 [some (.ref 1), some (iv x1), some (iv x2_3)] [] (fm m_3) (XV Q) := by
    intro z
    induction z with
    | zero => intro x2_3 m_3 hz; exact absurd hz (Nat.not_lt_zero _)
    | succ z ih_3 =>
      intro x2_3 m_3 hz_3 r_x2_3 hI
      have H := HB_3 x2_3 m_3 r_x2_3 hI
      refine w_st (fun _ => rfl) ?_
      obtain ⟨R_46, H, HJ_46⟩ := H
      have tl_46 : R_46 → mm_W d mc_86 46 [some (.ref 1), some (iv x1), some (iv x2_3)] [] (fm m_3) (XV Q) := by
        intro   hR
        have H := HJ_46   hR
        exact f_ret rfl H
      refine z_lt rfl r_x2_3 (fun hq => ?_) (fun hq => ?_)
      · replace H := H.1 hq
        exact tl_46   H
      · replace H := H.2 hq
        refine w_st (fun _ => rfl) ?_
        refine g_1_0 rfl ?_
        refine f_int 2000 rfl rfl ?_
        refine b_ge rfl (rd_rg _ _ _) (by unfold rg; decide) (fun hq => ?_) (fun hq => ?_)
        · replace H := H.1 hq
          exact tl_46   H
        · replace H := H.2 hq
          refine w_st (fun _ => rfl) ?_
          refine g_1_4 rfl ?_
          refine w_st (fun _ => rfl) ?_
          refine g_1_0 rfl ?_
          refine w_st (fun _ => rfl) ?_
          refine w_st (fun _ => rfl) ?_
          refine f_srI rfl ?_
          refine f_nbI rfl ?_
          obtain ⟨m29, e_m29⟩ : ∃ q : Mm, q = wt m_3 5 (Int.toNat (rd m_3 1 0)) (nb (nb (srI x1 x2_3))) := ⟨_, rfl⟩
          refine f_stb (n := 2000) (by decide) (fun _ => rfl) (by decide) rfl H.1 e_m29 ?_
          replace H := H.2 m29 e_m29
          refine w_st (fun _ => rfl) ?_
          refine w_st (fun _ => rfl) ?_
          refine g_1_0 rfl ?_
          refine f_int 1 rfl rfl ?_
          refine f_add rfl ?_
          obtain ⟨m37, e_m37⟩ : ∃ q : Mm, q = wt m29 1 0 (wr ((rd m29 1 0) + 1)) := ⟨_, rfl⟩
          replace H := H m37 e_m37
          refine p_1_0 rfl e_m37 ?_
          obtain ⟨z2_40, e_z2_40⟩ : ∃ q : Int, q = wr (x2_3 + (-8)) := ⟨_, rfl⟩
          have r_z2_40 : rg z2_40 := by rw [e_z2_40]; exact wr_rg _
          replace H := H z2_40 e_z2_40
          refine f_iinc (ls2 := [some (.ref 1), some (iv x1), some (iv z2_40)]) (-8) rfl rfl rfl e_z2_40 rfl ?_
          refine w_st (fun _ => rfl) ?_
          exact ih_3 z2_40 m37 (Nat.lt_of_lt_of_le H.2 (Nat.le_of_lt_succ hz_3)) r_z2_40 H.1
  exact lp_3 _ 24 m (Nat.lt_succ_self _) (by unfold rg; decide) H0_3
/-- TippedCrates$Tape.cutIntoTokens()V -/
def P_87 (d : Nat) (m : Mm)  (Q : Mm → Prop) : Prop :=
  (∀ m2 : Mm, m2 = wt m 1 6 0 → (∃ (I_7 : Int → Mm → Prop) (mu_7 : Int → Mm → Nat), I_7 0 m2 ∧
    ∀ (x1_7 : Int) (m_7 : Mm), rg x1_7 → I_7 x1_7 m_7 →
    ((400 < x1_7 → Q m_7) ∧
        (¬ 400 < x1_7 → (∃ (I_14 : Mm → Prop) (mu_14 : Mm → Nat), I_14 m_7 ∧
          ∀ (m_14 : Mm), I_14 m_14 →
          (∃ R_53 : Mm → Prop,
              (((rd m_14 1 0) ≤ (rd m_14 1 6) → R_53 m_14) ∧
              (¬ (rd m_14 1 0) ≤ (rd m_14 1 6) → (((0 : Int) ≤ (rd m_14 1 6) ∧ (rd m_14 1 6) < 2000) ∧ CK d 93 [iv (rd m_14 5 (Int.toNat (rd m_14 1 6)))] m_14 (fun m34 v34 =>
                ((v34 = 0 → R_53 m34) ∧
                (¬ v34 = 0 → (∀ m47 : Mm, m47 = wt m34 1 6 (wr ((rd m34 1 6) + 1)) → (I_14 m47 ∧ mu_14 m47 < mu_14 m_14)))))))) ∧
              (∀ (m_53 : Mm), R_53 m_53 →
              (((0 : Int) ≤ x1_7 ∧ x1_7 < 401) ∧ (∀ m62 : Mm, m62 = wt m_53 3 (Int.toNat x1_7) (rd m_53 1 6) → (((rd m62 1 6) < (rd m62 1 0) → CV d 88 [.ref 1, iv x1_7] m62 (fun m85 =>
                  (∀ z1_88 : Int, z1_88 = wr (x1_7 + 1) → (I_7 z1_88 m85 ∧ mu_7 z1_88 m85 < mu_7 x1_7 m_7)))) ∧
                (¬ (rd m62 1 6) < (rd m62 1 0) → (((0 : Int) ≤ x1_7 ∧ x1_7 < 401) ∧ (∀ m81 : Mm, m81 = wt m62 2 (Int.toNat x1_7) 23 → Q m81)))))))))))))
set_option maxRecDepth 20000 in
theorem br_87 {d : Nat} {m : Mm}  {Q : Mm → Prop}  (H : P_87 d m  Q) : CV (d + 1) 87 [.ref 1] m Q := by
  unfold P_87 at H
  refine CV_of rfl ?_
  show mm_W d mc_87 0 [some (.ref 1), none] [] (fm m) (XV Q)
  refine w_st (fun _ => rfl) ?_
  refine f_int 0 rfl rfl ?_
  obtain ⟨m2, e_m2⟩ : ∃ q : Mm, q = wt m 1 6 0 := ⟨_, rfl⟩
  replace H := H m2 e_m2
  refine p_1_6 rfl e_m2 ?_
  refine f_int 0 rfl rfl ?_
  refine w_st (ls2 := [some (.ref 1), some (iv 0)]) (fun _ => rfl) ?_
  obtain ⟨I_7, mu_7, H0_7, HB_7⟩ := H
  have lp_7 : ∀ (z : Nat) (x1_7 : Int) (m_7 : Mm), mu_7 x1_7 m_7 < z → rg x1_7 → I_7 x1_7 m_7 → mm_W d mc_87 7 [some (.ref 1), some (iv x1_7)] [] (fm m_7) (XV Q) := by
    intro z
    induction z with
    | zero => intro x1_7 m_7 hz; exact absurd hz (Nat.not_lt_zero _)
    | succ z ih_7 =>
      intro x1_7 m_7 hz_7 r_x1_7 hI
      have H := HB_7 x1_7 m_7 r_x1_7 hI
      refine w_st (fun _ => rfl) ?_
      refine f_int 400 rfl rfl ?_
      refine b_gt rfl r_x1_7 (by unfold rg; decide) (fun hq => ?_) (fun hq => ?_)
      · replace H := H.1 hq
        exact f_ret rfl H
      · replace H := H.2 hq
        obtain ⟨I_14, mu_14, H0_14, HB_14⟩ := H
        have lp_14 : ∀ (z : Nat) (m_14 : Mm), mu_14 m_14 < z → I_14 m_14 → mm_W d mc_87 14 [some (.ref 1), some (iv x1_7)] [] (fm m_14) (XV Q) := by
          intro z
          induction z with
          | zero => intro m_14 hz; exact absurd hz (Nat.not_lt_zero _)
          | succ z ih_14 =>
            intro m_14 hz_14  hI
            have H := HB_14 m_14  hI
            refine w_st (fun _ => rfl) ?_
            refine g_1_6 rfl ?_
            refine w_st (fun _ => rfl) ?_
            refine g_1_0 rfl ?_
            obtain ⟨R_53, H, HJ_53⟩ := H
            have tl_53 : ∀ (m_53 : Mm), R_53 m_53 → mm_W d mc_87 53 [some (.ref 1), some (iv x1_7)] [] (fm m_53) (XV Q) := by
              intro m_53  hR
              have H := HJ_53 m_53  hR
              refine w_st (fun _ => rfl) ?_
              refine g_1_2 rfl ?_
              refine w_st (fun _ => rfl) ?_
              refine w_st (fun _ => rfl) ?_
              refine g_1_6 rfl ?_
              obtain ⟨m62, e_m62⟩ : ∃ q : Mm, q = wt m_53 3 (Int.toNat x1_7) (rd m_53 1 6) := ⟨_, rfl⟩
              refine f_st ir_3 rfl H.1 e_m62 ?_
              replace H := H.2 m62 e_m62
              refine w_st (fun _ => rfl) ?_
              refine g_1_6 rfl ?_
              refine w_st (fun _ => rfl) ?_
              refine g_1_0 rfl ?_
              refine b_lt rfl (rd_rg _ _ _) (rd_rg _ _ _) (fun hq => ?_) (fun hq => ?_)
              · replace H := H.1 hq
                refine w_st (fun _ => rfl) ?_
                refine w_st (fun _ => rfl) ?_
                refine k_VV (as := [iv x1_7]) rfl mg_87 rfl rfl (by decide) rfl rfl H (fun m85 H => ?_)
                obtain ⟨z1_88, e_z1_88⟩ : ∃ q : Int, q = wr (x1_7 + 1) := ⟨_, rfl⟩
                have r_z1_88 : rg z1_88 := by rw [e_z1_88]; exact wr_rg _
                replace H := H z1_88 e_z1_88
                refine f_iinc (ls2 := [some (.ref 1), some (iv z1_88)]) 1 rfl rfl rfl e_z1_88 rfl ?_
                refine w_st (fun _ => rfl) ?_
                exact ih_7 z1_88 m85 (Nat.lt_of_lt_of_le H.2 (Nat.le_of_lt_succ hz_7)) r_z1_88 H.1
              · replace H := H.2 hq
                refine w_st (fun _ => rfl) ?_
                refine g_1_1 rfl ?_
                refine w_st (fun _ => rfl) ?_
                refine f_int 23 rfl rfl ?_
                obtain ⟨m81, e_m81⟩ : ∃ q : Mm, q = wt m62 2 (Int.toNat x1_7) 23 := ⟨_, rfl⟩
                refine f_st ir_2 rfl H.1 e_m81 ?_
                replace H := H.2 m81 e_m81
                exact f_ret rfl H
            refine b_ge rfl (rd_rg _ _ _) (rd_rg _ _ _) (fun hq => ?_) (fun hq => ?_)
            · replace H := H.1 hq
              exact tl_53 m_14  H
            · replace H := H.2 hq
              refine w_st (fun _ => rfl) ?_
              refine g_1_4 rfl ?_
              refine w_st (fun _ => rfl) ?_
              refine g_1_6 rfl ?_
              refine f_ldb (n := 2000) (by decide) rfl (by decide) rfl H.1 ?_
              replace H := H.2
              refine k_SK (as := [iv (rd m_14 5 (Int.toNat (rd m_14 1 6)))]) rfl mg_87 rfl rfl rfl H (fun m34 v34 r_v34 H => ?_)
              refine z_eq rfl r_v34 (fun hq => ?_) (fun hq => ?_)
              · replace H := H.1 hq
                exact tl_53 m34  H
              · replace H := H.2 hq
                refine w_st (fun _ => rfl) ?_
                refine w_st (fun _ => rfl) ?_
                refine g_1_6 rfl ?_
                refine f_int 1 rfl rfl ?_
                refine f_add rfl ?_
                obtain ⟨m47, e_m47⟩ : ∃ q : Mm, q = wt m34 1 6 (wr ((rd m34 1 6) + 1)) := ⟨_, rfl⟩
                replace H := H m47 e_m47
                refine p_1_6 rfl e_m47 ?_
                refine w_st (fun _ => rfl) ?_
                exact ih_14 m47 (Nat.lt_of_lt_of_le H.2 (Nat.le_of_lt_succ hz_14))  H.1
        exact lp_14 _ m_7 (Nat.lt_succ_self _)  H0_14
  exact lp_7 _ 0 m2 (Nat.lt_succ_self _) (by unfold rg; decide) H0_7
/-- TippedCrates$Tape.cutToken(I)V -/
def P_88 (d : Nat) (m : Mm) (x1 : Int) (Q : Mm → Prop) : Prop :=
  (((0 : Int) ≤ (rd m 1 6) ∧ (rd m 1 6) < 2000) ∧ (∀ z2_13 : Int, z2_13 = (anI (rd m 5 (Int.toNat (rd m 1 6))) 255) → CK d 94 [iv z2_13] m (fun m15 v15 =>
    (∃ R_76 : Mm → Prop,
    ((v15 = 0 → CK d 95 [iv z2_13] m15 (fun m30 v30 =>
      ((v30 = 0 → CK d 290 [.ref (1100 + 1), iv (ncI z2_13)] m30 (fun m53 v53 =>
        (∃ R_65 : Int → Prop,
        ((v53 < 0 → R_65 24) ∧
        (¬ v53 < 0 → R_65 z2_13)) ∧
        (∀ (s2_65 : Int) , rg s2_65 → R_65 s2_65 →
        (((0 : Int) ≤ x1 ∧ x1 < 401) ∧ (∀ m65 : Mm, m65 = wt m53 2 (Int.toNat x1) s2_65 → (∀ m73 : Mm, m73 = wt m65 1 6 (wr ((rd m65 1 6) + 1)) → R_76 m73))))))) ∧
      (¬ v30 = 0 → CV d 91 [.ref 1, iv x1] m30 (fun m38 =>
        R_76 m38))))) ∧
    (¬ v15 = 0 → CV d 89 [.ref 1, iv x1] m15 (fun m23 =>
      R_76 m23))) ∧
    (∀ (m_76 : Mm), R_76 m_76 →
    Q m_76)))))
set_option maxRecDepth 20000 in
theorem br_88 {d : Nat} {m : Mm} {x1 : Int} {Q : Mm → Prop} (r_x1 : rg x1) (H : P_88 d m x1 Q) : CV (d + 1) 88 [.ref 1, iv x1] m Q := by
  unfold P_88 at H
  refine CV_of rfl ?_
  show mm_W d mc_88 0 [some (.ref 1), some (iv x1), none] [] (fm m) (XV Q)
  refine w_st (fun _ => rfl) ?_
  refine g_1_4 rfl ?_
  refine w_st (fun _ => rfl) ?_
  refine g_1_6 rfl ?_
  refine f_ldb (n := 2000) (by decide) rfl (by decide) rfl H.1 ?_
  replace H := H.2
  refine f_int 255 rfl rfl ?_
  refine f_anI rfl ?_
  obtain ⟨z2_13, e_z2_13⟩ : ∃ q : Int, q = (anI (rd m 5 (Int.toNat (rd m 1 6))) 255) := ⟨_, rfl⟩
  have r_z2_13 : rg z2_13 := by rw [e_z2_13]; exact (io_rg _ _ _)
  replace H := H z2_13 e_z2_13
  refine f_nm e_z2_13 ?_
  refine w_st (ls2 := [some (.ref 1), some (iv x1), some (iv z2_13)]) (fun _ => rfl) ?_
  refine w_st (fun _ => rfl) ?_
  refine k_SK (as := [iv z2_13]) rfl mg_88 rfl rfl rfl H (fun m15 v15 r_v15 H => ?_)
  obtain ⟨R_76, H, HJ_76⟩ := H
  have tl_76 : ∀ (m_76 : Mm), R_76 m_76 → mm_W d mc_88 76 [some (.ref 1), some (iv x1), some (iv z2_13)] [] (fm m_76) (XV Q) := by
    intro m_76  hR
    have H := HJ_76 m_76  hR
    exact f_ret rfl H
  refine z_eq rfl r_v15 (fun hq => ?_) (fun hq => ?_)
  · replace H := H.1 hq
    refine w_st (fun _ => rfl) ?_
    refine k_SK (as := [iv z2_13]) rfl mg_88 rfl rfl rfl H (fun m30 v30 r_v30 H => ?_)
    refine z_eq rfl r_v30 (fun hq => ?_) (fun hq => ?_)
    · replace H := H.1 hq
      refine w_st (fun _ => rfl) ?_
      refine g_1_1 rfl ?_
      refine w_st (fun _ => rfl) ?_
      refine w_st (fun _ => rfl) ?_
      refine w_st (fun _ => rfl) ?_
      refine f_ncI rfl ?_
      refine k_XK (as := [iv (ncI z2_13)]) rfl mg_88 rfl rfl rfl rfl H (fun m53 v53 r_v53 H => ?_)
      obtain ⟨R_65, H, HJ_65⟩ := H
      have tl_65 : ∀ (s2_65 : Int) , rg s2_65 → R_65 s2_65 → mm_W d mc_88 65 [some (.ref 1), some (iv x1), some (iv z2_13)] [iv s2_65, iv x1, .ref 2] (fm m53) (XV Q) := by
        intro s2_65 r_s2_65 hR
        have H := HJ_65 s2_65 r_s2_65 hR
        obtain ⟨m65, e_m65⟩ : ∃ q : Mm, q = wt m53 2 (Int.toNat x1) s2_65 := ⟨_, rfl⟩
        refine f_st ir_2 rfl H.1 e_m65 ?_
        replace H := H.2 m65 e_m65
        refine w_st (fun _ => rfl) ?_
        refine w_st (fun _ => rfl) ?_
        refine g_1_6 rfl ?_
        refine f_int 1 rfl rfl ?_
        refine f_add rfl ?_
        obtain ⟨m73, e_m73⟩ : ∃ q : Mm, q = wt m65 1 6 (wr ((rd m65 1 6) + 1)) := ⟨_, rfl⟩
        replace H := H m73 e_m73
        refine p_1_6 rfl e_m73 ?_
        exact tl_76 m73  H
      refine z_lt rfl r_v53 (fun hq => ?_) (fun hq => ?_)
      · replace H := H.1 hq
        refine f_int 24 rfl rfl ?_
        exact tl_65 24 (by unfold rg; decide) H
      · replace H := H.2 hq
        refine w_st (fun _ => rfl) ?_
        refine w_st (fun _ => rfl) ?_
        exact tl_65 z2_13 r_z2_13 H
    · replace H := H.2 hq
      refine w_st (fun _ => rfl) ?_
      refine w_st (fun _ => rfl) ?_
      refine k_VV (as := [iv x1]) rfl mg_88 rfl rfl (by decide) rfl rfl H (fun m38 H => ?_)
      refine w_st (fun _ => rfl) ?_
      exact tl_76 m38  H
  · replace H := H.2 hq
    refine w_st (fun _ => rfl) ?_
    refine w_st (fun _ => rfl) ?_
    refine k_VV (as := [iv x1]) rfl mg_88 rfl rfl (by decide) rfl rfl H (fun m23 H => ?_)
    refine w_st (fun _ => rfl) ?_
    exact tl_76 m23  H
/-- TippedCrates$Tape.cutLetters(I)V -/
def P_89 (d : Nat) (m : Mm) (x1 : Int) (Q : Mm → Prop) : Prop :=
  (∃ (I_4 : Int → Int → Mm → Prop) (mu_4 : Int → Int → Mm → Nat), I_4 0 0 m ∧
    ∀ (x2_4 x3_4 : Int) (m_4 : Mm), rg x2_4 → rgl x3_4 → I_4 x2_4 x3_4 m_4 →
    (∃ R_70 : Mm → Prop,
        (((rd m_4 1 0) ≤ (rd m_4 1 6) → R_70 m_4) ∧
        (¬ (rd m_4 1 0) ≤ (rd m_4 1 6) → (((0 : Int) ≤ (rd m_4 1 6) ∧ (rd m_4 1 6) < 2000) ∧ CK d 94 [iv (rd m_4 5 (Int.toNat (rd m_4 1 6)))] m_4 (fun m24 v24 =>
          ((v24 = 0 → R_70 m24) ∧
          (¬ v24 = 0 → (∃ R_53 : Int → Mm → Prop,
            ((8 ≤ x2_4 → R_53 x3_4 m24) ∧
            (¬ 8 ≤ x2_4 → (((0 : Int) ≤ (rd m24 1 6) ∧ (rd m24 1 6) < 2000) ∧ CL d 92 [lv x3_4, iv (rd m24 5 (Int.toNat (rd m24 1 6)))] m24 (fun m46 v46 =>
              R_53 v46 m46)))) ∧
            (∀ (s0_53 : Int) (m_53 : Mm), rgl s0_53 → R_53 s0_53 m_53 →
            (∀ z2_54 : Int, z2_54 = wr (x2_4 + 1) → (∀ m64 : Mm, m64 = wt m_53 1 6 (wr ((rd m_53 1 6) + 1)) → (I_4 z2_54 s0_53 m64 ∧ mu_4 z2_54 s0_53 m64 < mu_4 x2_4 x3_4 m_4))))))))))) ∧
        (∀ (m_70 : Mm), R_70 m_70 →
        (((0 : Int) ≤ x1 ∧ x1 < 401) ∧ (∀ m76 : Mm, m76 = wl m_70 4 (Int.toNat x1) x3_4 → (∃ R_98 : Int → Mm → Prop,
          ((x2_4 ≤ 8 → CK d 90 [.ref 1, lv x3_4] m76 (fun m95 v95 =>
            R_98 v95 m95)) ∧
          (¬ x2_4 ≤ 8 → R_98 24 m76)) ∧
          (∀ (s2_98 : Int) (m_98 : Mm), rg s2_98 → R_98 s2_98 m_98 →
          (((0 : Int) ≤ x1 ∧ x1 < 401) ∧ (∀ m98 : Mm, m98 = wt m_98 2 (Int.toNat x1) s2_98 → Q m98)))))))))
set_option maxRecDepth 20000 in
theorem br_89 {d : Nat} {m : Mm} {x1 : Int} {Q : Mm → Prop} (r_x1 : rg x1) (H : P_89 d m x1 Q) : CV (d + 1) 89 [.ref 1, iv x1] m Q := by
  unfold P_89 at H
  refine CV_of rfl ?_
  show mm_W d mc_89 0 [some (.ref 1), some (iv x1), none, none, none] [] (fm m) (XV Q)
  refine f_int 0 rfl rfl ?_
  refine w_st (ls2 := [some (.ref 1), some (iv x1), some (iv 0), none, none]) (fun _ => rfl) ?_
  refine f_long 0 rfl rfl ?_
  refine w_st (ls2 := [some (.ref 1), some (iv x1), some (iv 0), some (lv 0), none]) (fun _ => rfl) ?_
  obtain ⟨I_4, mu_4, H0_4, HB_4⟩ := H
  have lp_4 : ∀ (z : Nat) (x2_4 x3_4 : Int) (m_4 : Mm), mu_4 x2_4 x3_4 m_4 < z → rg x2_4 → rgl x3_4 → I_4 x2_4 x3_4 m_4 → mm_W d mc_89 4 [some (.ref 1), some (iv x1), some (iv x2_4), some (lv x3_4), none] [] (fm m_4) (XV Q) := by
    intro z
    induction z with
    | zero => intro x2_4 x3_4 m_4 hz; exact absurd hz (Nat.not_lt_zero _)
    | succ z ih_4 =>
      intro x2_4 x3_4 m_4 hz_4 r_x2_4 r_x3_4 hI
      have H := HB_4 x2_4 x3_4 m_4 r_x2_4 r_x3_4 hI
      refine w_st (fun _ => rfl) ?_
      refine g_1_6 rfl ?_
      refine w_st (fun _ => rfl) ?_
      refine g_1_0 rfl ?_
      obtain ⟨R_70, H, HJ_70⟩ := H
      have tl_70 : ∀ (m_70 : Mm), R_70 m_70 → mm_W d mc_89 70 [some (.ref 1), some (iv x1), some (iv x2_4), some (lv x3_4), none] [] (fm m_70) (XV Q) := by
        intro m_70  hR
        have H := HJ_70 m_70  hR
        refine w_st (fun _ => rfl) ?_
        refine g_1_3 rfl ?_
        refine w_st (fun _ => rfl) ?_
        refine w_st (fun _ => rfl) ?_
        obtain ⟨m76, e_m76⟩ : ∃ q : Mm, q = wl m_70 4 (Int.toNat x1) x3_4 := ⟨_, rfl⟩
        refine f_stl (n := 401) (by decide) (fun _ => rfl) (by decide) rfl H.1 e_m76 ?_
        replace H := H.2 m76 e_m76
        refine w_st (fun _ => rfl) ?_
        refine g_1_1 rfl ?_
        refine w_st (fun _ => rfl) ?_
        refine w_st (fun _ => rfl) ?_
        refine f_int 8 rfl rfl ?_
        obtain ⟨R_98, H, HJ_98⟩ := H
        have tl_98 : ∀ (s2_98 : Int) (m_98 : Mm), rg s2_98 → R_98 s2_98 m_98 → mm_W d mc_89 98 [some (.ref 1), some (iv x1), some (iv x2_4), some (lv x3_4), none] [iv s2_98, iv x1, .ref 2] (fm m_98) (XV Q) := by
          intro s2_98 m_98 r_s2_98 hR
          have H := HJ_98 s2_98 m_98 r_s2_98 hR
          obtain ⟨m98, e_m98⟩ : ∃ q : Mm, q = wt m_98 2 (Int.toNat x1) s2_98 := ⟨_, rfl⟩
          refine f_st ir_2 rfl H.1 e_m98 ?_
          replace H := H.2 m98 e_m98
          exact f_ret rfl H
        refine b_le rfl r_x2_4 (by unfold rg; decide) (fun hq => ?_) (fun hq => ?_)
        · replace H := H.1 hq
          refine w_st (fun _ => rfl) ?_
          refine w_st (fun _ => rfl) ?_
          refine k_VK (as := [lv x3_4]) rfl mg_89 rfl rfl (by decide) rfl rfl H (fun m95 v95 r_v95 H => ?_)
          exact tl_98 v95 m95 r_v95 H
        · replace H := H.2 hq
          refine f_int 24 rfl rfl ?_
          refine w_st (fun _ => rfl) ?_
          exact tl_98 24 m76 (by unfold rg; decide) H
      refine b_ge rfl (rd_rg _ _ _) (rd_rg _ _ _) (fun hq => ?_) (fun hq => ?_)
      · replace H := H.1 hq
        exact tl_70 m_4  H
      · replace H := H.2 hq
        refine w_st (fun _ => rfl) ?_
        refine g_1_4 rfl ?_
        refine w_st (fun _ => rfl) ?_
        refine g_1_6 rfl ?_
        refine f_ldb (n := 2000) (by decide) rfl (by decide) rfl H.1 ?_
        replace H := H.2
        refine k_SK (as := [iv (rd m_4 5 (Int.toNat (rd m_4 1 6)))]) rfl mg_89 rfl rfl rfl H (fun m24 v24 r_v24 H => ?_)
        refine z_eq rfl r_v24 (fun hq => ?_) (fun hq => ?_)
        · replace H := H.1 hq
          exact tl_70 m24  H
        · replace H := H.2 hq
          refine w_st (fun _ => rfl) ?_
          refine f_int 8 rfl rfl ?_
          obtain ⟨R_53, H, HJ_53⟩ := H
          have tl_53 : ∀ (s0_53 : Int) (m_53 : Mm), rgl s0_53 → R_53 s0_53 m_53 → mm_W d mc_89 53 [some (.ref 1), some (iv x1), some (iv x2_4), some (lv x3_4), none] [lv s0_53] (fm m_53) (XV Q) := by
            intro s0_53 m_53 r_s0_53 hR
            have H := HJ_53 s0_53 m_53 r_s0_53 hR
            refine w_st (ls2 := [some (.ref 1), some (iv x1), some (iv x2_4), some (lv s0_53), none]) (fun _ => rfl) ?_
            obtain ⟨z2_54, e_z2_54⟩ : ∃ q : Int, q = wr (x2_4 + 1) := ⟨_, rfl⟩
            have r_z2_54 : rg z2_54 := by rw [e_z2_54]; exact wr_rg _
            replace H := H z2_54 e_z2_54
            refine f_iinc (ls2 := [some (.ref 1), some (iv x1), some (iv z2_54), some (lv s0_53), none]) 1 rfl rfl rfl e_z2_54 rfl ?_
            refine w_st (fun _ => rfl) ?_
            refine w_st (fun _ => rfl) ?_
            refine g_1_6 rfl ?_
            refine f_int 1 rfl rfl ?_
            refine f_add rfl ?_
            obtain ⟨m64, e_m64⟩ : ∃ q : Mm, q = wt m_53 1 6 (wr ((rd m_53 1 6) + 1)) := ⟨_, rfl⟩
            replace H := H m64 e_m64
            refine p_1_6 rfl e_m64 ?_
            refine w_st (fun _ => rfl) ?_
            exact ih_4 z2_54 s0_53 m64 (Nat.lt_of_lt_of_le H.2 (Nat.le_of_lt_succ hz_4)) r_z2_54 r_s0_53 H.1
          refine b_ge rfl r_x2_4 (by unfold rg; decide) (fun hq => ?_) (fun hq => ?_)
          · replace H := H.1 hq
            refine w_st (fun _ => rfl) ?_
            exact tl_53 x3_4 m24 r_x3_4 H
          · replace H := H.2 hq
            refine w_st (fun _ => rfl) ?_
            refine w_st (fun _ => rfl) ?_
            refine g_1_4 rfl ?_
            refine w_st (fun _ => rfl) ?_
            refine g_1_6 rfl ?_
            refine f_ldb (n := 2000) (by decide) rfl (by decide) rfl H.1 ?_
            replace H := H.2
            refine k_SL (as := [lv x3_4, iv (rd m24 5 (Int.toNat (rd m24 1 6)))]) rfl mg_89 rfl rfl rfl H (fun m46 v46 r_v46 H => ?_)
            refine w_st (fun _ => rfl) ?_
            exact tl_53 v46 m46 r_v46 H
  exact lp_4 _ 0 0 m (Nat.lt_succ_self _) (by unfold rg; decide) (by unfold rgl; decide) H0_4
/-- TippedCrates$Tape.kindOf(J)I -/
def P_90 (d : Nat) (m : Mm) (x1 : Int) (Q : Mm → Int → Prop) : Prop :=
  (∃ (I_2 : Int → Prop) (mu_2 : Int → Nat), I_2 0 ∧
    ∀ (x3_2 : Int) , rg x3_2 → I_2 x3_2 →
    ((21 ≤ x3_2 → Q m 21) ∧
        (¬ 21 ≤ x3_2 → (((0 : Int) ≤ x3_2 ∧ x3_2 < 21) ∧ ((¬ (lcm2 (ld m 6 (Int.toNat x3_2)) x1) = 0 → (∀ z3_21 : Int, z3_21 = wr (x3_2 + 1) → (I_2 z3_21 ∧ mu_2 z3_21 < mu_2 x3_2))) ∧
          ((lcm2 (ld m 6 (Int.toNat x3_2)) x1) = 0 → Q m x3_2))))))
set_option maxRecDepth 20000 in
theorem br_90 {d : Nat} {m : Mm} {x1 : Int} {Q : Mm → Int → Prop} (r_x1 : rgl x1) (H : P_90 d m x1 Q) : CK (d + 1) 90 [.ref 1, lv x1] m Q := by
  unfold P_90 at H
  refine CK_of rfl ?_
  show mm_W d mc_90 0 [some (.ref 1), some (lv x1), none, none] [] (fm m) (XK Q)
  refine f_int 0 rfl rfl ?_
  refine w_st (ls2 := [some (.ref 1), some (lv x1), none, some (iv 0)]) (fun _ => rfl) ?_
  obtain ⟨I_2, mu_2, H0_2, HB_2⟩ := H
  have lp_2 : ∀ (z : Nat) (x3_2 : Int) , mu_2 x3_2 < z → rg x3_2 → I_2 x3_2 → mm_W d mc_90 2 [some (.ref 1), some (lv x1), none, some (iv x3_2)] [] (fm m) (XK Q) := by
    intro z
    induction z with
    | zero => intro x3_2 hz; exact absurd hz (Nat.not_lt_zero _)
    | succ z ih_2 =>
      intro x3_2 hz_2 r_x3_2 hI
      have H := HB_2 x3_2 r_x3_2 hI
      refine w_st (fun _ => rfl) ?_
      refine f_int 21 rfl rfl ?_
      refine b_ge rfl r_x3_2 (by unfold rg; decide) (fun hq => ?_) (fun hq => ?_)
      · replace H := H.1 hq
        refine f_int 21 rfl rfl ?_
        exact f_iret rfl (by unfold rg; decide) H
      · replace H := H.2 hq
        refine w_st (fun _ => rfl) ?_
        refine g_1_5 rfl ?_
        refine w_st (fun _ => rfl) ?_
        refine f_ldl (n := 21) (by decide) rfl (by decide) rfl H.1 ?_
        replace H := H.2
        refine w_st (fun _ => rfl) ?_
        refine f_lcmp rfl (ld_rg _ _ _) r_x1 ?_
        refine z_ne rfl (lcm2_rg _ _) (fun hq => ?_) (fun hq => ?_)
        · replace H := H.1 hq
          obtain ⟨z3_21, e_z3_21⟩ : ∃ q : Int, q = wr (x3_2 + 1) := ⟨_, rfl⟩
          have r_z3_21 : rg z3_21 := by rw [e_z3_21]; exact wr_rg _
          replace H := H z3_21 e_z3_21
          refine f_iinc (ls2 := [some (.ref 1), some (lv x1), none, some (iv z3_21)]) 1 rfl rfl rfl e_z3_21 rfl ?_
          refine w_st (fun _ => rfl) ?_
          exact ih_2 z3_21 (Nat.lt_of_lt_of_le H.2 (Nat.le_of_lt_succ hz_2)) r_z3_21 H.1
        · replace H := H.2 hq
          refine w_st (fun _ => rfl) ?_
          exact f_iret rfl r_x3_2 H
  exact lp_2 _ 0 (Nat.lt_succ_self _) (by unfold rg; decide) H0_2
/-- TippedCrates$Tape.cutDigits(I)V -/
def P_91 (d : Nat) (m : Mm) (x1 : Int) (Q : Mm → Prop) : Prop :=
  (∃ (I_4 : Int → Int → Mm → Prop) (mu_4 : Int → Int → Mm → Nat), I_4 0 0 m ∧
    ∀ (x2_4 x3_4 : Int) (m_4 : Mm), rg x2_4 → rgl x3_4 → I_4 x2_4 x3_4 m_4 →
    (∃ R_76 : Mm → Prop,
        (((rd m_4 1 0) ≤ (rd m_4 1 6) → R_76 m_4) ∧
        (¬ (rd m_4 1 0) ≤ (rd m_4 1 6) → (((0 : Int) ≤ (rd m_4 1 6) ∧ (rd m_4 1 6) < 2000) ∧ CK d 95 [iv (rd m_4 5 (Int.toNat (rd m_4 1 6)))] m_4 (fun m24 v24 =>
          ((v24 = 0 → R_76 m24) ∧
          (¬ v24 = 0 → (∃ R_59 : Int → Prop,
            ((4 ≤ x2_4 → R_59 x3_4) ∧
            (¬ 4 ≤ x2_4 → (((0 : Int) ≤ (rd m24 1 6) ∧ (rd m24 1 6) < 2000) ∧ R_59 (wrl ((wrl ((wrl (x3_4 * 10)) + (rd m24 5 (Int.toNat (rd m24 1 6))))) - 48))))) ∧
            (∀ (s0_59 : Int) , rgl s0_59 → R_59 s0_59 →
            (∀ z2_60 : Int, z2_60 = wr (x2_4 + 1) → (∀ m70 : Mm, m70 = wt m24 1 6 (wr ((rd m24 1 6) + 1)) → (I_4 z2_60 s0_59 m70 ∧ mu_4 z2_60 s0_59 m70 < mu_4 x2_4 x3_4 m_4))))))))))) ∧
        (∀ (m_76 : Mm), R_76 m_76 →
        (((0 : Int) ≤ x1 ∧ x1 < 401) ∧ (∀ m82 : Mm, m82 = wl m_76 4 (Int.toNat x1) x3_4 → (∃ R_100 : Int → Prop,
          ((x2_4 ≤ 4 → R_100 22) ∧
          (¬ x2_4 ≤ 4 → R_100 24)) ∧
          (∀ (s2_100 : Int) , rg s2_100 → R_100 s2_100 →
          (((0 : Int) ≤ x1 ∧ x1 < 401) ∧ (∀ m100 : Mm, m100 = wt m82 2 (Int.toNat x1) s2_100 → Q m100)))))))))
set_option maxRecDepth 20000 in
theorem br_91 {d : Nat} {m : Mm} {x1 : Int} {Q : Mm → Prop} (r_x1 : rg x1) (H : P_91 d m x1 Q) : CV (d + 1) 91 [.ref 1, iv x1] m Q := by
  unfold P_91 at H
  refine CV_of rfl ?_
  show mm_W d mc_91 0 [some (.ref 1), some (iv x1), none, none, none] [] (fm m) (XV Q)
  refine f_int 0 rfl rfl ?_
  refine w_st (ls2 := [some (.ref 1), some (iv x1), some (iv 0), none, none]) (fun _ => rfl) ?_
  refine f_long 0 rfl rfl ?_
  refine w_st (ls2 := [some (.ref 1), some (iv x1), some (iv 0), some (lv 0), none]) (fun _ => rfl) ?_
  obtain ⟨I_4, mu_4, H0_4, HB_4⟩ := H
  have lp_4 : ∀ (z : Nat) (x2_4 x3_4 : Int) (m_4 : Mm), mu_4 x2_4 x3_4 m_4 < z → rg x2_4 → rgl x3_4 → I_4 x2_4 x3_4 m_4 → mm_W d mc_91 4 [some (.ref 1), some (iv x1), some (iv x2_4), some (lv x3_4), none] [] (fm m_4) (XV Q) := by
    intro z
    induction z with
    | zero => intro x2_4 x3_4 m_4 hz; exact absurd hz (Nat.not_lt_zero _)
    | succ z ih_4 =>
      intro x2_4 x3_4 m_4 hz_4 r_x2_4 r_x3_4 hI
      have H := HB_4 x2_4 x3_4 m_4 r_x2_4 r_x3_4 hI
      refine w_st (fun _ => rfl) ?_
      refine g_1_6 rfl ?_
      refine w_st (fun _ => rfl) ?_
      refine g_1_0 rfl ?_
      obtain ⟨R_76, H, HJ_76⟩ := H
      have tl_76 : ∀ (m_76 : Mm), R_76 m_76 → mm_W d mc_91 76 [some (.ref 1), some (iv x1), some (iv x2_4), some (lv x3_4), none] [] (fm m_76) (XV Q) := by
        intro m_76  hR
        have H := HJ_76 m_76  hR
        refine w_st (fun _ => rfl) ?_
        refine g_1_3 rfl ?_
        refine w_st (fun _ => rfl) ?_
        refine w_st (fun _ => rfl) ?_
        obtain ⟨m82, e_m82⟩ : ∃ q : Mm, q = wl m_76 4 (Int.toNat x1) x3_4 := ⟨_, rfl⟩
        refine f_stl (n := 401) (by decide) (fun _ => rfl) (by decide) rfl H.1 e_m82 ?_
        replace H := H.2 m82 e_m82
        refine w_st (fun _ => rfl) ?_
        refine g_1_1 rfl ?_
        refine w_st (fun _ => rfl) ?_
        refine w_st (fun _ => rfl) ?_
        refine f_int 4 rfl rfl ?_
        obtain ⟨R_100, H, HJ_100⟩ := H
        have tl_100 : ∀ (s2_100 : Int) , rg s2_100 → R_100 s2_100 → mm_W d mc_91 100 [some (.ref 1), some (iv x1), some (iv x2_4), some (lv x3_4), none] [iv s2_100, iv x1, .ref 2] (fm m82) (XV Q) := by
          intro s2_100 r_s2_100 hR
          have H := HJ_100 s2_100 r_s2_100 hR
          obtain ⟨m100, e_m100⟩ : ∃ q : Mm, q = wt m82 2 (Int.toNat x1) s2_100 := ⟨_, rfl⟩
          refine f_st ir_2 rfl H.1 e_m100 ?_
          replace H := H.2 m100 e_m100
          exact f_ret rfl H
        refine b_le rfl r_x2_4 (by unfold rg; decide) (fun hq => ?_) (fun hq => ?_)
        · replace H := H.1 hq
          refine f_int 22 rfl rfl ?_
          exact tl_100 22 (by unfold rg; decide) H
        · replace H := H.2 hq
          refine f_int 24 rfl rfl ?_
          refine w_st (fun _ => rfl) ?_
          exact tl_100 24 (by unfold rg; decide) H
      refine b_ge rfl (rd_rg _ _ _) (rd_rg _ _ _) (fun hq => ?_) (fun hq => ?_)
      · replace H := H.1 hq
        exact tl_76 m_4  H
      · replace H := H.2 hq
        refine w_st (fun _ => rfl) ?_
        refine g_1_4 rfl ?_
        refine w_st (fun _ => rfl) ?_
        refine g_1_6 rfl ?_
        refine f_ldb (n := 2000) (by decide) rfl (by decide) rfl H.1 ?_
        replace H := H.2
        refine k_SK (as := [iv (rd m_4 5 (Int.toNat (rd m_4 1 6)))]) rfl mg_91 rfl rfl rfl H (fun m24 v24 r_v24 H => ?_)
        refine z_eq rfl r_v24 (fun hq => ?_) (fun hq => ?_)
        · replace H := H.1 hq
          exact tl_76 m24  H
        · replace H := H.2 hq
          refine w_st (fun _ => rfl) ?_
          refine f_int 4 rfl rfl ?_
          obtain ⟨R_59, H, HJ_59⟩ := H
          have tl_59 : ∀ (s0_59 : Int) , rgl s0_59 → R_59 s0_59 → mm_W d mc_91 59 [some (.ref 1), some (iv x1), some (iv x2_4), some (lv x3_4), none] [lv s0_59] (fm m24) (XV Q) := by
            intro s0_59 r_s0_59 hR
            have H := HJ_59 s0_59 r_s0_59 hR
            refine w_st (ls2 := [some (.ref 1), some (iv x1), some (iv x2_4), some (lv s0_59), none]) (fun _ => rfl) ?_
            obtain ⟨z2_60, e_z2_60⟩ : ∃ q : Int, q = wr (x2_4 + 1) := ⟨_, rfl⟩
            have r_z2_60 : rg z2_60 := by rw [e_z2_60]; exact wr_rg _
            replace H := H z2_60 e_z2_60
            refine f_iinc (ls2 := [some (.ref 1), some (iv x1), some (iv z2_60), some (lv s0_59), none]) 1 rfl rfl rfl e_z2_60 rfl ?_
            refine w_st (fun _ => rfl) ?_
            refine w_st (fun _ => rfl) ?_
            refine g_1_6 rfl ?_
            refine f_int 1 rfl rfl ?_
            refine f_add rfl ?_
            obtain ⟨m70, e_m70⟩ : ∃ q : Mm, q = wt m24 1 6 (wr ((rd m24 1 6) + 1)) := ⟨_, rfl⟩
            replace H := H m70 e_m70
            refine p_1_6 rfl e_m70 ?_
            refine w_st (fun _ => rfl) ?_
            exact ih_4 z2_60 s0_59 m70 (Nat.lt_of_lt_of_le H.2 (Nat.le_of_lt_succ hz_4)) r_z2_60 r_s0_59 H.1
          refine b_ge rfl r_x2_4 (by unfold rg; decide) (fun hq => ?_) (fun hq => ?_)
          · replace H := H.1 hq
            refine w_st (fun _ => rfl) ?_
            exact tl_59 x3_4 r_x3_4 H
          · replace H := H.2 hq
            refine w_st (fun _ => rfl) ?_
            refine f_long 10 rfl rfl ?_
            refine f_mull rfl ?_
            refine w_st (fun _ => rfl) ?_
            refine g_1_4 rfl ?_
            refine w_st (fun _ => rfl) ?_
            refine g_1_6 rfl ?_
            refine f_ldb (n := 2000) (by decide) rfl (by decide) rfl H.1 ?_
            replace H := H.2
            refine f_i2l rfl (rd_rg _ _ _) ?_
            refine f_addl rfl ?_
            refine f_long 48 rfl rfl ?_
            refine f_subl rfl ?_
            refine w_st (fun _ => rfl) ?_
            exact tl_59 (wrl ((wrl ((wrl (x3_4 * 10)) + (rd m24 5 (Int.toNat (rd m24 1 6))))) - 48)) (wrl_rg _) H
  exact lp_4 _ 0 0 m (Nat.lt_succ_self _) (by unfold rg; decide) (by unfold rgl; decide) H0_4
/-- TippedCrates$Tape.withLetter(JI)J -/
def P_92 (d : Nat) (m : Mm) (x0 : Int) (x2 : Int) (Q : Mm → Int → Prop) : Prop :=
  Q m (wrl ((wrl ((wrl ((wrl (x0 * 27)) + x2)) - 97)) + 1))
set_option maxRecDepth 20000 in
theorem br_92 {d : Nat} {m : Mm} {x0 : Int} {x2 : Int} {Q : Mm → Int → Prop} (r_x0 : rgl x0) (r_x2 : rg x2) (H : P_92 d m x0 x2 Q) : CL (d + 1) 92 [lv x0, iv x2] m Q := by
  unfold P_92 at H
  refine CL_of rfl ?_
  show mm_W d mc_92 0 [some (lv x0), none, some (iv x2)] [] (fm m) (XL Q)
  refine w_st (fun _ => rfl) ?_
  refine f_long 27 rfl rfl ?_
  refine f_mull rfl ?_
  refine w_st (fun _ => rfl) ?_
  refine f_i2l rfl r_x2 ?_
  refine f_addl rfl ?_
  refine f_long 97 rfl rfl ?_
  refine f_subl rfl ?_
  refine f_long 1 rfl rfl ?_
  refine f_addl rfl ?_
  exact f_lret rfl (wrl_rg _) H
/-- TippedCrates$Tape.isBlank(I)Z -/
def P_93 (d : Nat) (m : Mm) (x0 : Int) (Q : Mm → Int → Prop) : Prop :=
  (∃ R_29 : Int → Prop,
    (∃ R_24 : Prop,
    ((x0 = 9 → R_24) ∧
    (¬ x0 = 9 → ((x0 = 10 → R_24) ∧
      (¬ x0 = 10 → ((x0 = 13 → R_24) ∧
        (¬ x0 = 13 → ((¬ x0 = 32 → R_29 0) ∧
          (x0 = 32 → R_24)))))))) ∧
    (R_24 →
    R_29 1)) ∧
    (∀ (s0_29 : Int) , rg s0_29 → R_29 s0_29 →
    ((s0_29 = 0 ∨ s0_29 = 1) ∧ Q m s0_29)))
set_option maxRecDepth 20000 in
theorem br_93 {d : Nat} {m : Mm} {x0 : Int} {Q : Mm → Int → Prop} (r_x0 : rg x0) (H : P_93 d m x0 Q) : CK (d + 1) 93 [iv x0] m Q := by
  unfold P_93 at H
  refine CK_of rfl ?_
  show mm_W d mc_93 0 [some (iv x0)] [] (fm m) (XK Q)
  refine w_st (fun _ => rfl) ?_
  refine f_int 9 rfl rfl ?_
  obtain ⟨R_29, H, HJ_29⟩ := H
  have tl_29 : ∀ (s0_29 : Int) , rg s0_29 → R_29 s0_29 → mm_W d mc_93 29 [some (iv x0)] [iv s0_29] (fm m) (XK Q) := by
    intro s0_29 r_s0_29 hR
    have H := HJ_29 s0_29 r_s0_29 hR
    exact f_zret rfl r_s0_29 H.1 H.2
  obtain ⟨R_24, H, HJ_24⟩ := H
  have tl_24 : R_24 → mm_W d mc_93 24 [some (iv x0)] [] (fm m) (XK Q) := by
    intro   hR
    have H := HJ_24   hR
    refine f_int 1 rfl rfl ?_
    refine w_st (fun _ => rfl) ?_
    exact tl_29 1 (by unfold rg; decide) H
  refine b_eq rfl r_x0 (by unfold rg; decide) (fun hq => ?_) (fun hq => ?_)
  · replace H := H.1 hq
    exact tl_24   H
  · replace H := H.2 hq
    refine w_st (fun _ => rfl) ?_
    refine f_int 10 rfl rfl ?_
    refine b_eq rfl r_x0 (by unfold rg; decide) (fun hq => ?_) (fun hq => ?_)
    · replace H := H.1 hq
      exact tl_24   H
    · replace H := H.2 hq
      refine w_st (fun _ => rfl) ?_
      refine f_int 13 rfl rfl ?_
      refine b_eq rfl r_x0 (by unfold rg; decide) (fun hq => ?_) (fun hq => ?_)
      · replace H := H.1 hq
        exact tl_24   H
      · replace H := H.2 hq
        refine w_st (fun _ => rfl) ?_
        refine f_int 32 rfl rfl ?_
        refine b_ne rfl r_x0 (by unfold rg; decide) (fun hq => ?_) (fun hq => ?_)
        · replace H := H.1 hq
          refine f_int 0 rfl rfl ?_
          exact tl_29 0 (by unfold rg; decide) H
        · replace H := H.2 hq
          exact tl_24   H
/-- TippedCrates$Tape.isLetter(I)Z -/
def P_94 (d : Nat) (m : Mm) (x0 : Int) (Q : Mm → Int → Prop) : Prop :=
  (∃ R_17 : Int → Prop,
    (∃ R_16 : Prop,
    ((x0 < 97 → R_16) ∧
    (¬ x0 < 97 → ((122 < x0 → R_16) ∧
      (¬ 122 < x0 → R_17 1)))) ∧
    (R_16 →
    R_17 0)) ∧
    (∀ (s0_17 : Int) , rg s0_17 → R_17 s0_17 →
    ((s0_17 = 0 ∨ s0_17 = 1) ∧ Q m s0_17)))
set_option maxRecDepth 20000 in
theorem br_94 {d : Nat} {m : Mm} {x0 : Int} {Q : Mm → Int → Prop} (r_x0 : rg x0) (H : P_94 d m x0 Q) : CK (d + 1) 94 [iv x0] m Q := by
  unfold P_94 at H
  refine CK_of rfl ?_
  show mm_W d mc_94 0 [some (iv x0)] [] (fm m) (XK Q)
  refine w_st (fun _ => rfl) ?_
  refine f_int 97 rfl rfl ?_
  obtain ⟨R_17, H, HJ_17⟩ := H
  have tl_17 : ∀ (s0_17 : Int) , rg s0_17 → R_17 s0_17 → mm_W d mc_94 17 [some (iv x0)] [iv s0_17] (fm m) (XK Q) := by
    intro s0_17 r_s0_17 hR
    have H := HJ_17 s0_17 r_s0_17 hR
    exact f_zret rfl r_s0_17 H.1 H.2
  obtain ⟨R_16, H, HJ_16⟩ := H
  have tl_16 : R_16 → mm_W d mc_94 16 [some (iv x0)] [] (fm m) (XK Q) := by
    intro   hR
    have H := HJ_16   hR
    refine f_int 0 rfl rfl ?_
    exact tl_17 0 (by unfold rg; decide) H
  refine b_lt rfl r_x0 (by unfold rg; decide) (fun hq => ?_) (fun hq => ?_)
  · replace H := H.1 hq
    exact tl_16   H
  · replace H := H.2 hq
    refine w_st (fun _ => rfl) ?_
    refine f_int 122 rfl rfl ?_
    refine b_gt rfl r_x0 (by unfold rg; decide) (fun hq => ?_) (fun hq => ?_)
    · replace H := H.1 hq
      exact tl_16   H
    · replace H := H.2 hq
      refine f_int 1 rfl rfl ?_
      refine w_st (fun _ => rfl) ?_
      exact tl_17 1 (by unfold rg; decide) H
/-- TippedCrates$Tape.isDigit(I)Z -/
def P_95 (d : Nat) (m : Mm) (x0 : Int) (Q : Mm → Int → Prop) : Prop :=
  (∃ R_17 : Int → Prop,
    (∃ R_16 : Prop,
    ((x0 < 48 → R_16) ∧
    (¬ x0 < 48 → ((57 < x0 → R_16) ∧
      (¬ 57 < x0 → R_17 1)))) ∧
    (R_16 →
    R_17 0)) ∧
    (∀ (s0_17 : Int) , rg s0_17 → R_17 s0_17 →
    ((s0_17 = 0 ∨ s0_17 = 1) ∧ Q m s0_17)))
set_option maxRecDepth 20000 in
theorem br_95 {d : Nat} {m : Mm} {x0 : Int} {Q : Mm → Int → Prop} (r_x0 : rg x0) (H : P_95 d m x0 Q) : CK (d + 1) 95 [iv x0] m Q := by
  unfold P_95 at H
  refine CK_of rfl ?_
  show mm_W d mc_95 0 [some (iv x0)] [] (fm m) (XK Q)
  refine w_st (fun _ => rfl) ?_
  refine f_int 48 rfl rfl ?_
  obtain ⟨R_17, H, HJ_17⟩ := H
  have tl_17 : ∀ (s0_17 : Int) , rg s0_17 → R_17 s0_17 → mm_W d mc_95 17 [some (iv x0)] [iv s0_17] (fm m) (XK Q) := by
    intro s0_17 r_s0_17 hR
    have H := HJ_17 s0_17 r_s0_17 hR
    exact f_zret rfl r_s0_17 H.1 H.2
  obtain ⟨R_16, H, HJ_16⟩ := H
  have tl_16 : R_16 → mm_W d mc_95 16 [some (iv x0)] [] (fm m) (XK Q) := by
    intro   hR
    have H := HJ_16   hR
    refine f_int 0 rfl rfl ?_
    exact tl_17 0 (by unfold rg; decide) H
  refine b_lt rfl r_x0 (by unfold rg; decide) (fun hq => ?_) (fun hq => ?_)
  · replace H := H.1 hq
    exact tl_16   H
  · replace H := H.2 hq
    refine w_st (fun _ => rfl) ?_
    refine f_int 57 rfl rfl ?_
    refine b_gt rfl r_x0 (by unfold rg; decide) (fun hq => ?_) (fun hq => ?_)
    · replace H := H.1 hq
      exact tl_16   H
    · replace H := H.2 hq
      refine f_int 1 rfl rfl ?_
      refine w_st (fun _ => rfl) ?_
      exact tl_17 1 (by unfold rg; decide) H
/-- TippedCrates$Turns.lookOf([III)I -/
def P_98 (d : Nat) (m : Mm) (b n : Nat) (x2 : Int) (x3 : Int) (Q : Mm → Int → Prop) : Prop :=
  (∃ (I_6 : Int → Int → Prop) (mu_6 : Int → Int → Nat), I_6 0 0 ∧
    ∀ (x4_6 x5_6 : Int) , rg x4_6 → rg x5_6 → I_6 x4_6 x5_6 →
    ((6 ≤ x5_6 → Q m x4_6) ∧
        (¬ 6 ≤ x5_6 → (((0 : Int) ≤ (wr ((wr (x3 * 6)) + x5_6)) ∧ (wr ((wr (x3 * 6)) + x5_6)) < 144) ∧ (((0 : Int) ≤ (wr ((wr (x2 * 6)) + (rd m 32 (Int.toNat (wr ((wr (x3 * 6)) + x5_6)))))) ∧ (wr ((wr (x2 * 6)) + (rd m 32 (Int.toNat (wr ((wr (x3 * 6)) + x5_6)))))) < n) ∧ (∀ z4_38 : Int, z4_38 = (wr ((wr (x4_6 * 10)) + (rd m b (Int.toNat (wr ((wr (x2 * 6)) + (rd m 32 (Int.toNat (wr ((wr (x3 * 6)) + x5_6)))))))))) → (∀ z5_40 : Int, z5_40 = wr (x5_6 + 1) → (I_6 z4_38 z5_40 ∧ mu_6 z4_38 z5_40 < mu_6 x4_6 x5_6))))))))
set_option maxRecDepth 20000 in
theorem br_98 {d : Nat} {m : Mm} {b n : Nat} {x2 : Int} {x3 : Int} {Q : Mm → Int → Prop} (h_b : isR n b) (r_x2 : rg x2) (r_x3 : rg x3) (H : P_98 d m b n x2 x3 Q) : CK (d + 1) 98 [.ref 31, .ref b, iv x2, iv x3] m Q := by
  unfold P_98 at H
  refine CK_of rfl ?_
  show mm_W d mc_98 0 [some (.ref 31), some (.ref b), some (iv x2), some (iv x3), none, none] [] (fm m) (XK Q)
  refine f_int 0 rfl rfl ?_
  refine w_st (ls2 := [some (.ref 31), some (.ref b), some (iv x2), some (iv x3), some (iv 0), none]) (fun _ => rfl) ?_
  refine f_int 0 rfl rfl ?_
  refine w_st (ls2 := [some (.ref 31), some (.ref b), some (iv x2), some (iv x3), some (iv 0), some (iv 0)]) (fun _ => rfl) ?_
  obtain ⟨I_6, mu_6, H0_6, HB_6⟩ := H
  have lp_6 : ∀ (z : Nat) (x4_6 x5_6 : Int) , mu_6 x4_6 x5_6 < z → rg x4_6 → rg x5_6 → I_6 x4_6 x5_6 → mm_W d mc_98 6 [some (.ref 31), some (.ref b), some (iv x2), some (iv x3), some (iv x4_6), some (iv x5_6)] [] (fm m) (XK Q) := by
    intro z
    induction z with
    | zero => intro x4_6 x5_6 hz; exact absurd hz (Nat.not_lt_zero _)
    | succ z ih_6 =>
      intro x4_6 x5_6 hz_6 r_x4_6 r_x5_6 hI
      have H := HB_6 x4_6 x5_6 r_x4_6 r_x5_6 hI
      refine w_st (fun _ => rfl) ?_
      refine f_int 6 rfl rfl ?_
      refine b_ge rfl r_x5_6 (by unfold rg; decide) (fun hq => ?_) (fun hq => ?_)
      · replace H := H.1 hq
        refine w_st (fun _ => rfl) ?_
        exact f_iret rfl r_x4_6 H
      · replace H := H.2 hq
        refine w_st (fun _ => rfl) ?_
        refine f_int 10 rfl rfl ?_
        refine f_mul rfl ?_
        refine w_st (fun _ => rfl) ?_
        refine w_st (fun _ => rfl) ?_
        refine f_int 6 rfl rfl ?_
        refine f_mul rfl ?_
        refine w_st (fun _ => rfl) ?_
        refine g_31_0 rfl ?_
        refine w_st (fun _ => rfl) ?_
        refine f_int 6 rfl rfl ?_
        refine f_mul rfl ?_
        refine w_st (fun _ => rfl) ?_
        refine f_add rfl ?_
        refine f_ld ir_32 rfl H.1 ?_
        replace H := H.2
        refine f_add rfl ?_
        refine f_ld h_b rfl H.1 ?_
        replace H := H.2
        refine f_add rfl ?_
        obtain ⟨z4_38, e_z4_38⟩ : ∃ q : Int, q = (wr ((wr (x4_6 * 10)) + (rd m b (Int.toNat (wr ((wr (x2 * 6)) + (rd m 32 (Int.toNat (wr ((wr (x3 * 6)) + x5_6)))))))))) := ⟨_, rfl⟩
        have r_z4_38 : rg z4_38 := by rw [e_z4_38]; exact (wr_rg _)
        replace H := H z4_38 e_z4_38
        refine f_nm e_z4_38 ?_
        refine w_st (ls2 := [some (.ref 31), some (.ref b), some (iv x2), some (iv x3), some (iv z4_38), some (iv x5_6)]) (fun _ => rfl) ?_
        obtain ⟨z5_40, e_z5_40⟩ : ∃ q : Int, q = wr (x5_6 + 1) := ⟨_, rfl⟩
        have r_z5_40 : rg z5_40 := by rw [e_z5_40]; exact wr_rg _
        replace H := H z5_40 e_z5_40
        refine f_iinc (ls2 := [some (.ref 31), some (.ref b), some (iv x2), some (iv x3), some (iv z4_38), some (iv z5_40)]) 1 rfl rfl rfl e_z5_40 rfl ?_
        refine w_st (fun _ => rfl) ?_
        exact ih_6 z4_38 z5_40 (Nat.lt_of_lt_of_le H.2 (Nat.le_of_lt_succ hz_6)) r_z4_38 r_z5_40 H.1
  exact lp_6 _ 0 0 (Nat.lt_succ_self _) (by unfold rg; decide) (by unfold rg; decide) H0_6
/-- TippedCrates$Turns.mirroredLook([II)I -/
def P_99 (d : Nat) (m : Mm) (b n : Nat) (x2 : Int) (Q : Mm → Int → Prop) : Prop :=
  (∃ (I_5 : Int → Int → Prop) (mu_5 : Int → Int → Nat), I_5 0 0 ∧
    ∀ (x3_5 x4_5 : Int) , rg x3_5 → rg x4_5 → I_5 x3_5 x4_5 →
    ((4 ≤ x4_5 → (((0 : Int) ≤ (wr ((wr (x2 * 6)) + 5)) ∧ (wr ((wr (x2 * 6)) + 5)) < n) ∧ (∀ z3_45 : Int, z3_45 = (wr ((wr (x3_5 * 10)) + (rd m b (Int.toNat (wr ((wr (x2 * 6)) + 5)))))) → (((0 : Int) ≤ (wr ((wr (x2 * 6)) + 4)) ∧ (wr ((wr (x2 * 6)) + 4)) < n) ∧ Q m (wr ((wr (z3_45 * 10)) + (rd m b (Int.toNat (wr ((wr (x2 * 6)) + 4)))))))))) ∧
        (¬ 4 ≤ x4_5 → (((0 : Int) ≤ (wr ((wr (x2 * 6)) + x4_5)) ∧ (wr ((wr (x2 * 6)) + x4_5)) < n) ∧ (∀ z3_25 : Int, z3_25 = (wr ((wr (x3_5 * 10)) + (rd m b (Int.toNat (wr ((wr (x2 * 6)) + x4_5)))))) → (∀ z4_26 : Int, z4_26 = wr (x4_5 + 1) → (I_5 z3_25 z4_26 ∧ mu_5 z3_25 z4_26 < mu_5 x3_5 x4_5)))))))
set_option maxRecDepth 20000 in
theorem br_99 {d : Nat} {m : Mm} {b n : Nat} {x2 : Int} {Q : Mm → Int → Prop} (h_b : isR n b) (r_x2 : rg x2) (H : P_99 d m b n x2 Q) : CK (d + 1) 99 [.ref 31, .ref b, iv x2] m Q := by
  unfold P_99 at H
  refine CK_of rfl ?_
  show mm_W d mc_99 0 [some (.ref 31), some (.ref b), some (iv x2), none, none] [] (fm m) (XK Q)
  refine f_int 0 rfl rfl ?_
  refine w_st (ls2 := [some (.ref 31), some (.ref b), some (iv x2), some (iv 0), none]) (fun _ => rfl) ?_
  refine f_int 0 rfl rfl ?_
  refine w_st (ls2 := [some (.ref 31), some (.ref b), some (iv x2), some (iv 0), some (iv 0)]) (fun _ => rfl) ?_
  obtain ⟨I_5, mu_5, H0_5, HB_5⟩ := H
  have lp_5 : ∀ (z : Nat) (x3_5 x4_5 : Int) , mu_5 x3_5 x4_5 < z → rg x3_5 → rg x4_5 → I_5 x3_5 x4_5 → mm_W d mc_99 5 [some (.ref 31), some (.ref b), some (iv x2), some (iv x3_5), some (iv x4_5)] [] (fm m) (XK Q) := by
    intro z
    induction z with
    | zero => intro x3_5 x4_5 hz; exact absurd hz (Nat.not_lt_zero _)
    | succ z ih_5 =>
      intro x3_5 x4_5 hz_5 r_x3_5 r_x4_5 hI
      have H := HB_5 x3_5 x4_5 r_x3_5 r_x4_5 hI
      refine w_st (fun _ => rfl) ?_
      refine f_int 4 rfl rfl ?_
      refine b_ge rfl r_x4_5 (by unfold rg; decide) (fun hq => ?_) (fun hq => ?_)
      · replace H := H.1 hq
        refine w_st (fun _ => rfl) ?_
        refine f_int 10 rfl rfl ?_
        refine f_mul rfl ?_
        refine w_st (fun _ => rfl) ?_
        refine w_st (fun _ => rfl) ?_
        refine f_int 6 rfl rfl ?_
        refine f_mul rfl ?_
        refine f_int 5 rfl rfl ?_
        refine f_add rfl ?_
        refine f_ld h_b rfl H.1 ?_
        replace H := H.2
        refine f_add rfl ?_
        obtain ⟨z3_45, e_z3_45⟩ : ∃ q : Int, q = (wr ((wr (x3_5 * 10)) + (rd m b (Int.toNat (wr ((wr (x2 * 6)) + 5)))))) := ⟨_, rfl⟩
        have r_z3_45 : rg z3_45 := by rw [e_z3_45]; exact (wr_rg _)
        replace H := H z3_45 e_z3_45
        refine f_nm e_z3_45 ?_
        refine w_st (ls2 := [some (.ref 31), some (.ref b), some (iv x2), some (iv z3_45), some (iv x4_5)]) (fun _ => rfl) ?_
        refine w_st (fun _ => rfl) ?_
        refine f_int 10 rfl rfl ?_
        refine f_mul rfl ?_
        refine w_st (fun _ => rfl) ?_
        refine w_st (fun _ => rfl) ?_
        refine f_int 6 rfl rfl ?_
        refine f_mul rfl ?_
        refine f_int 4 rfl rfl ?_
        refine f_add rfl ?_
        refine f_ld h_b rfl H.1 ?_
        replace H := H.2
        refine f_add rfl ?_
        exact f_iret rfl (wr_rg _) H
      · replace H := H.2 hq
        refine w_st (fun _ => rfl) ?_
        refine f_int 10 rfl rfl ?_
        refine f_mul rfl ?_
        refine w_st (fun _ => rfl) ?_
        refine w_st (fun _ => rfl) ?_
        refine f_int 6 rfl rfl ?_
        refine f_mul rfl ?_
        refine w_st (fun _ => rfl) ?_
        refine f_add rfl ?_
        refine f_ld h_b rfl H.1 ?_
        replace H := H.2
        refine f_add rfl ?_
        obtain ⟨z3_25, e_z3_25⟩ : ∃ q : Int, q = (wr ((wr (x3_5 * 10)) + (rd m b (Int.toNat (wr ((wr (x2 * 6)) + x4_5)))))) := ⟨_, rfl⟩
        have r_z3_25 : rg z3_25 := by rw [e_z3_25]; exact (wr_rg _)
        replace H := H z3_25 e_z3_25
        refine f_nm e_z3_25 ?_
        refine w_st (ls2 := [some (.ref 31), some (.ref b), some (iv x2), some (iv z3_25), some (iv x4_5)]) (fun _ => rfl) ?_
        obtain ⟨z4_26, e_z4_26⟩ : ∃ q : Int, q = wr (x4_5 + 1) := ⟨_, rfl⟩
        have r_z4_26 : rg z4_26 := by rw [e_z4_26]; exact wr_rg _
        replace H := H z4_26 e_z4_26
        refine f_iinc (ls2 := [some (.ref 31), some (.ref b), some (iv x2), some (iv z3_25), some (iv z4_26)]) 1 rfl rfl rfl e_z4_26 rfl ?_
        refine w_st (fun _ => rfl) ?_
        exact ih_5 z3_25 z4_26 (Nat.lt_of_lt_of_le H.2 (Nat.le_of_lt_succ hz_5)) r_z3_25 r_z4_26 H.1
  exact lp_5 _ 0 0 (Nat.lt_succ_self _) (by unfold rg; decide) (by unfold rg; decide) H0_5
/-- TippedCrates$Turns.lookRound([II)V -/
def P_100 (d : Nat) (m : Mm) (b n : Nat) (x2 : Int) (Q : Mm → Prop) : Prop :=
  (∃ (I_2 : Int → Mm → Prop) (mu_2 : Int → Mm → Nat), I_2 0 m ∧
    ∀ (x3_2 : Int) (m_2 : Mm), rg x3_2 → I_2 x3_2 m_2 →
    ((24 ≤ x3_2 → Q m_2) ∧
        (¬ 24 ≤ x3_2 → CK d 98 [.ref 31, .ref b, iv x2, iv x3_2] m_2 (fun m17 v17 =>
          (((0 : Int) ≤ x3_2 ∧ x3_2 < 24) ∧ (∀ m20 : Mm, m20 = wt m17 35 (Int.toNat x3_2) v17 → (∀ z3_21 : Int, z3_21 = wr (x3_2 + 1) → (I_2 z3_21 m20 ∧ mu_2 z3_21 m20 < mu_2 x3_2 m_2))))))))
set_option maxRecDepth 20000 in
theorem br_100 {d : Nat} {m : Mm} {b n : Nat} {x2 : Int} {Q : Mm → Prop} (h_b : isR n b) (r_x2 : rg x2) (H : P_100 d m b n x2 Q) : CV (d + 1) 100 [.ref 31, .ref b, iv x2] m Q := by
  unfold P_100 at H
  refine CV_of rfl ?_
  show mm_W d mc_100 0 [some (.ref 31), some (.ref b), some (iv x2), none] [] (fm m) (XV Q)
  refine f_int 0 rfl rfl ?_
  refine w_st (ls2 := [some (.ref 31), some (.ref b), some (iv x2), some (iv 0)]) (fun _ => rfl) ?_
  obtain ⟨I_2, mu_2, H0_2, HB_2⟩ := H
  have lp_2 : ∀ (z : Nat) (x3_2 : Int) (m_2 : Mm), mu_2 x3_2 m_2 < z → rg x3_2 → I_2 x3_2 m_2 → mm_W d mc_100 2 [some (.ref 31), some (.ref b), some (iv x2), some (iv x3_2)] [] (fm m_2) (XV Q) := by
    intro z
    induction z with
    | zero => intro x3_2 m_2 hz; exact absurd hz (Nat.not_lt_zero _)
    | succ z ih_2 =>
      intro x3_2 m_2 hz_2 r_x3_2 hI
      have H := HB_2 x3_2 m_2 r_x3_2 hI
      refine w_st (fun _ => rfl) ?_
      refine f_int 24 rfl rfl ?_
      refine b_ge rfl r_x3_2 (by unfold rg; decide) (fun hq => ?_) (fun hq => ?_)
      · replace H := H.1 hq
        exact f_ret rfl H
      · replace H := H.2 hq
        refine w_st (fun _ => rfl) ?_
        refine g_31_3 rfl ?_
        refine w_st (fun _ => rfl) ?_
        refine w_st (fun _ => rfl) ?_
        refine w_st (fun _ => rfl) ?_
        refine w_st (fun _ => rfl) ?_
        refine w_st (fun _ => rfl) ?_
        refine k_VK (as := [.ref b, iv x2, iv x3_2]) rfl mg_100 rfl rfl (by decide) rfl rfl H (fun m17 v17 r_v17 H => ?_)
        obtain ⟨m20, e_m20⟩ : ∃ q : Mm, q = wt m17 35 (Int.toNat x3_2) v17 := ⟨_, rfl⟩
        refine f_st ir_35 rfl H.1 e_m20 ?_
        replace H := H.2 m20 e_m20
        obtain ⟨z3_21, e_z3_21⟩ : ∃ q : Int, q = wr (x3_2 + 1) := ⟨_, rfl⟩
        have r_z3_21 : rg z3_21 := by rw [e_z3_21]; exact wr_rg _
        replace H := H z3_21 e_z3_21
        refine f_iinc (ls2 := [some (.ref 31), some (.ref b), some (iv x2), some (iv z3_21)]) 1 rfl rfl rfl e_z3_21 rfl ?_
        refine w_st (fun _ => rfl) ?_
        exact ih_2 z3_21 m20 (Nat.lt_of_lt_of_le H.2 (Nat.le_of_lt_succ hz_2)) r_z3_21 H.1
  exact lp_2 _ 0 m (Nat.lt_succ_self _) (by unfold rg; decide) H0_2
/-- TippedCrates$Turns.canLook(I)Z -/
def P_101 (d : Nat) (m : Mm) (x1 : Int) (Q : Mm → Int → Prop) : Prop :=
  CK d 103 [.ref 31, iv x1, iv 24] m (fun m4 v4 =>
    ((v4 = 0 ∨ v4 = 1) ∧ Q m4 v4))
set_option maxRecDepth 20000 in
theorem br_101 {d : Nat} {m : Mm} {x1 : Int} {Q : Mm → Int → Prop} (r_x1 : rg x1) (H : P_101 d m x1 Q) : CK (d + 1) 101 [.ref 31, iv x1] m Q := by
  unfold P_101 at H
  refine CK_of rfl ?_
  show mm_W d mc_101 0 [some (.ref 31), some (iv x1)] [] (fm m) (XK Q)
  refine w_st (fun _ => rfl) ?_
  refine w_st (fun _ => rfl) ?_
  refine f_int 24 rfl rfl ?_
  refine k_VK (as := [iv x1, iv 24]) rfl mg_101 rfl rfl (by decide) rfl rfl H (fun m4 v4 r_v4 H => ?_)
  exact f_zret rfl r_v4 H.1 H.2
/-- TippedCrates$Turns.countLooks()I -/
def P_102 (d : Nat) (m : Mm)  (Q : Mm → Int → Prop) : Prop :=
  (∃ (I_4 : Int → Int → Mm → Prop) (mu_4 : Int → Int → Mm → Nat), I_4 0 0 m ∧
    ∀ (x1_4 x2_4 : Int) (m_4 : Mm), rg x1_4 → rg x2_4 → I_4 x1_4 x2_4 m_4 →
    ((24 ≤ x2_4 → Q m_4 x1_4) ∧
        (¬ 24 ≤ x2_4 → (((0 : Int) ≤ x2_4 ∧ x2_4 < 24) ∧ CK d 103 [.ref 31, iv (rd m_4 35 (Int.toNat x2_4)), iv x2_4] m_4 (fun m18 v18 =>
          (∃ R_27 : Int → Prop,
          ((¬ v18 = 0 → R_27 x1_4) ∧
          (v18 = 0 → (∀ z1_24 : Int, z1_24 = wr (x1_4 + 1) → R_27 z1_24))) ∧
          (∀ (y1_27 : Int) , rg y1_27 → R_27 y1_27 →
          (∀ z2_27 : Int, z2_27 = wr (x2_4 + 1) → (I_4 y1_27 z2_27 m18 ∧ mu_4 y1_27 z2_27 m18 < mu_4 x1_4 x2_4 m_4)))))))))
set_option maxRecDepth 20000 in
theorem br_102 {d : Nat} {m : Mm}  {Q : Mm → Int → Prop}  (H : P_102 d m  Q) : CK (d + 1) 102 [.ref 31] m Q := by
  unfold P_102 at H
  refine CK_of rfl ?_
  show mm_W d mc_102 0 [some (.ref 31), none, none] [] (fm m) (XK Q)
  refine f_int 0 rfl rfl ?_
  refine w_st (ls2 := [some (.ref 31), some (iv 0), none]) (fun _ => rfl) ?_
  refine f_int 0 rfl rfl ?_
  refine w_st (ls2 := [some (.ref 31), some (iv 0), some (iv 0)]) (fun _ => rfl) ?_
  obtain ⟨I_4, mu_4, H0_4, HB_4⟩ := H
  have lp_4 : ∀ (z : Nat) (x1_4 x2_4 : Int) (m_4 : Mm), mu_4 x1_4 x2_4 m_4 < z → rg x1_4 → rg x2_4 → I_4 x1_4 x2_4 m_4 → mm_W d mc_102 4 [some (.ref 31), some (iv x1_4), some (iv x2_4)] [] (fm m_4) (XK Q) := by
    intro z
    induction z with
    | zero => intro x1_4 x2_4 m_4 hz; exact absurd hz (Nat.not_lt_zero _)
    | succ z ih_4 =>
      intro x1_4 x2_4 m_4 hz_4 r_x1_4 r_x2_4 hI
      have H := HB_4 x1_4 x2_4 m_4 r_x1_4 r_x2_4 hI
      refine w_st (fun _ => rfl) ?_
      refine f_int 24 rfl rfl ?_
      refine b_ge rfl r_x2_4 (by unfold rg; decide) (fun hq => ?_) (fun hq => ?_)
      · replace H := H.1 hq
        refine w_st (fun _ => rfl) ?_
        exact f_iret rfl r_x1_4 H
      · replace H := H.2 hq
        refine w_st (fun _ => rfl) ?_
        refine w_st (fun _ => rfl) ?_
        refine g_31_3 rfl ?_
        refine w_st (fun _ => rfl) ?_
        refine f_ld ir_35 rfl H.1 ?_
        replace H := H.2
        refine w_st (fun _ => rfl) ?_
        refine k_VK (as := [iv (rd m_4 35 (Int.toNat x2_4)), iv x2_4]) rfl mg_102 rfl rfl (by decide) rfl rfl H (fun m18 v18 r_v18 H => ?_)
        obtain ⟨R_27, H, HJ_27⟩ := H
        have tl_27 : ∀ (y1_27 : Int) , rg y1_27 → R_27 y1_27 → mm_W d mc_102 27 [some (.ref 31), some (iv y1_27), some (iv x2_4)] [] (fm m18) (XK Q) := by
          intro y1_27 r_y1_27 hR
          have H := HJ_27 y1_27 r_y1_27 hR
          obtain ⟨z2_27, e_z2_27⟩ : ∃ q : Int, q = wr (x2_4 + 1) := ⟨_, rfl⟩
          have r_z2_27 : rg z2_27 := by rw [e_z2_27]; exact wr_rg _
          replace H := H z2_27 e_z2_27
          refine f_iinc (ls2 := [some (.ref 31), some (iv y1_27), some (iv z2_27)]) 1 rfl rfl rfl e_z2_27 rfl ?_
          refine w_st (fun _ => rfl) ?_
          exact ih_4 y1_27 z2_27 m18 (Nat.lt_of_lt_of_le H.2 (Nat.le_of_lt_succ hz_4)) r_y1_27 r_z2_27 H.1
        refine z_ne rfl r_v18 (fun hq => ?_) (fun hq => ?_)
        · replace H := H.1 hq
          exact tl_27 x1_4 r_x1_4 H
        · replace H := H.2 hq
          obtain ⟨z1_24, e_z1_24⟩ : ∃ q : Int, q = wr (x1_4 + 1) := ⟨_, rfl⟩
          have r_z1_24 : rg z1_24 := by rw [e_z1_24]; exact wr_rg _
          replace H := H z1_24 e_z1_24
          refine f_iinc (ls2 := [some (.ref 31), some (iv z1_24), some (iv x2_4)]) 1 rfl rfl rfl e_z1_24 rfl ?_
          exact tl_27 z1_24 r_z1_24 H
  exact lp_4 _ 0 0 m (Nat.lt_succ_self _) (by unfold rg; decide) (by unfold rg; decide) H0_4
/-- TippedCrates$Turns.seenBefore(II)Z -/
def P_103 (d : Nat) (m : Mm) (x1 : Int) (x2 : Int) (Q : Mm → Int → Prop) : Prop :=
  (∃ (I_2 : Int → Prop) (mu_2 : Int → Nat), I_2 0 ∧
    ∀ (x3_2 : Int) , rg x3_2 → I_2 x3_2 →
    ((x2 ≤ x3_2 → Q m 0) ∧
        (¬ x2 ≤ x3_2 → (((0 : Int) ≤ x3_2 ∧ x3_2 < 24) ∧ ((¬ (rd m 35 (Int.toNat x3_2)) = x1 → (∀ z3_19 : Int, z3_19 = wr (x3_2 + 1) → (I_2 z3_19 ∧ mu_2 z3_19 < mu_2 x3_2))) ∧
          ((rd m 35 (Int.toNat x3_2)) = x1 → Q m 1))))))
set_option maxRecDepth 20000 in
theorem br_103 {d : Nat} {m : Mm} {x1 : Int} {x2 : Int} {Q : Mm → Int → Prop} (r_x1 : rg x1) (r_x2 : rg x2) (H : P_103 d m x1 x2 Q) : CK (d + 1) 103 [.ref 31, iv x1, iv x2] m Q := by
  unfold P_103 at H
  refine CK_of rfl ?_
  show mm_W d mc_103 0 [some (.ref 31), some (iv x1), some (iv x2), none] [] (fm m) (XK Q)
  refine f_int 0 rfl rfl ?_
  refine w_st (ls2 := [some (.ref 31), some (iv x1), some (iv x2), some (iv 0)]) (fun _ => rfl) ?_
  obtain ⟨I_2, mu_2, H0_2, HB_2⟩ := H
  have lp_2 : ∀ (z : Nat) (x3_2 : Int) , mu_2 x3_2 < z → rg x3_2 → I_2 x3_2 → mm_W d mc_103 2 [some (.ref 31), some (iv x1), some (iv x2), some (iv x3_2)] [] (fm m) (XK Q) := by
    intro z
    induction z with
    | zero => intro x3_2 hz; exact absurd hz (Nat.not_lt_zero _)
    | succ z ih_2 =>
      intro x3_2 hz_2 r_x3_2 hI
      have H := HB_2 x3_2 r_x3_2 hI
      refine w_st (fun _ => rfl) ?_
      refine w_st (fun _ => rfl) ?_
      refine b_ge rfl r_x3_2 r_x2 (fun hq => ?_) (fun hq => ?_)
      · replace H := H.1 hq
        refine f_int 0 rfl rfl ?_
        exact f_zret rfl (by unfold rg; decide) (Or.inl rfl) H
      · replace H := H.2 hq
        refine w_st (fun _ => rfl) ?_
        refine g_31_3 rfl ?_
        refine w_st (fun _ => rfl) ?_
        refine f_ld ir_35 rfl H.1 ?_
        replace H := H.2
        refine w_st (fun _ => rfl) ?_
        refine b_ne rfl (rd_rg _ _ _) r_x1 (fun hq => ?_) (fun hq => ?_)
        · replace H := H.1 hq
          obtain ⟨z3_19, e_z3_19⟩ : ∃ q : Int, q = wr (x3_2 + 1) := ⟨_, rfl⟩
          have r_z3_19 : rg z3_19 := by rw [e_z3_19]; exact wr_rg _
          replace H := H z3_19 e_z3_19
          refine f_iinc (ls2 := [some (.ref 31), some (iv x1), some (iv x2), some (iv z3_19)]) 1 rfl rfl rfl e_z3_19 rfl ?_
          refine w_st (fun _ => rfl) ?_
          exact ih_2 z3_19 (Nat.lt_of_lt_of_le H.2 (Nat.le_of_lt_succ hz_2)) r_z3_19 H.1
        · replace H := H.2 hq
          refine f_int 1 rfl rfl ?_
          exact f_zret rfl (by unfold rg; decide) (Or.inr rfl) H
  exact lp_2 _ 0 (Nat.lt_succ_self _) (by unfold rg; decide) H0_2
/-- TippedCrates$Walks.walkAll()V -/
def P_105 (d : Nat) (m : Mm)  (Q : Mm → Prop) : Prop :=
  CV d 299 [.ref 41, iv (-1)] m (fun m5 =>
    (∀ m10 : Mm, m10 = wt m5 39 0 0 → CV d 106 [.ref 39, iv (rd m10 36 1), iv (-1), iv (-1)] m10 (fun m23 =>
    (∃ (I_28 : Int → Mm → Prop) (mu_28 : Int → Mm → Nat), I_28 0 m23 ∧
    ∀ (x1_28 : Int) (m_28 : Mm), rg x1_28 → I_28 x1_28 m_28 →
    (∃ R_104 : Prop,
        (((rd m_28 39 0) ≤ x1_28 → R_104) ∧
        (¬ (rd m_28 39 0) ≤ x1_28 → ((600 ≤ x1_28 → R_104) ∧
          (¬ 600 ≤ x1_28 → (∃ (I_45 : Int → Mm → Prop) (mu_45 : Int → Mm → Nat), I_45 0 m_28 ∧
            ∀ (x2_45 : Int) (m_45 : Mm), rg x2_45 → I_45 x2_45 m_45 →
            ((4 ≤ x2_45 → (∀ z1_98 : Int, z1_98 = wr (x1_28 + 1) → (I_28 z1_98 m_45 ∧ mu_28 z1_98 m_45 < mu_28 x1_28 m_28))) ∧
                (¬ 4 ≤ x2_45 → (((0 : Int) ≤ x1_28 ∧ x1_28 < 600) ∧ CK d 71 [.ref 36, iv (rd m_45 40 (Int.toNat x1_28)), iv x2_45] m_45 (fun m61 v61 =>
                  (∃ R_92 : Mm → Prop,
                  ((v61 = (-1) → R_92 m61) ∧
                  (¬ v61 = (-1) → (((0 : Int) ≤ v61 ∧ v61 < 600) ∧ ((¬ (rd m61 41 (Int.toNat v61)) = (-1) → R_92 m61) ∧
                    ((rd m61 41 (Int.toNat v61)) = (-1) → (((0 : Int) ≤ x1_28 ∧ x1_28 < 600) ∧ CV d 106 [.ref 39, iv v61, iv (rd m61 40 (Int.toNat x1_28)), iv x2_45] m61 (fun m89 =>
                      R_92 m89))))))) ∧
                  (∀ (m_92 : Mm), R_92 m_92 →
                  (∀ z2_92 : Int, z2_92 = wr (x2_45 + 1) → (I_45 z2_92 m_92 ∧ mu_45 z2_92 m_92 < mu_45 x2_45 m_45))))))))))))) ∧
        (R_104 →
        Q m_28))))))
set_option maxRecDepth 20000 in
theorem br_105 {d : Nat} {m : Mm}  {Q : Mm → Prop}  (H : P_105 d m  Q) : CV (d + 1) 105 [.ref 39] m Q := by
  unfold P_105 at H
  refine CV_of rfl ?_
  show mm_W d mc_105 0 [some (.ref 39), none, none, none] [] (fm m) (XV Q)
  refine w_st (fun _ => rfl) ?_
  refine g_39_4 rfl ?_
  refine f_int (-1) rfl rfl ?_
  refine k_SV (as := [.ref 41, iv (-1)]) rfl mg_105 rfl rfl rfl H (fun m5 H => ?_)
  refine w_st (fun _ => rfl) ?_
  refine f_int 0 rfl rfl ?_
  obtain ⟨m10, e_m10⟩ : ∃ q : Mm, q = wt m5 39 0 0 := ⟨_, rfl⟩
  replace H := H m10 e_m10
  refine p_39_0 rfl e_m10 ?_
  refine w_st (fun _ => rfl) ?_
  refine w_st (fun _ => rfl) ?_
  refine g_39_1 rfl ?_
  refine g_36_1 rfl ?_
  refine f_int (-1) rfl rfl ?_
  refine f_int (-1) rfl rfl ?_
  refine k_VV (as := [iv (rd m10 36 1), iv (-1), iv (-1)]) rfl mg_105 rfl rfl (by decide) rfl rfl H (fun m23 H => ?_)
  refine f_int 0 rfl rfl ?_
  refine w_st (ls2 := [some (.ref 39), some (iv 0), none, none]) (fun _ => rfl) ?_
  obtain ⟨I_28, mu_28, H0_28, HB_28⟩ := H
  have lp_28 : ∀ (z : Nat) (x1_28 : Int) (m_28 : Mm) (g2_28 g3_28 : Option Value), mu_28 x1_28 m_28 < z → rg x1_28 → I_28 x1_28 m_28 → mm_W d mc_105 28 [some (.ref 39), some (iv x1_28), g2_28, g3_28] [] (fm m_28) (XV Q) := by
    intro z
    induction z with
    | zero => intro x1_28 m_28 g2_28 g3_28 hz; exact absurd hz (Nat.not_lt_zero _)
    | succ z ih_28 =>
      intro x1_28 m_28 g2_28 g3_28 hz_28 r_x1_28 hI
      have H := HB_28 x1_28 m_28 r_x1_28 hI
      refine w_st (fun _ => rfl) ?_
      refine w_st (fun _ => rfl) ?_
      refine g_39_0 rfl ?_
      obtain ⟨R_104, H, HJ_104⟩ := H
      have tl_104 : R_104 → mm_W d mc_105 104 [some (.ref 39), some (iv x1_28), g2_28, g3_28] [] (fm m_28) (XV Q) := by
        intro   hR
        have H := HJ_104   hR
        exact f_ret rfl H
      refine b_ge rfl r_x1_28 (rd_rg _ _ _) (fun hq => ?_) (fun hq => ?_)
      · replace H := H.1 hq
        exact tl_104   H
      · replace H := H.2 hq
        refine w_st (fun _ => rfl) ?_
        refine f_int 600 rfl rfl ?_
        refine b_ge rfl r_x1_28 (by unfold rg; decide) (fun hq => ?_) (fun hq => ?_)
        · replace H := H.1 hq
          exact tl_104   H
        · replace H := H.2 hq
          refine f_int 0 rfl rfl ?_
          refine w_st (ls2 := [some (.ref 39), some (iv x1_28), some (iv 0), g3_28]) (fun _ => rfl) ?_
          obtain ⟨I_45, mu_45, H0_45, HB_45⟩ := H
          have lp_45 : ∀ (z : Nat) (x2_45 : Int) (m_45 : Mm) (g3_45 : Option Value), mu_45 x2_45 m_45 < z → rg x2_45 → I_45 x2_45 m_45 → mm_W d mc_105 45 [some (.ref 39), some (iv x1_28), some (iv x2_45), g3_45] [] (fm m_45) (XV Q) := by
            intro z
            induction z with
            | zero => intro x2_45 m_45 g3_45 hz; exact absurd hz (Nat.not_lt_zero _)
            | succ z ih_45 =>
              intro x2_45 m_45 g3_45 hz_45 r_x2_45 hI
              have H := HB_45 x2_45 m_45 r_x2_45 hI
              refine w_st (fun _ => rfl) ?_
              refine f_int 4 rfl rfl ?_
              refine b_ge rfl r_x2_45 (by unfold rg; decide) (fun hq => ?_) (fun hq => ?_)
              · replace H := H.1 hq
                obtain ⟨z1_98, e_z1_98⟩ : ∃ q : Int, q = wr (x1_28 + 1) := ⟨_, rfl⟩
                have r_z1_98 : rg z1_98 := by rw [e_z1_98]; exact wr_rg _
                replace H := H z1_98 e_z1_98
                refine f_iinc (ls2 := [some (.ref 39), some (iv z1_98), some (iv x2_45), g3_45]) 1 rfl rfl rfl e_z1_98 rfl ?_
                refine w_st (fun _ => rfl) ?_
                exact ih_28 z1_98 m_45 (some (iv x2_45)) g3_45 (Nat.lt_of_lt_of_le H.2 (Nat.le_of_lt_succ hz_28)) r_z1_98 H.1
              · replace H := H.2 hq
                refine w_st (fun _ => rfl) ?_
                refine g_39_1 rfl ?_
                refine w_st (fun _ => rfl) ?_
                refine g_39_3 rfl ?_
                refine w_st (fun _ => rfl) ?_
                refine f_ld ir_40 rfl H.1 ?_
                replace H := H.2
                refine w_st (fun _ => rfl) ?_
                refine k_VK (as := [iv (rd m_45 40 (Int.toNat x1_28)), iv x2_45]) rfl mg_105 rfl rfl (by decide) rfl rfl H (fun m61 v61 r_v61 H => ?_)
                refine w_st (ls2 := [some (.ref 39), some (iv x1_28), some (iv x2_45), some (iv v61)]) (fun _ => rfl) ?_
                refine w_st (fun _ => rfl) ?_
                refine f_int (-1) rfl rfl ?_
                obtain ⟨R_92, H, HJ_92⟩ := H
                have tl_92 : ∀ (m_92 : Mm), R_92 m_92 → mm_W d mc_105 92 [some (.ref 39), some (iv x1_28), some (iv x2_45), some (iv v61)] [] (fm m_92) (XV Q) := by
                  intro m_92  hR
                  have H := HJ_92 m_92  hR
                  obtain ⟨z2_92, e_z2_92⟩ : ∃ q : Int, q = wr (x2_45 + 1) := ⟨_, rfl⟩
                  have r_z2_92 : rg z2_92 := by rw [e_z2_92]; exact wr_rg _
                  replace H := H z2_92 e_z2_92
                  refine f_iinc (ls2 := [some (.ref 39), some (iv x1_28), some (iv z2_92), some (iv v61)]) 1 rfl rfl rfl e_z2_92 rfl ?_
                  refine w_st (fun _ => rfl) ?_
                  exact ih_45 z2_92 m_92 (some (iv v61)) (Nat.lt_of_lt_of_le H.2 (Nat.le_of_lt_succ hz_45)) r_z2_92 H.1
                refine b_eq rfl r_v61 (by unfold rg; decide) (fun hq => ?_) (fun hq => ?_)
                · replace H := H.1 hq
                  exact tl_92 m61  H
                · replace H := H.2 hq
                  refine w_st (fun _ => rfl) ?_
                  refine g_39_4 rfl ?_
                  refine w_st (fun _ => rfl) ?_
                  refine f_ld ir_41 rfl H.1 ?_
                  replace H := H.2
                  refine f_int (-1) rfl rfl ?_
                  refine b_ne rfl (rd_rg _ _ _) (by unfold rg; decide) (fun hq => ?_) (fun hq => ?_)
                  · replace H := H.1 hq
                    exact tl_92 m61  H
                  · replace H := H.2 hq
                    refine w_st (fun _ => rfl) ?_
                    refine w_st (fun _ => rfl) ?_
                    refine w_st (fun _ => rfl) ?_
                    refine g_39_3 rfl ?_
                    refine w_st (fun _ => rfl) ?_
                    refine f_ld ir_40 rfl H.1 ?_
                    replace H := H.2
                    refine w_st (fun _ => rfl) ?_
                    refine k_VV (as := [iv v61, iv (rd m61 40 (Int.toNat x1_28)), iv x2_45]) rfl mg_105 rfl rfl (by decide) rfl rfl H (fun m89 H => ?_)
                    exact tl_92 m89  H
          exact lp_45 _ 0 m_28 g3_28 (Nat.lt_succ_self _) (by unfold rg; decide) H0_45
  exact lp_28 _ 0 m23 none none (Nat.lt_succ_self _) (by unfold rg; decide) H0_28
/-- TippedCrates$Walks.comeTo(III)V -/
def P_106 (d : Nat) (m : Mm) (x1 : Int) (x2 : Int) (x3 : Int) (Q : Mm → Prop) : Prop :=
  (((rd m 39 0) < 600 → (((0 : Int) ≤ (rd m 39 0) ∧ (rd m 39 0) < 600) ∧ (∀ m20 : Mm, m20 = wt m 40 (Int.toNat (rd m 39 0)) x1 → (∀ m28 : Mm, m28 = wt m20 39 0 (wr ((rd m20 39 0) + 1)) → (∃ R_53 : Int → Prop,
      ((¬ x2 = (-1) → (((0 : Int) ≤ x2 ∧ x2 < 600) ∧ R_53 (wr ((rd m28 41 (Int.toNat x2)) + 1)))) ∧
      (x2 = (-1) → R_53 0)) ∧
      (∀ (s2_53 : Int) , rg s2_53 → R_53 s2_53 →
      (((0 : Int) ≤ x1 ∧ x1 < 600) ∧ (∀ m53 : Mm, m53 = wt m28 41 (Int.toNat x1) s2_53 → (((0 : Int) ≤ x1 ∧ x1 < 600) ∧ (∀ m60 : Mm, m60 = wt m53 42 (Int.toNat x1) x2 → (((0 : Int) ≤ x1 ∧ x1 < 600) ∧ (∀ m67 : Mm, m67 = wt m60 43 (Int.toNat x1) x3 → Q m67)))))))))))) ∧
    (¬ (rd m 39 0) < 600 → Q m))
set_option maxRecDepth 20000 in
theorem br_106 {d : Nat} {m : Mm} {x1 : Int} {x2 : Int} {x3 : Int} {Q : Mm → Prop} (r_x1 : rg x1) (r_x2 : rg x2) (r_x3 : rg x3) (H : P_106 d m x1 x2 x3 Q) : CV (d + 1) 106 [.ref 39, iv x1, iv x2, iv x3] m Q := by
  unfold P_106 at H
  refine CV_of rfl ?_
  show mm_W d mc_106 0 [some (.ref 39), some (iv x1), some (iv x2), some (iv x3)] [] (fm m) (XV Q)
  refine w_st (fun _ => rfl) ?_
  refine g_39_0 rfl ?_
  refine f_int 600 rfl rfl ?_
  refine b_lt rfl (rd_rg _ _ _) (by unfold rg; decide) (fun hq => ?_) (fun hq => ?_)
  · replace H := H.1 hq
    refine w_st (fun _ => rfl) ?_
    refine g_39_3 rfl ?_
    refine w_st (fun _ => rfl) ?_
    refine g_39_0 rfl ?_
    refine w_st (fun _ => rfl) ?_
    obtain ⟨m20, e_m20⟩ : ∃ q : Mm, q = wt m 40 (Int.toNat (rd m 39 0)) x1 := ⟨_, rfl⟩
    refine f_st ir_40 rfl H.1 e_m20 ?_
    replace H := H.2 m20 e_m20
    refine w_st (fun _ => rfl) ?_
    refine w_st (fun _ => rfl) ?_
    refine g_39_0 rfl ?_
    refine f_int 1 rfl rfl ?_
    refine f_add rfl ?_
    obtain ⟨m28, e_m28⟩ : ∃ q : Mm, q = wt m20 39 0 (wr ((rd m20 39 0) + 1)) := ⟨_, rfl⟩
    replace H := H m28 e_m28
    refine p_39_0 rfl e_m28 ?_
    refine w_st (fun _ => rfl) ?_
    refine g_39_4 rfl ?_
    refine w_st (fun _ => rfl) ?_
    refine w_st (fun _ => rfl) ?_
    refine f_int (-1) rfl rfl ?_
    obtain ⟨R_53, H, HJ_53⟩ := H
    have tl_53 : ∀ (s2_53 : Int) , rg s2_53 → R_53 s2_53 → mm_W d mc_106 53 [some (.ref 39), some (iv x1), some (iv x2), some (iv x3)] [iv s2_53, iv x1, .ref 41] (fm m28) (XV Q) := by
      intro s2_53 r_s2_53 hR
      have H := HJ_53 s2_53 r_s2_53 hR
      obtain ⟨m53, e_m53⟩ : ∃ q : Mm, q = wt m28 41 (Int.toNat x1) s2_53 := ⟨_, rfl⟩
      refine f_st ir_41 rfl H.1 e_m53 ?_
      replace H := H.2 m53 e_m53
      refine w_st (fun _ => rfl) ?_
      refine g_39_5 rfl ?_
      refine w_st (fun _ => rfl) ?_
      refine w_st (fun _ => rfl) ?_
      obtain ⟨m60, e_m60⟩ : ∃ q : Mm, q = wt m53 42 (Int.toNat x1) x2 := ⟨_, rfl⟩
      refine f_st ir_42 rfl H.1 e_m60 ?_
      replace H := H.2 m60 e_m60
      refine w_st (fun _ => rfl) ?_
      refine g_39_6 rfl ?_
      refine w_st (fun _ => rfl) ?_
      refine w_st (fun _ => rfl) ?_
      obtain ⟨m67, e_m67⟩ : ∃ q : Mm, q = wt m60 43 (Int.toNat x1) x3 := ⟨_, rfl⟩
      refine f_st ir_43 rfl H.1 e_m67 ?_
      replace H := H.2 m67 e_m67
      exact f_ret rfl H
    refine b_ne rfl r_x2 (by unfold rg; decide) (fun hq => ?_) (fun hq => ?_)
    · replace H := H.1 hq
      refine w_st (fun _ => rfl) ?_
      refine g_39_4 rfl ?_
      refine w_st (fun _ => rfl) ?_
      refine f_ld ir_41 rfl H.1 ?_
      replace H := H.2
      refine f_int 1 rfl rfl ?_
      refine f_add rfl ?_
      exact tl_53 (wr ((rd m28 41 (Int.toNat x2)) + 1)) (wr_rg _) H
    · replace H := H.2 hq
      refine f_int 0 rfl rfl ?_
      refine w_st (fun _ => rfl) ?_
      exact tl_53 0 (by unfold rg; decide) H
  · replace H := H.2 hq
    exact f_ret rfl H
/-- TippedCrates$Walks.firstReading(II)I -/
def P_107 (d : Nat) (m : Mm) (x1 : Int) (x2 : Int) (Q : Mm → Int → Prop) : Prop :=
  (∃ (I_2 : Int → Mm → Prop) (mu_2 : Int → Mm → Nat), I_2 0 m ∧
    ∀ (x3_2 : Int) (m_2 : Mm), rg x3_2 → I_2 x3_2 m_2 →
    (((rd m_2 39 0) ≤ x3_2 → Q m_2 (-1)) ∧
        (¬ (rd m_2 39 0) ≤ x3_2 → (((0 : Int) ≤ x3_2 ∧ x3_2 < 600) ∧ (∃ R_47 : Mm → Prop,
          ((¬ (dvI (rd m_2 40 (Int.toNat x3_2)) 24) = x1 → R_47 m_2) ∧
          ((dvI (rd m_2 40 (Int.toNat x3_2)) 24) = x1 → (((0 : Int) ≤ x3_2 ∧ x3_2 < 600) ∧ CK d 72 [.ref 36, iv (rd m_2 40 (Int.toNat x3_2))] m_2 (fun m33 v33 =>
            ((¬ v33 = x2 → R_47 m33) ∧
            (v33 = x2 → (((0 : Int) ≤ x3_2 ∧ x3_2 < 600) ∧ Q m33 (rd m33 40 (Int.toNat x3_2))))))))) ∧
          (∀ (m_47 : Mm), R_47 m_47 →
          (∀ z3_47 : Int, z3_47 = wr (x3_2 + 1) → (I_2 z3_47 m_47 ∧ mu_2 z3_47 m_47 < mu_2 x3_2 m_2))))))))
set_option maxRecDepth 20000 in
theorem br_107 {d : Nat} {m : Mm} {x1 : Int} {x2 : Int} {Q : Mm → Int → Prop} (r_x1 : rg x1) (r_x2 : rg x2) (H : P_107 d m x1 x2 Q) : CK (d + 1) 107 [.ref 39, iv x1, iv x2] m Q := by
  unfold P_107 at H
  refine CK_of rfl ?_
  show mm_W d mc_107 0 [some (.ref 39), some (iv x1), some (iv x2), none] [] (fm m) (XK Q)
  refine f_int 0 rfl rfl ?_
  refine w_st (ls2 := [some (.ref 39), some (iv x1), some (iv x2), some (iv 0)]) (fun _ => rfl) ?_
  obtain ⟨I_2, mu_2, H0_2, HB_2⟩ := H
  have lp_2 : ∀ (z : Nat) (x3_2 : Int) (m_2 : Mm), mu_2 x3_2 m_2 < z → rg x3_2 → I_2 x3_2 m_2 → mm_W d mc_107 2 [some (.ref 39), some (iv x1), some (iv x2), some (iv x3_2)] [] (fm m_2) (XK Q) := by
    intro z
    induction z with
    | zero => intro x3_2 m_2 hz; exact absurd hz (Nat.not_lt_zero _)
    | succ z ih_2 =>
      intro x3_2 m_2 hz_2 r_x3_2 hI
      have H := HB_2 x3_2 m_2 r_x3_2 hI
      refine w_st (fun _ => rfl) ?_
      refine w_st (fun _ => rfl) ?_
      refine g_39_0 rfl ?_
      refine b_ge rfl r_x3_2 (rd_rg _ _ _) (fun hq => ?_) (fun hq => ?_)
      · replace H := H.1 hq
        refine f_int (-1) rfl rfl ?_
        exact f_iret rfl (by unfold rg; decide) H
      · replace H := H.2 hq
        refine w_st (fun _ => rfl) ?_
        refine g_39_3 rfl ?_
        refine w_st (fun _ => rfl) ?_
        refine f_ld ir_40 rfl H.1 ?_
        replace H := H.2
        refine f_int 24 rfl rfl ?_
        refine f_dvI rfl (by unfold rg; decide) (by decide) ?_
        refine w_st (fun _ => rfl) ?_
        obtain ⟨R_47, H, HJ_47⟩ := H
        have tl_47 : ∀ (m_47 : Mm), R_47 m_47 → mm_W d mc_107 47 [some (.ref 39), some (iv x1), some (iv x2), some (iv x3_2)] [] (fm m_47) (XK Q) := by
          intro m_47  hR
          have H := HJ_47 m_47  hR
          obtain ⟨z3_47, e_z3_47⟩ : ∃ q : Int, q = wr (x3_2 + 1) := ⟨_, rfl⟩
          have r_z3_47 : rg z3_47 := by rw [e_z3_47]; exact wr_rg _
          replace H := H z3_47 e_z3_47
          refine f_iinc (ls2 := [some (.ref 39), some (iv x1), some (iv x2), some (iv z3_47)]) 1 rfl rfl rfl e_z3_47 rfl ?_
          refine w_st (fun _ => rfl) ?_
          exact ih_2 z3_47 m_47 (Nat.lt_of_lt_of_le H.2 (Nat.le_of_lt_succ hz_2)) r_z3_47 H.1
        refine b_ne rfl (io_rg _ _ _) r_x1 (fun hq => ?_) (fun hq => ?_)
        · replace H := H.1 hq
          exact tl_47 m_2  H
        · replace H := H.2 hq
          refine w_st (fun _ => rfl) ?_
          refine g_39_1 rfl ?_
          refine w_st (fun _ => rfl) ?_
          refine g_39_3 rfl ?_
          refine w_st (fun _ => rfl) ?_
          refine f_ld ir_40 rfl H.1 ?_
          replace H := H.2
          refine k_VK (as := [iv (rd m_2 40 (Int.toNat x3_2))]) rfl mg_107 rfl rfl (by decide) rfl rfl H (fun m33 v33 r_v33 H => ?_)
          refine w_st (fun _ => rfl) ?_
          refine b_ne rfl r_v33 r_x2 (fun hq => ?_) (fun hq => ?_)
          · replace H := H.1 hq
            exact tl_47 m33  H
          · replace H := H.2 hq
            refine w_st (fun _ => rfl) ?_
            refine g_39_3 rfl ?_
            refine w_st (fun _ => rfl) ?_
            refine f_ld ir_40 rfl H.1 ?_
            replace H := H.2
            exact f_iret rfl (rd_rg _ _ _) H
  exact lp_2 _ 0 m (Nat.lt_succ_self _) (by unfold rg; decide) H0_2
/-- TippedCrates$Walks.wayTo(II)I -/
def P_108 (d : Nat) (m : Mm) (x1 : Int) (x2 : Int) (Q : Mm → Int → Prop) : Prop :=
  ((¬ x1 = (-1) → ((¬ x2 = (-1) → (∃ R_34 : Prop,
        ((x2 < 0 → R_34) ∧
        (¬ x2 < 0 → (((0 : Int) ≤ x1 ∧ x1 < 600) ∧ ((x2 < (rd m 41 (Int.toNat x1)) → (((0 : Int) ≤ x1 ∧ x1 < 600) ∧ (∀ z4_48 : Int, z4_48 = (wr ((wr ((rd m 41 (Int.toNat x1)) - 1)) - x2)) → (∃ (I_50 : Int → Int → Prop) (mu_50 : Int → Int → Nat), I_50 x1 z4_48 ∧
            ∀ (x3_50 x4_50 : Int) , rg x3_50 → rg x4_50 → I_50 x3_50 x4_50 →
            (∃ R_78 : Prop,
                ((x4_50 ≤ 0 → R_78) ∧
                (¬ x4_50 ≤ 0 → (((0 : Int) ≤ x3_50 ∧ x3_50 < 600) ∧ (((rd m 42 (Int.toNat x3_50)) = (-1) → R_78) ∧
                  (¬ (rd m 42 (Int.toNat x3_50)) = (-1) → (((0 : Int) ≤ x3_50 ∧ x3_50 < 600) ∧ (∀ z3_71 : Int, z3_71 = (rd m 42 (Int.toNat x3_50)) → (∀ z4_72 : Int, z4_72 = wr (x4_50 + (-1)) → (I_50 z3_71 z4_72 ∧ mu_50 z3_71 z4_72 < mu_50 x3_50 x4_50))))))))) ∧
                (R_78 →
                (((0 : Int) ≤ x3_50 ∧ x3_50 < 600) ∧ Q m (rd m 43 (Int.toNat x3_50))))))))) ∧
          (¬ x2 < (rd m 41 (Int.toNat x1)) → R_34))))) ∧
        (R_34 →
        Q m (-1)))) ∧
      (x2 = (-1) → (((0 : Int) ≤ x1 ∧ x1 < 600) ∧ Q m (rd m 41 (Int.toNat x1)))))) ∧
    (x1 = (-1) → Q m (-2)))
set_option maxRecDepth 20000 in
theorem br_108 {d : Nat} {m : Mm} {x1 : Int} {x2 : Int} {Q : Mm → Int → Prop} (r_x1 : rg x1) (r_x2 : rg x2) (H : P_108 d m x1 x2 Q) : CK (d + 1) 108 [.ref 39, iv x1, iv x2] m Q := by
  unfold P_108 at H
  refine CK_of rfl ?_
  show mm_W d mc_108 0 [some (.ref 39), some (iv x1), some (iv x2), none, none] [] (fm m) (XK Q)
  refine w_st (fun _ => rfl) ?_
  refine f_int (-1) rfl rfl ?_
  refine b_ne rfl r_x1 (by unfold rg; decide) (fun hq => ?_) (fun hq => ?_)
  · replace H := H.1 hq
    refine w_st (fun _ => rfl) ?_
    refine f_int (-1) rfl rfl ?_
    refine b_ne rfl r_x2 (by unfold rg; decide) (fun hq => ?_) (fun hq => ?_)
    · replace H := H.1 hq
      refine w_st (fun _ => rfl) ?_
      obtain ⟨R_34, H, HJ_34⟩ := H
      have tl_34 : R_34 → mm_W d mc_108 34 [some (.ref 39), some (iv x1), some (iv x2), none, none] [] (fm m) (XK Q) := by
        intro   hR
        have H := HJ_34   hR
        refine f_int (-1) rfl rfl ?_
        exact f_iret rfl (by unfold rg; decide) H
      refine z_lt rfl r_x2 (fun hq => ?_) (fun hq => ?_)
      · replace H := H.1 hq
        exact tl_34   H
      · replace H := H.2 hq
        refine w_st (fun _ => rfl) ?_
        refine w_st (fun _ => rfl) ?_
        refine g_39_4 rfl ?_
        refine w_st (fun _ => rfl) ?_
        refine f_ld ir_41 rfl H.1 ?_
        replace H := H.2
        refine b_lt rfl r_x2 (rd_rg _ _ _) (fun hq => ?_) (fun hq => ?_)
        · replace H := H.1 hq
          refine w_st (fun _ => rfl) ?_
          refine w_st (ls2 := [some (.ref 39), some (iv x1), some (iv x2), some (iv x1), none]) (fun _ => rfl) ?_
          refine w_st (fun _ => rfl) ?_
          refine g_39_4 rfl ?_
          refine w_st (fun _ => rfl) ?_
          refine f_ld ir_41 rfl H.1 ?_
          replace H := H.2
          refine f_int 1 rfl rfl ?_
          refine f_sub rfl ?_
          refine w_st (fun _ => rfl) ?_
          refine f_sub rfl ?_
          obtain ⟨z4_48, e_z4_48⟩ : ∃ q : Int, q = (wr ((wr ((rd m 41 (Int.toNat x1)) - 1)) - x2)) := ⟨_, rfl⟩
          have r_z4_48 : rg z4_48 := by rw [e_z4_48]; exact (wr_rg _)
          replace H := H z4_48 e_z4_48
          refine f_nm e_z4_48 ?_
          refine w_st (ls2 := [some (.ref 39), some (iv x1), some (iv x2), some (iv x1), some (iv z4_48)]) (fun _ => rfl) ?_
          obtain ⟨I_50, mu_50, H0_50, HB_50⟩ := H
          have lp_50 : ∀ (z : Nat) (x3_50 x4_50 : Int) , mu_50 x3_50 x4_50 < z → rg x3_50 → rg x4_50 → I_50 x3_50 x4_50 → mm_W d mc_108 50 [some (.ref 39), some (iv x1), some (iv x2), some (iv x3_50), some (iv x4_50)] [] (fm m) (XK Q) := by
            intro z
            induction z with
            | zero => intro x3_50 x4_50 hz; exact absurd hz (Nat.not_lt_zero _)
            | succ z ih_50 =>
              intro x3_50 x4_50 hz_50 r_x3_50 r_x4_50 hI
              have H := HB_50 x3_50 x4_50 r_x3_50 r_x4_50 hI
              refine w_st (fun _ => rfl) ?_
              obtain ⟨R_78, H, HJ_78⟩ := H
              have tl_78 : R_78 → mm_W d mc_108 78 [some (.ref 39), some (iv x1), some (iv x2), some (iv x3_50), some (iv x4_50)] [] (fm m) (XK Q) := by
                intro   hR
                have H := HJ_78   hR
                refine w_st (fun _ => rfl) ?_
                refine g_39_6 rfl ?_
                refine w_st (fun _ => rfl) ?_
                refine f_ld ir_43 rfl H.1 ?_
                replace H := H.2
                exact f_iret rfl (rd_rg _ _ _) H
              refine z_le rfl r_x4_50 (fun hq => ?_) (fun hq => ?_)
              · replace H := H.1 hq
                exact tl_78   H
              · replace H := H.2 hq
                refine w_st (fun _ => rfl) ?_
                refine g_39_5 rfl ?_
                refine w_st (fun _ => rfl) ?_
                refine f_ld ir_42 rfl H.1 ?_
                replace H := H.2
                refine f_int (-1) rfl rfl ?_
                refine b_eq rfl (rd_rg _ _ _) (by unfold rg; decide) (fun hq => ?_) (fun hq => ?_)
                · replace H := H.1 hq
                  exact tl_78   H
                · replace H := H.2 hq
                  refine w_st (fun _ => rfl) ?_
                  refine g_39_5 rfl ?_
                  refine w_st (fun _ => rfl) ?_
                  refine f_ld ir_42 rfl H.1 ?_
                  replace H := H.2
                  obtain ⟨z3_71, e_z3_71⟩ : ∃ q : Int, q = (rd m 42 (Int.toNat x3_50)) := ⟨_, rfl⟩
                  have r_z3_71 : rg z3_71 := by rw [e_z3_71]; exact (rd_rg _ _ _)
                  replace H := H z3_71 e_z3_71
                  refine f_nm e_z3_71 ?_
                  refine w_st (ls2 := [some (.ref 39), some (iv x1), some (iv x2), some (iv z3_71), some (iv x4_50)]) (fun _ => rfl) ?_
                  obtain ⟨z4_72, e_z4_72⟩ : ∃ q : Int, q = wr (x4_50 + (-1)) := ⟨_, rfl⟩
                  have r_z4_72 : rg z4_72 := by rw [e_z4_72]; exact wr_rg _
                  replace H := H z4_72 e_z4_72
                  refine f_iinc (ls2 := [some (.ref 39), some (iv x1), some (iv x2), some (iv z3_71), some (iv z4_72)]) (-1) rfl rfl rfl e_z4_72 rfl ?_
                  refine w_st (fun _ => rfl) ?_
                  exact ih_50 z3_71 z4_72 (Nat.lt_of_lt_of_le H.2 (Nat.le_of_lt_succ hz_50)) r_z3_71 r_z4_72 H.1
          exact lp_50 _ x1 z4_48 (Nat.lt_succ_self _) r_x1 r_z4_48 H0_50
        · replace H := H.2 hq
          exact tl_34   H
    · replace H := H.2 hq
      refine w_st (fun _ => rfl) ?_
      refine g_39_4 rfl ?_
      refine w_st (fun _ => rfl) ?_
      refine f_ld ir_41 rfl H.1 ?_
      replace H := H.2
      exact f_iret rfl (rd_rg _ _ _) H
  · replace H := H.2 hq
    refine f_int (-2) rfl rfl ?_
    exact f_iret rfl (by unfold rg; decide) H
/-- TippedCrates$Walks.flagsReading(I)I -/
def P_109 (d : Nat) (m : Mm) (x1 : Int) (Q : Mm → Int → Prop) : Prop :=
  (∃ (I_4 : Int → Int → Mm → Prop) (mu_4 : Int → Int → Mm → Nat), I_4 0 0 m ∧
    ∀ (x2_4 x3_4 : Int) (m_4 : Mm), rg x2_4 → rg x3_4 → I_4 x2_4 x3_4 m_4 →
    (((rd m_4 39 0) ≤ x3_4 → Q m_4 x2_4) ∧
        (¬ (rd m_4 39 0) ≤ x3_4 → (((0 : Int) ≤ x3_4 ∧ x3_4 < 600) ∧ CK d 72 [.ref 36, iv (rd m_4 40 (Int.toNat x3_4))] m_4 (fun m22 v22 =>
          (∃ R_43 : Int → Prop,
          ((¬ v22 = x1 → R_43 x2_4) ∧
          (v22 = x1 → (((0 : Int) ≤ x3_4 ∧ x3_4 < 600) ∧ (∀ z2_42 : Int, z2_42 = (orI x2_4 (slI 1 (dvI (rd m22 40 (Int.toNat x3_4)) 24))) → R_43 z2_42)))) ∧
          (∀ (y2_43 : Int) , rg y2_43 → R_43 y2_43 →
          (∀ z3_43 : Int, z3_43 = wr (x3_4 + 1) → (I_4 y2_43 z3_43 m22 ∧ mu_4 y2_43 z3_43 m22 < mu_4 x2_4 x3_4 m_4)))))))))
set_option maxRecDepth 20000 in
theorem br_109 {d : Nat} {m : Mm} {x1 : Int} {Q : Mm → Int → Prop} (r_x1 : rg x1) (H : P_109 d m x1 Q) : CK (d + 1) 109 [.ref 39, iv x1] m Q := by
  unfold P_109 at H
  refine CK_of rfl ?_
  show mm_W d mc_109 0 [some (.ref 39), some (iv x1), none, none] [] (fm m) (XK Q)
  refine f_int 0 rfl rfl ?_
  refine w_st (ls2 := [some (.ref 39), some (iv x1), some (iv 0), none]) (fun _ => rfl) ?_
  refine f_int 0 rfl rfl ?_
  refine w_st (ls2 := [some (.ref 39), some (iv x1), some (iv 0), some (iv 0)]) (fun _ => rfl) ?_
  obtain ⟨I_4, mu_4, H0_4, HB_4⟩ := H
  have lp_4 : ∀ (z : Nat) (x2_4 x3_4 : Int) (m_4 : Mm), mu_4 x2_4 x3_4 m_4 < z → rg x2_4 → rg x3_4 → I_4 x2_4 x3_4 m_4 → mm_W d mc_109 4 [some (.ref 39), some (iv x1), some (iv x2_4), some (iv x3_4)] [] (fm m_4) (XK Q) := by
    intro z
    induction z with
    | zero => intro x2_4 x3_4 m_4 hz; exact absurd hz (Nat.not_lt_zero _)
    | succ z ih_4 =>
      intro x2_4 x3_4 m_4 hz_4 r_x2_4 r_x3_4 hI
      have H := HB_4 x2_4 x3_4 m_4 r_x2_4 r_x3_4 hI
      refine w_st (fun _ => rfl) ?_
      refine w_st (fun _ => rfl) ?_
      refine g_39_0 rfl ?_
      refine b_ge rfl r_x3_4 (rd_rg _ _ _) (fun hq => ?_) (fun hq => ?_)
      · replace H := H.1 hq
        refine w_st (fun _ => rfl) ?_
        exact f_iret rfl r_x2_4 H
      · replace H := H.2 hq
        refine w_st (fun _ => rfl) ?_
        refine g_39_1 rfl ?_
        refine w_st (fun _ => rfl) ?_
        refine g_39_3 rfl ?_
        refine w_st (fun _ => rfl) ?_
        refine f_ld ir_40 rfl H.1 ?_
        replace H := H.2
        refine k_VK (as := [iv (rd m_4 40 (Int.toNat x3_4))]) rfl mg_109 rfl rfl (by decide) rfl rfl H (fun m22 v22 r_v22 H => ?_)
        refine w_st (fun _ => rfl) ?_
        obtain ⟨R_43, H, HJ_43⟩ := H
        have tl_43 : ∀ (y2_43 : Int) , rg y2_43 → R_43 y2_43 → mm_W d mc_109 43 [some (.ref 39), some (iv x1), some (iv y2_43), some (iv x3_4)] [] (fm m22) (XK Q) := by
          intro y2_43 r_y2_43 hR
          have H := HJ_43 y2_43 r_y2_43 hR
          obtain ⟨z3_43, e_z3_43⟩ : ∃ q : Int, q = wr (x3_4 + 1) := ⟨_, rfl⟩
          have r_z3_43 : rg z3_43 := by rw [e_z3_43]; exact wr_rg _
          replace H := H z3_43 e_z3_43
          refine f_iinc (ls2 := [some (.ref 39), some (iv x1), some (iv y2_43), some (iv z3_43)]) 1 rfl rfl rfl e_z3_43 rfl ?_
          refine w_st (fun _ => rfl) ?_
          exact ih_4 y2_43 z3_43 m22 (Nat.lt_of_lt_of_le H.2 (Nat.le_of_lt_succ hz_4)) r_y2_43 r_z3_43 H.1
        refine b_ne rfl r_v22 r_x1 (fun hq => ?_) (fun hq => ?_)
        · replace H := H.1 hq
          exact tl_43 x2_4 r_x2_4 H
        · replace H := H.2 hq
          refine w_st (fun _ => rfl) ?_
          refine f_int 1 rfl rfl ?_
          refine w_st (fun _ => rfl) ?_
          refine g_39_3 rfl ?_
          refine w_st (fun _ => rfl) ?_
          refine f_ld ir_40 rfl H.1 ?_
          replace H := H.2
          refine f_int 24 rfl rfl ?_
          refine f_dvI rfl (by unfold rg; decide) (by decide) ?_
          refine f_slI rfl ?_
          refine f_orI rfl ?_
          obtain ⟨z2_42, e_z2_42⟩ : ∃ q : Int, q = (orI x2_4 (slI 1 (dvI (rd m22 40 (Int.toNat x3_4)) 24))) := ⟨_, rfl⟩
          have r_z2_42 : rg z2_42 := by rw [e_z2_42]; exact (io_rg _ _ _)
          replace H := H z2_42 e_z2_42
          refine f_nm e_z2_42 ?_
          refine w_st (ls2 := [some (.ref 39), some (iv x1), some (iv z2_42), some (iv x3_4)]) (fun _ => rfl) ?_
          exact tl_43 z2_42 r_z2_42 H
  exact lp_4 _ 0 0 m (Nat.lt_succ_self _) (by unfold rg; decide) (by unfold rg; decide) H0_4
/-- TippedCrates$Walks.nearestReading(II)I -/
def P_110 (d : Nat) (m : Mm) (x1 : Int) (x2 : Int) (Q : Mm → Int → Prop) : Prop :=
  (∃ (I_10 : Int → Int → Int → Mm → Prop) (mu_10 : Int → Int → Int → Mm → Nat), I_10 (-2) (-2) 0 m ∧
    ∀ (x3_10 x4_10 x5_10 : Int) (m_10 : Mm), rg x3_10 → rg x4_10 → rg x5_10 → I_10 x3_10 x4_10 x5_10 m_10 →
    (((rd m_10 39 0) ≤ x5_10 → (∃ R_102 : Int → Prop,
          ((¬ x2 = 0 → R_102 x4_10) ∧
          (x2 = 0 → R_102 x3_10)) ∧
          (∀ (s0_102 : Int) , rg s0_102 → R_102 s0_102 →
          Q m_10 s0_102))) ∧
        (¬ (rd m_10 39 0) ≤ x5_10 → (((0 : Int) ≤ x5_10 ∧ x5_10 < 600) ∧ (∀ z6_26 : Int, z6_26 = (rd m_10 40 (Int.toNat x5_10)) → CK d 72 [.ref 36, iv z6_26] m_10 (fun m34 v34 =>
          (∃ R_86 : Int → Int → Prop,
          ((v34 = x1 → (∃ R_71 : Prop,
            ((x3_10 = (-2) → R_71) ∧
            (¬ x3_10 = (-2) → (((0 : Int) ≤ z6_26 ∧ z6_26 < 600) ∧ ((¬ (rd m34 41 (Int.toNat z6_26)) = x4_10 → R_86 x3_10 x4_10) ∧
              ((rd m34 41 (Int.toNat z6_26)) = x4_10 → ((x3_10 ≤ (dvI z6_26 24) → R_86 x3_10 x4_10) ∧
                (¬ x3_10 ≤ (dvI z6_26 24) → R_71))))))) ∧
            (R_71 →
            (∀ z3_76 : Int, z3_76 = (dvI z6_26 24) → (((0 : Int) ≤ z6_26 ∧ z6_26 < 600) ∧ (∀ z4_84 : Int, z4_84 = (rd m34 41 (Int.toNat z6_26)) → R_86 z3_76 z4_84)))))) ∧
          (¬ v34 = x1 → R_86 x3_10 x4_10)) ∧
          (∀ (y3_86 y4_86 : Int) , rg y3_86 → rg y4_86 → R_86 y3_86 y4_86 →
          (∀ z5_86 : Int, z5_86 = wr (x5_10 + 1) → (I_10 y3_86 y4_86 z5_86 m34 ∧ mu_10 y3_86 y4_86 z5_86 m34 < mu_10 x3_10 x4_10 x5_10 m_10))))))))))
set_option maxRecDepth 20000 in
theorem br_110 {d : Nat} {m : Mm} {x1 : Int} {x2 : Int} {Q : Mm → Int → Prop} (r_x1 : rg x1) (r_x2 : rg x2) (H : P_110 d m x1 x2 Q) : CK (d + 1) 110 [.ref 39, iv x1, iv x2] m Q := by
  unfold P_110 at H
  refine CK_of rfl ?_
  show mm_W d mc_110 0 [some (.ref 39), some (iv x1), some (iv x2), none, none, none, none] [] (fm m) (XK Q)
  refine f_int (-2) rfl rfl ?_
  refine w_st (ls2 := [some (.ref 39), some (iv x1), some (iv x2), some (iv (-2)), none, none, none]) (fun _ => rfl) ?_
  refine f_int (-2) rfl rfl ?_
  refine w_st (ls2 := [some (.ref 39), some (iv x1), some (iv x2), some (iv (-2)), some (iv (-2)), none, none]) (fun _ => rfl) ?_
  refine f_int 0 rfl rfl ?_
  refine w_st (ls2 := [some (.ref 39), some (iv x1), some (iv x2), some (iv (-2)), some (iv (-2)), some (iv 0), none]) (fun _ => rfl) ?_
  obtain ⟨I_10, mu_10, H0_10, HB_10⟩ := H
  have lp_10 : ∀ (z : Nat) (x3_10 x4_10 x5_10 : Int) (m_10 : Mm) (g6_10 : Option Value), mu_10 x3_10 x4_10 x5_10 m_10 < z → rg x3_10 → rg x4_10 → rg x5_10 → I_10 x3_10 x4_10 x5_10 m_10 → mm_W d mc_110 10 [some (.ref 39), some (iv x1), some (iv x2), some (iv x3_10), some (iv x4_10), some (iv x5_10), g6_10] [] (fm m_10) (XK Q) := by
    intro z
    induction z with
    | zero => intro x3_10 x4_10 x5_10 m_10 g6_10 hz; exact absurd hz (Nat.not_lt_zero _)
    | succ z ih_10 =>
      intro x3_10 x4_10 x5_10 m_10 g6_10 hz_10 r_x3_10 r_x4_10 r_x5_10 hI
      have H := HB_10 x3_10 x4_10 x5_10 m_10 r_x3_10 r_x4_10 r_x5_10 hI
      refine w_st (fun _ => rfl) ?_
      refine w_st (fun _ => rfl) ?_
      refine g_39_0 rfl ?_
      refine b_ge rfl r_x5_10 (rd_rg _ _ _) (fun hq => ?_) (fun hq => ?_)
      · replace H := H.1 hq
        refine w_st (fun _ => rfl) ?_
        obtain ⟨R_102, H, HJ_102⟩ := H
        have tl_102 : ∀ (s0_102 : Int) , rg s0_102 → R_102 s0_102 → mm_W d mc_110 102 [some (.ref 39), some (iv x1), some (iv x2), some (iv x3_10), some (iv x4_10), some (iv x5_10), g6_10] [iv s0_102] (fm m_10) (XK Q) := by
          intro s0_102 r_s0_102 hR
          have H := HJ_102 s0_102 r_s0_102 hR
          exact f_iret rfl r_s0_102 H
        refine z_ne rfl r_x2 (fun hq => ?_) (fun hq => ?_)
        · replace H := H.1 hq
          refine w_st (fun _ => rfl) ?_
          exact tl_102 x4_10 r_x4_10 H
        · replace H := H.2 hq
          refine w_st (fun _ => rfl) ?_
          refine w_st (fun _ => rfl) ?_
          exact tl_102 x3_10 r_x3_10 H
      · replace H := H.2 hq
        refine w_st (fun _ => rfl) ?_
        refine g_39_3 rfl ?_
        refine w_st (fun _ => rfl) ?_
        refine f_ld ir_40 rfl H.1 ?_
        replace H := H.2
        obtain ⟨z6_26, e_z6_26⟩ : ∃ q : Int, q = (rd m_10 40 (Int.toNat x5_10)) := ⟨_, rfl⟩
        have r_z6_26 : rg z6_26 := by rw [e_z6_26]; exact (rd_rg _ _ _)
        replace H := H z6_26 e_z6_26
        refine f_nm e_z6_26 ?_
        refine w_st (ls2 := [some (.ref 39), some (iv x1), some (iv x2), some (iv x3_10), some (iv x4_10), some (iv x5_10), some (iv z6_26)]) (fun _ => rfl) ?_
        refine w_st (fun _ => rfl) ?_
        refine g_39_1 rfl ?_
        refine w_st (fun _ => rfl) ?_
        refine k_VK (as := [iv z6_26]) rfl mg_110 rfl rfl (by decide) rfl rfl H (fun m34 v34 r_v34 H => ?_)
        refine w_st (fun _ => rfl) ?_
        obtain ⟨R_86, H, HJ_86⟩ := H
        have tl_86 : ∀ (y3_86 y4_86 : Int) , rg y3_86 → rg y4_86 → R_86 y3_86 y4_86 → mm_W d mc_110 86 [some (.ref 39), some (iv x1), some (iv x2), some (iv y3_86), some (iv y4_86), some (iv x5_10), some (iv z6_26)] [] (fm m34) (XK Q) := by
          intro y3_86 y4_86 r_y3_86 r_y4_86 hR
          have H := HJ_86 y3_86 y4_86 r_y3_86 r_y4_86 hR
          obtain ⟨z5_86, e_z5_86⟩ : ∃ q : Int, q = wr (x5_10 + 1) := ⟨_, rfl⟩
          have r_z5_86 : rg z5_86 := by rw [e_z5_86]; exact wr_rg _
          replace H := H z5_86 e_z5_86
          refine f_iinc (ls2 := [some (.ref 39), some (iv x1), some (iv x2), some (iv y3_86), some (iv y4_86), some (iv z5_86), some (iv z6_26)]) 1 rfl rfl rfl e_z5_86 rfl ?_
          refine w_st (fun _ => rfl) ?_
          exact ih_10 y3_86 y4_86 z5_86 m34 (some (iv z6_26)) (Nat.lt_of_lt_of_le H.2 (Nat.le_of_lt_succ hz_10)) r_y3_86 r_y4_86 r_z5_86 H.1
        refine b_eq rfl r_v34 r_x1 (fun hq => ?_) (fun hq => ?_)
        · replace H := H.1 hq
          refine w_st (fun _ => rfl) ?_
          refine f_int (-2) rfl rfl ?_
          obtain ⟨R_71, H, HJ_71⟩ := H
          have tl_71 : R_71 → mm_W d mc_110 71 [some (.ref 39), some (iv x1), some (iv x2), some (iv x3_10), some (iv x4_10), some (iv x5_10), some (iv z6_26)] [] (fm m34) (XK Q) := by
            intro   hR
            have H := HJ_71   hR
            refine w_st (fun _ => rfl) ?_
            refine f_int 24 rfl rfl ?_
            refine f_dvI rfl (by unfold rg; decide) (by decide) ?_
            obtain ⟨z3_76, e_z3_76⟩ : ∃ q : Int, q = (dvI z6_26 24) := ⟨_, rfl⟩
            have r_z3_76 : rg z3_76 := by rw [e_z3_76]; exact (io_rg _ _ _)
            replace H := H z3_76 e_z3_76
            refine f_nm e_z3_76 ?_
            refine w_st (ls2 := [some (.ref 39), some (iv x1), some (iv x2), some (iv z3_76), some (iv x4_10), some (iv x5_10), some (iv z6_26)]) (fun _ => rfl) ?_
            refine w_st (fun _ => rfl) ?_
            refine g_39_4 rfl ?_
            refine w_st (fun _ => rfl) ?_
            refine f_ld ir_41 rfl H.1 ?_
            replace H := H.2
            obtain ⟨z4_84, e_z4_84⟩ : ∃ q : Int, q = (rd m34 41 (Int.toNat z6_26)) := ⟨_, rfl⟩
            have r_z4_84 : rg z4_84 := by rw [e_z4_84]; exact (rd_rg _ _ _)
            replace H := H z4_84 e_z4_84
            refine f_nm e_z4_84 ?_
            refine w_st (ls2 := [some (.ref 39), some (iv x1), some (iv x2), some (iv z3_76), some (iv z4_84), some (iv x5_10), some (iv z6_26)]) (fun _ => rfl) ?_
            exact tl_86 z3_76 z4_84 r_z3_76 r_z4_84 H
          refine b_eq rfl r_x3_10 (by unfold rg; decide) (fun hq => ?_) (fun hq => ?_)
          · replace H := H.1 hq
            exact tl_71   H
          · replace H := H.2 hq
            refine w_st (fun _ => rfl) ?_
            refine g_39_4 rfl ?_
            refine w_st (fun _ => rfl) ?_
            refine f_ld ir_41 rfl H.1 ?_
            replace H := H.2
            refine w_st (fun _ => rfl) ?_
            refine b_ne rfl (rd_rg _ _ _) r_x4_10 (fun hq => ?_) (fun hq => ?_)
            · replace H := H.1 hq
              exact tl_86 x3_10 x4_10 r_x3_10 r_x4_10 H
            · replace H := H.2 hq
              refine w_st (fun _ => rfl) ?_
              refine f_int 24 rfl rfl ?_
              refine f_dvI rfl (by unfold rg; decide) (by decide) ?_
              refine w_st (fun _ => rfl) ?_
              refine b_ge rfl (io_rg _ _ _) r_x3_10 (fun hq => ?_) (fun hq => ?_)
              · replace H := H.1 hq
                exact tl_86 x3_10 x4_10 r_x3_10 r_x4_10 H
              · replace H := H.2 hq
                exact tl_71   H
        · replace H := H.2 hq
          refine w_st (fun _ => rfl) ?_
          exact tl_86 x3_10 x4_10 r_x3_10 r_x4_10 H
  exact lp_10 _ (-2) (-2) 0 m none (Nat.lt_succ_self _) (by unfold rg; decide) (by unfold rg; decide) (by unfold rg; decide) H0_10
/-- TippedCrates$Walks.roundAsNow()I -/
def P_111 (d : Nat) (m : Mm)  (Q : Mm → Int → Prop) : Prop :=
  (∃ R_14 : Int → Prop,
    (((rd m 39 0) ≤ 1 → R_14 (-2)) ∧
    (¬ (rd m 39 0) ≤ 1 → R_14 2)) ∧
    (∀ (s0_14 : Int) , rg s0_14 → R_14 s0_14 →
    Q m s0_14))
set_option maxRecDepth 20000 in
theorem br_111 {d : Nat} {m : Mm}  {Q : Mm → Int → Prop}  (H : P_111 d m  Q) : CK (d + 1) 111 [.ref 39] m Q := by
  unfold P_111 at H
  refine CK_of rfl ?_
  show mm_W d mc_111 0 [some (.ref 39)] [] (fm m) (XK Q)
  refine w_st (fun _ => rfl) ?_
  refine g_39_0 rfl ?_
  refine f_int 1 rfl rfl ?_
  obtain ⟨R_14, H, HJ_14⟩ := H
  have tl_14 : ∀ (s0_14 : Int) , rg s0_14 → R_14 s0_14 → mm_W d mc_111 14 [some (.ref 39)] [iv s0_14] (fm m) (XK Q) := by
    intro s0_14 r_s0_14 hR
    have H := HJ_14 s0_14 r_s0_14 hR
    exact f_iret rfl r_s0_14 H
  refine b_le rfl (rd_rg _ _ _) (by unfold rg; decide) (fun hq => ?_) (fun hq => ?_)
  · replace H := H.1 hq
    refine f_int (-2) rfl rfl ?_
    exact tl_14 (-2) (by unfold rg; decide) H
  · replace H := H.2 hq
    refine f_int 2 rfl rfl ?_
    refine w_st (fun _ => rfl) ?_
    exact tl_14 2 (by unfold rg; decide) H
/-- TippedCrates$Walks.roundTurned()I -/
def P_112 (d : Nat) (m : Mm)  (Q : Mm → Int → Prop) : Prop :=
  (∃ (I_2 : Int → Prop) (mu_2 : Int → Nat), I_2 1 ∧
    ∀ (x1_2 : Int) , rg x1_2 → I_2 x1_2 →
    (((rd m 39 0) ≤ x1_2 → Q m (-2)) ∧
        (¬ (rd m 39 0) ≤ x1_2 → (((0 : Int) ≤ x1_2 ∧ x1_2 < 600) ∧ ((¬ (dvI (rd m 40 (Int.toNat x1_2)) 24) = (dvI (rd m 36 1) 24) → (∀ z1_44 : Int, z1_44 = wr (x1_2 + 1) → (I_2 z1_44 ∧ mu_2 z1_44 < mu_2 x1_2))) ∧
          ((dvI (rd m 40 (Int.toNat x1_2)) 24) = (dvI (rd m 36 1) 24) → (((0 : Int) ≤ x1_2 ∧ x1_2 < 600) ∧ (((0 : Int) ≤ (rd m 40 (Int.toNat x1_2)) ∧ (rd m 40 (Int.toNat x1_2)) < 600) ∧ Q m (rd m 41 (Int.toNat (rd m 40 (Int.toNat x1_2))))))))))))
set_option maxRecDepth 20000 in
theorem br_112 {d : Nat} {m : Mm}  {Q : Mm → Int → Prop}  (H : P_112 d m  Q) : CK (d + 1) 112 [.ref 39] m Q := by
  unfold P_112 at H
  refine CK_of rfl ?_
  show mm_W d mc_112 0 [some (.ref 39), none] [] (fm m) (XK Q)
  refine f_int 1 rfl rfl ?_
  refine w_st (ls2 := [some (.ref 39), some (iv 1)]) (fun _ => rfl) ?_
  obtain ⟨I_2, mu_2, H0_2, HB_2⟩ := H
  have lp_2 : ∀ (z : Nat) (x1_2 : Int) , mu_2 x1_2 < z → rg x1_2 → I_2 x1_2 → mm_W d mc_112 2 [some (.ref 39), some (iv x1_2)] [] (fm m) (XK Q) := by
    intro z
    induction z with
    | zero => intro x1_2 hz; exact absurd hz (Nat.not_lt_zero _)
    | succ z ih_2 =>
      intro x1_2 hz_2 r_x1_2 hI
      have H := HB_2 x1_2 r_x1_2 hI
      refine w_st (fun _ => rfl) ?_
      refine w_st (fun _ => rfl) ?_
      refine g_39_0 rfl ?_
      refine b_ge rfl r_x1_2 (rd_rg _ _ _) (fun hq => ?_) (fun hq => ?_)
      · replace H := H.1 hq
        refine f_int (-2) rfl rfl ?_
        exact f_iret rfl (by unfold rg; decide) H
      · replace H := H.2 hq
        refine w_st (fun _ => rfl) ?_
        refine g_39_3 rfl ?_
        refine w_st (fun _ => rfl) ?_
        refine f_ld ir_40 rfl H.1 ?_
        replace H := H.2
        refine f_int 24 rfl rfl ?_
        refine f_dvI rfl (by unfold rg; decide) (by decide) ?_
        refine w_st (fun _ => rfl) ?_
        refine g_39_1 rfl ?_
        refine g_36_1 rfl ?_
        refine f_int 24 rfl rfl ?_
        refine f_dvI rfl (by unfold rg; decide) (by decide) ?_
        refine b_ne rfl (io_rg _ _ _) (io_rg _ _ _) (fun hq => ?_) (fun hq => ?_)
        · replace H := H.1 hq
          obtain ⟨z1_44, e_z1_44⟩ : ∃ q : Int, q = wr (x1_2 + 1) := ⟨_, rfl⟩
          have r_z1_44 : rg z1_44 := by rw [e_z1_44]; exact wr_rg _
          replace H := H z1_44 e_z1_44
          refine f_iinc (ls2 := [some (.ref 39), some (iv z1_44)]) 1 rfl rfl rfl e_z1_44 rfl ?_
          refine w_st (fun _ => rfl) ?_
          exact ih_2 z1_44 (Nat.lt_of_lt_of_le H.2 (Nat.le_of_lt_succ hz_2)) r_z1_44 H.1
        · replace H := H.2 hq
          refine w_st (fun _ => rfl) ?_
          refine g_39_4 rfl ?_
          refine w_st (fun _ => rfl) ?_
          refine g_39_3 rfl ?_
          refine w_st (fun _ => rfl) ?_
          refine f_ld ir_40 rfl H.1 ?_
          replace H := H.2
          refine f_ld ir_41 rfl H.1 ?_
          replace H := H.2
          exact f_iret rfl (rd_rg _ _ _) H
  exact lp_2 _ 1 (Nat.lt_succ_self _) (by unfold rg; decide) H0_2
/-- TippedCrates$Walks.marksOnTop()I -/
def P_113 (d : Nat) (m : Mm)  (Q : Mm → Int → Prop) : Prop :=
  (∃ (I_4 : Int → Int → Mm → Prop) (mu_4 : Int → Int → Mm → Nat), I_4 0 0 m ∧
    ∀ (x1_4 x2_4 : Int) (m_4 : Mm), rg x1_4 → rg x2_4 → I_4 x1_4 x2_4 m_4 →
    (((rd m_4 39 0) ≤ x2_4 → Q m_4 x1_4) ∧
        (¬ (rd m_4 39 0) ≤ x2_4 → (((0 : Int) ≤ x2_4 ∧ x2_4 < 600) ∧ CK d 72 [.ref 36, iv (rd m_4 40 (Int.toNat x2_4))] m_4 (fun m24 v24 =>
          (∀ z1_29 : Int, z1_29 = (orI x1_4 (slI 1 v24)) → (∀ z2_30 : Int, z2_30 = wr (x2_4 + 1) → (I_4 z1_29 z2_30 m24 ∧ mu_4 z1_29 z2_30 m24 < mu_4 x1_4 x2_4 m_4))))))))
set_option maxRecDepth 20000 in
theorem br_113 {d : Nat} {m : Mm}  {Q : Mm → Int → Prop}  (H : P_113 d m  Q) : CK (d + 1) 113 [.ref 39] m Q := by
  unfold P_113 at H
  refine CK_of rfl ?_
  show mm_W d mc_113 0 [some (.ref 39), none, none] [] (fm m) (XK Q)
  refine f_int 0 rfl rfl ?_
  refine w_st (ls2 := [some (.ref 39), some (iv 0), none]) (fun _ => rfl) ?_
  refine f_int 0 rfl rfl ?_
  refine w_st (ls2 := [some (.ref 39), some (iv 0), some (iv 0)]) (fun _ => rfl) ?_
  obtain ⟨I_4, mu_4, H0_4, HB_4⟩ := H
  have lp_4 : ∀ (z : Nat) (x1_4 x2_4 : Int) (m_4 : Mm), mu_4 x1_4 x2_4 m_4 < z → rg x1_4 → rg x2_4 → I_4 x1_4 x2_4 m_4 → mm_W d mc_113 4 [some (.ref 39), some (iv x1_4), some (iv x2_4)] [] (fm m_4) (XK Q) := by
    intro z
    induction z with
    | zero => intro x1_4 x2_4 m_4 hz; exact absurd hz (Nat.not_lt_zero _)
    | succ z ih_4 =>
      intro x1_4 x2_4 m_4 hz_4 r_x1_4 r_x2_4 hI
      have H := HB_4 x1_4 x2_4 m_4 r_x1_4 r_x2_4 hI
      refine w_st (fun _ => rfl) ?_
      refine w_st (fun _ => rfl) ?_
      refine g_39_0 rfl ?_
      refine b_ge rfl r_x2_4 (rd_rg _ _ _) (fun hq => ?_) (fun hq => ?_)
      · replace H := H.1 hq
        refine w_st (fun _ => rfl) ?_
        exact f_iret rfl r_x1_4 H
      · replace H := H.2 hq
        refine w_st (fun _ => rfl) ?_
        refine f_int 1 rfl rfl ?_
        refine w_st (fun _ => rfl) ?_
        refine g_39_1 rfl ?_
        refine w_st (fun _ => rfl) ?_
        refine g_39_3 rfl ?_
        refine w_st (fun _ => rfl) ?_
        refine f_ld ir_40 rfl H.1 ?_
        replace H := H.2
        refine k_VK (as := [iv (rd m_4 40 (Int.toNat x2_4))]) rfl mg_113 rfl rfl (by decide) rfl rfl H (fun m24 v24 r_v24 H => ?_)
        refine f_slI rfl ?_
        refine f_orI rfl ?_
        obtain ⟨z1_29, e_z1_29⟩ : ∃ q : Int, q = (orI x1_4 (slI 1 v24)) := ⟨_, rfl⟩
        have r_z1_29 : rg z1_29 := by rw [e_z1_29]; exact (io_rg _ _ _)
        replace H := H z1_29 e_z1_29
        refine f_nm e_z1_29 ?_
        refine w_st (ls2 := [some (.ref 39), some (iv z1_29), some (iv x2_4)]) (fun _ => rfl) ?_
        obtain ⟨z2_30, e_z2_30⟩ : ∃ q : Int, q = wr (x2_4 + 1) := ⟨_, rfl⟩
        have r_z2_30 : rg z2_30 := by rw [e_z2_30]; exact wr_rg _
        replace H := H z2_30 e_z2_30
        refine f_iinc (ls2 := [some (.ref 39), some (iv z1_29), some (iv z2_30)]) 1 rfl rfl rfl e_z2_30 rfl ?_
        refine w_st (fun _ => rfl) ?_
        exact ih_4 z1_29 z2_30 m24 (Nat.lt_of_lt_of_le H.2 (Nat.le_of_lt_succ hz_4)) r_z1_29 r_z2_30 H.1
  exact lp_4 _ 0 0 m (Nat.lt_succ_self _) (by unfold rg; decide) (by unfold rg; decide) H0_4
/-- TippedCrates$Walks.stepsBeside(I)I -/
def P_114 (d : Nat) (m : Mm) (x1 : Int) (Q : Mm → Int → Prop) : Prop :=
  (∃ (I_2 : Int → Mm → Prop) (mu_2 : Int → Mm → Nat), I_2 0 m ∧
    ∀ (x2_2 : Int) (m_2 : Mm), rg x2_2 → I_2 x2_2 m_2 →
    (((rd m_2 39 0) ≤ x2_2 → Q m_2 (-2)) ∧
        (¬ (rd m_2 39 0) ≤ x2_2 → (∃ (I_12 : Int → Mm → Prop) (mu_12 : Int → Mm → Nat), I_12 0 m_2 ∧
          ∀ (x3_12 : Int) (m_12 : Mm), rg x3_12 → I_12 x3_12 m_12 →
          ((4 ≤ x3_12 → (∀ z2_59 : Int, z2_59 = wr (x2_2 + 1) → (I_2 z2_59 m_12 ∧ mu_2 z2_59 m_12 < mu_2 x2_2 m_2))) ∧
              (¬ 4 ≤ x3_12 → (((0 : Int) ≤ x2_2 ∧ x2_2 < 600) ∧ CK d 30 [.ref 7, iv (dvI (rd m_12 40 (Int.toNat x2_2)) 24), iv x3_12] m_12 (fun m34 v34 =>
                ((¬ v34 = x1 → (∀ z3_53 : Int, z3_53 = wr (x3_12 + 1) → (I_12 z3_53 m34 ∧ mu_12 z3_53 m34 < mu_12 x3_12 m_12))) ∧
                (v34 = x1 → (((0 : Int) ≤ x2_2 ∧ x2_2 < 600) ∧ (((0 : Int) ≤ (rd m34 40 (Int.toNat x2_2)) ∧ (rd m34 40 (Int.toNat x2_2)) < 600) ∧ Q m34 (rd m34 41 (Int.toNat (rd m34 40 (Int.toNat x2_2))))))))))))))))
set_option maxRecDepth 20000 in
theorem br_114 {d : Nat} {m : Mm} {x1 : Int} {Q : Mm → Int → Prop} (r_x1 : rg x1) (H : P_114 d m x1 Q) : CK (d + 1) 114 [.ref 39, iv x1] m Q := by
  unfold P_114 at H
  refine CK_of rfl ?_
  show mm_W d mc_114 0 [some (.ref 39), some (iv x1), none, none] [] (fm m) (XK Q)
  refine f_int 0 rfl rfl ?_
  refine w_st (ls2 := [some (.ref 39), some (iv x1), some (iv 0), none]) (fun _ => rfl) ?_
  obtain ⟨I_2, mu_2, H0_2, HB_2⟩ := H
  have lp_2 : ∀ (z : Nat) (x2_2 : Int) (m_2 : Mm) (g3_2 : Option Value), mu_2 x2_2 m_2 < z → rg x2_2 → I_2 x2_2 m_2 → mm_W d mc_114 2 [some (.ref 39), some (iv x1), some (iv x2_2), g3_2] [] (fm m_2) (XK Q) := by
    intro z
    induction z with
    | zero => intro x2_2 m_2 g3_2 hz; exact absurd hz (Nat.not_lt_zero _)
    | succ z ih_2 =>
      intro x2_2 m_2 g3_2 hz_2 r_x2_2 hI
      have H := HB_2 x2_2 m_2 r_x2_2 hI
      refine w_st (fun _ => rfl) ?_
      refine w_st (fun _ => rfl) ?_
      refine g_39_0 rfl ?_
      refine b_ge rfl r_x2_2 (rd_rg _ _ _) (fun hq => ?_) (fun hq => ?_)
      · replace H := H.1 hq
        refine f_int (-2) rfl rfl ?_
        exact f_iret rfl (by unfold rg; decide) H
      · replace H := H.2 hq
        refine f_int 0 rfl rfl ?_
        refine w_st (ls2 := [some (.ref 39), some (iv x1), some (iv x2_2), some (iv 0)]) (fun _ => rfl) ?_
        obtain ⟨I_12, mu_12, H0_12, HB_12⟩ := H
        have lp_12 : ∀ (z : Nat) (x3_12 : Int) (m_12 : Mm), mu_12 x3_12 m_12 < z → rg x3_12 → I_12 x3_12 m_12 → mm_W d mc_114 12 [some (.ref 39), some (iv x1), some (iv x2_2), some (iv x3_12)] [] (fm m_12) (XK Q) := by
          intro z
          induction z with
          | zero => intro x3_12 m_12 hz; exact absurd hz (Nat.not_lt_zero _)
          | succ z ih_12 =>
            intro x3_12 m_12 hz_12 r_x3_12 hI
            have H := HB_12 x3_12 m_12 r_x3_12 hI
            refine w_st (fun _ => rfl) ?_
            refine f_int 4 rfl rfl ?_
            refine b_ge rfl r_x3_12 (by unfold rg; decide) (fun hq => ?_) (fun hq => ?_)
            · replace H := H.1 hq
              obtain ⟨z2_59, e_z2_59⟩ : ∃ q : Int, q = wr (x2_2 + 1) := ⟨_, rfl⟩
              have r_z2_59 : rg z2_59 := by rw [e_z2_59]; exact wr_rg _
              replace H := H z2_59 e_z2_59
              refine f_iinc (ls2 := [some (.ref 39), some (iv x1), some (iv z2_59), some (iv x3_12)]) 1 rfl rfl rfl e_z2_59 rfl ?_
              refine w_st (fun _ => rfl) ?_
              exact ih_2 z2_59 m_12 (some (iv x3_12)) (Nat.lt_of_lt_of_le H.2 (Nat.le_of_lt_succ hz_2)) r_z2_59 H.1
            · replace H := H.2 hq
              refine w_st (fun _ => rfl) ?_
              refine g_39_1 rfl ?_
              refine g_36_0 rfl ?_
              refine w_st (fun _ => rfl) ?_
              refine g_39_3 rfl ?_
              refine w_st (fun _ => rfl) ?_
              refine f_ld ir_40 rfl H.1 ?_
              replace H := H.2
              refine f_int 24 rfl rfl ?_
              refine f_dvI rfl (by unfold rg; decide) (by decide) ?_
              refine w_st (fun _ => rfl) ?_
              refine k_VK (as := [iv (dvI (rd m_12 40 (Int.toNat x2_2)) 24), iv x3_12]) rfl mg_114 rfl rfl (by decide) rfl rfl H (fun m34 v34 r_v34 H => ?_)
              refine w_st (fun _ => rfl) ?_
              refine b_ne rfl r_v34 r_x1 (fun hq => ?_) (fun hq => ?_)
              · replace H := H.1 hq
                obtain ⟨z3_53, e_z3_53⟩ : ∃ q : Int, q = wr (x3_12 + 1) := ⟨_, rfl⟩
                have r_z3_53 : rg z3_53 := by rw [e_z3_53]; exact wr_rg _
                replace H := H z3_53 e_z3_53
                refine f_iinc (ls2 := [some (.ref 39), some (iv x1), some (iv x2_2), some (iv z3_53)]) 1 rfl rfl rfl e_z3_53 rfl ?_
                refine w_st (fun _ => rfl) ?_
                exact ih_12 z3_53 m34 (Nat.lt_of_lt_of_le H.2 (Nat.le_of_lt_succ hz_12)) r_z3_53 H.1
              · replace H := H.2 hq
                refine w_st (fun _ => rfl) ?_
                refine g_39_4 rfl ?_
                refine w_st (fun _ => rfl) ?_
                refine g_39_3 rfl ?_
                refine w_st (fun _ => rfl) ?_
                refine f_ld ir_40 rfl H.1 ?_
                replace H := H.2
                refine f_ld ir_41 rfl H.1 ?_
                replace H := H.2
                exact f_iret rfl (rd_rg _ _ _) H
        exact lp_12 _ 0 m_2 (Nat.lt_succ_self _) (by unfold rg; decide) H0_12
  exact lp_2 _ 0 m none (Nat.lt_succ_self _) (by unfold rg; decide) H0_2
/-- TippedCrates$Walks.leastCost(LTippedCrates$State;II)I -/
def P_115 (d : Nat) (m : Mm) (a : Nat) (x2 : Int) (x3 : Int) (Q : Mm → Int → Prop) : Prop :=
  (((Int.toNat (rd m 39 7)) = 44 ∨ (Int.toNat (rd m 39 7)) = 45) ∧ CV d 299 [.ref (Int.toNat (rd m 39 7)), iv 59401] m (fun m6 =>
    CV d 299 [.ref 46, iv (-1)] m6 (fun m14 =>
    (∀ m19 : Mm, m19 = wt m14 39 12 0 → CV d 117 [.ref 39, iv (rd m19 36 1), iv 0] m19 (fun m31 =>
    (∃ (I_37 : Int → Mm → Prop) (mu_37 : Int → Mm → Nat), I_37 0 m31 ∧
    ∀ (x4_37 : Int) (m_37 : Mm), rg x4_37 → I_37 x4_37 m_37 →
    (∃ R_126 : Prop,
        ((59400 < x4_37 → R_126) ∧
        (¬ 59400 < x4_37 → (((rd m_37 39 12) ≤ 0 → R_126) ∧
          (¬ (rd m_37 39 12) ≤ 0 → (∃ (I_54 : Int → Mm → Prop) (mu_54 : Int → Mm → Nat), I_54 0 m_37 ∧
            ∀ (x5_54 : Int) (m_54 : Mm), rg x5_54 → I_54 x5_54 m_54 →
            (∃ R_120 : Prop,
                ((600 ≤ x5_54 → R_120) ∧
                (¬ 600 ≤ x5_54 → (((0 : Int) ≤ (rmI x4_37 100) ∧ (rmI x4_37 100) < 100) ∧ (((rd m_54 46 (Int.toNat (rmI x4_37 100))) = (-1) → R_120) ∧
                  (¬ (rd m_54 46 (Int.toNat (rmI x4_37 100))) = (-1) → (((0 : Int) ≤ (rmI x4_37 100) ∧ (rmI x4_37 100) < 100) ∧ (∀ z6_86 : Int, z6_86 = (rd m_54 46 (Int.toNat (rmI x4_37 100))) → ((¬ (dvI z6_86 24) = x3 → CV d 118 [.ref 39, iv z6_86] m_54 (fun m103 =>
                      CV d 116 [.ref 39, .ref a, iv x2, iv z6_86] m103 (fun m111 =>
                      (∀ z5_114 : Int, z5_114 = wr (x5_54 + 1) → (I_54 z5_114 m111 ∧ mu_54 z5_114 m111 < mu_54 x5_54 m_54))))) ∧
                    ((dvI z6_86 24) = x3 → Q m_54 x4_37))))))))) ∧
                (R_120 →
                (∀ z4_120 : Int, z4_120 = wr (x4_37 + 1) → (I_37 z4_120 m_54 ∧ mu_37 z4_120 m_54 < mu_37 x4_37 m_37))))))))) ∧
        (R_126 →
        Q m_37 (-2)))))))))
set_option maxRecDepth 20000 in
theorem br_115 {d : Nat} {m : Mm} {a : Nat} {x2 : Int} {x3 : Int} {Q : Mm → Int → Prop} (h_a : isSt a) (r_x2 : rg x2) (r_x3 : rg x3) (H : P_115 d m a x2 x3 Q) : CK (d + 1) 115 [.ref 39, .ref a, iv x2, iv x3] m Q := by
  unfold P_115 at H
  refine CK_of rfl ?_
  show mm_W d mc_115 0 [some (.ref 39), some (.ref a), some (iv x2), some (iv x3), none, none, none] [] (fm m) (XK Q)
  refine w_st (fun _ => rfl) ?_
  refine g_39_7 rfl ?_
  obtain ⟨hw1, H⟩ := H
  refine f_int 59401 rfl rfl ?_
  refine k_SV (as := [.ref (Int.toNat (rd m 39 7)), iv 59401]) rfl mg_115 rfl rfl rfl H (fun m6 H => ?_)
  refine w_st (fun _ => rfl) ?_
  refine g_39_9 rfl ?_
  refine f_int (-1) rfl rfl ?_
  refine k_SV (as := [.ref 46, iv (-1)]) rfl mg_115 rfl rfl rfl H (fun m14 H => ?_)
  refine w_st (fun _ => rfl) ?_
  refine f_int 0 rfl rfl ?_
  obtain ⟨m19, e_m19⟩ : ∃ q : Mm, q = wt m14 39 12 0 := ⟨_, rfl⟩
  replace H := H m19 e_m19
  refine p_39_12 rfl e_m19 ?_
  refine w_st (fun _ => rfl) ?_
  refine w_st (fun _ => rfl) ?_
  refine g_39_1 rfl ?_
  refine g_36_1 rfl ?_
  refine f_int 0 rfl rfl ?_
  refine k_VV (as := [iv (rd m19 36 1), iv 0]) rfl mg_115 rfl rfl (by decide) rfl rfl H (fun m31 H => ?_)
  refine f_int 0 rfl rfl ?_
  refine w_st (ls2 := [some (.ref 39), some (.ref a), some (iv x2), some (iv x3), some (iv 0), none, none]) (fun _ => rfl) ?_
  obtain ⟨I_37, mu_37, H0_37, HB_37⟩ := H
  have lp_37 : ∀ (z : Nat) (x4_37 : Int) (m_37 : Mm) (g5_37 g6_37 : Option Value), mu_37 x4_37 m_37 < z → rg x4_37 → I_37 x4_37 m_37 → mm_W d mc_115 37 [some (.ref 39), some (.ref a), some (iv x2), some (iv x3), some (iv x4_37), g5_37, g6_37] [] (fm m_37) (XK Q) := by
    intro z
    induction z with
    | zero => intro x4_37 m_37 g5_37 g6_37 hz; exact absurd hz (Nat.not_lt_zero _)
    | succ z ih_37 =>
      intro x4_37 m_37 g5_37 g6_37 hz_37 r_x4_37 hI
      have H := HB_37 x4_37 m_37 r_x4_37 hI
      refine w_st (fun _ => rfl) ?_
      refine f_int 59400 rfl rfl ?_
      obtain ⟨R_126, H, HJ_126⟩ := H
      have tl_126 : R_126 → mm_W d mc_115 126 [some (.ref 39), some (.ref a), some (iv x2), some (iv x3), some (iv x4_37), g5_37, g6_37] [] (fm m_37) (XK Q) := by
        intro   hR
        have H := HJ_126   hR
        refine f_int (-2) rfl rfl ?_
        exact f_iret rfl (by unfold rg; decide) H
      refine b_gt rfl r_x4_37 (by unfold rg; decide) (fun hq => ?_) (fun hq => ?_)
      · replace H := H.1 hq
        exact tl_126   H
      · replace H := H.2 hq
        refine w_st (fun _ => rfl) ?_
        refine g_39_12 rfl ?_
        refine z_le rfl (rd_rg _ _ _) (fun hq => ?_) (fun hq => ?_)
        · replace H := H.1 hq
          exact tl_126   H
        · replace H := H.2 hq
          refine f_int 0 rfl rfl ?_
          refine w_st (ls2 := [some (.ref 39), some (.ref a), some (iv x2), some (iv x3), some (iv x4_37), some (iv 0), g6_37]) (fun _ => rfl) ?_
          obtain ⟨I_54, mu_54, H0_54, HB_54⟩ := H
          have lp_54 : ∀ (z : Nat) (x5_54 : Int) (m_54 : Mm) (g6_54 : Option Value), mu_54 x5_54 m_54 < z → rg x5_54 → I_54 x5_54 m_54 → mm_W d mc_115 54 [some (.ref 39), some (.ref a), some (iv x2), some (iv x3), some (iv x4_37), some (iv x5_54), g6_54] [] (fm m_54) (XK Q) := by
            intro z
            induction z with
            | zero => intro x5_54 m_54 g6_54 hz; exact absurd hz (Nat.not_lt_zero _)
            | succ z ih_54 =>
              intro x5_54 m_54 g6_54 hz_54 r_x5_54 hI
              have H := HB_54 x5_54 m_54 r_x5_54 hI
              refine w_st (fun _ => rfl) ?_
              refine f_int 600 rfl rfl ?_
              obtain ⟨R_120, H, HJ_120⟩ := H
              have tl_120 : R_120 → mm_W d mc_115 120 [some (.ref 39), some (.ref a), some (iv x2), some (iv x3), some (iv x4_37), some (iv x5_54), g6_54] [] (fm m_54) (XK Q) := by
                intro   hR
                have H := HJ_120   hR
                obtain ⟨z4_120, e_z4_120⟩ : ∃ q : Int, q = wr (x4_37 + 1) := ⟨_, rfl⟩
                have r_z4_120 : rg z4_120 := by rw [e_z4_120]; exact wr_rg _
                replace H := H z4_120 e_z4_120
                refine f_iinc (ls2 := [some (.ref 39), some (.ref a), some (iv x2), some (iv x3), some (iv z4_120), some (iv x5_54), g6_54]) 1 rfl rfl rfl e_z4_120 rfl ?_
                refine w_st (fun _ => rfl) ?_
                exact ih_37 z4_120 m_54 (some (iv x5_54)) g6_54 (Nat.lt_of_lt_of_le H.2 (Nat.le_of_lt_succ hz_37)) r_z4_120 H.1
              refine b_ge rfl r_x5_54 (by unfold rg; decide) (fun hq => ?_) (fun hq => ?_)
              · replace H := H.1 hq
                exact tl_120   H
              · replace H := H.2 hq
                refine w_st (fun _ => rfl) ?_
                refine g_39_9 rfl ?_
                refine w_st (fun _ => rfl) ?_
                refine f_int 100 rfl rfl ?_
                refine f_rmI rfl (by unfold rg; decide) (by decide) ?_
                refine f_ld ir_46 rfl H.1 ?_
                replace H := H.2
                refine f_int (-1) rfl rfl ?_
                refine b_eq rfl (rd_rg _ _ _) (by unfold rg; decide) (fun hq => ?_) (fun hq => ?_)
                · replace H := H.1 hq
                  exact tl_120   H
                · replace H := H.2 hq
                  refine w_st (fun _ => rfl) ?_
                  refine g_39_9 rfl ?_
                  refine w_st (fun _ => rfl) ?_
                  refine f_int 100 rfl rfl ?_
                  refine f_rmI rfl (by unfold rg; decide) (by decide) ?_
                  refine f_ld ir_46 rfl H.1 ?_
                  replace H := H.2
                  obtain ⟨z6_86, e_z6_86⟩ : ∃ q : Int, q = (rd m_54 46 (Int.toNat (rmI x4_37 100))) := ⟨_, rfl⟩
                  have r_z6_86 : rg z6_86 := by rw [e_z6_86]; exact (rd_rg _ _ _)
                  replace H := H z6_86 e_z6_86
                  refine f_nm e_z6_86 ?_
                  refine w_st (ls2 := [some (.ref 39), some (.ref a), some (iv x2), some (iv x3), some (iv x4_37), some (iv x5_54), some (iv z6_86)]) (fun _ => rfl) ?_
                  refine w_st (fun _ => rfl) ?_
                  refine f_int 24 rfl rfl ?_
                  refine f_dvI rfl (by unfold rg; decide) (by decide) ?_
                  refine w_st (fun _ => rfl) ?_
                  refine b_ne rfl (io_rg _ _ _) r_x3 (fun hq => ?_) (fun hq => ?_)
                  · replace H := H.1 hq
                    refine w_st (fun _ => rfl) ?_
                    refine w_st (fun _ => rfl) ?_
                    refine k_VV (as := [iv z6_86]) rfl mg_115 rfl rfl (by decide) rfl rfl H (fun m103 H => ?_)
                    refine w_st (fun _ => rfl) ?_
                    refine w_st (fun _ => rfl) ?_
                    refine w_st (fun _ => rfl) ?_
                    refine w_st (fun _ => rfl) ?_
                    refine k_VV (as := [.ref a, iv x2, iv z6_86]) rfl mg_115 rfl rfl (by decide) rfl rfl H (fun m111 H => ?_)
                    obtain ⟨z5_114, e_z5_114⟩ : ∃ q : Int, q = wr (x5_54 + 1) := ⟨_, rfl⟩
                    have r_z5_114 : rg z5_114 := by rw [e_z5_114]; exact wr_rg _
                    replace H := H z5_114 e_z5_114
                    refine f_iinc (ls2 := [some (.ref 39), some (.ref a), some (iv x2), some (iv x3), some (iv x4_37), some (iv z5_114), some (iv z6_86)]) 1 rfl rfl rfl e_z5_114 rfl ?_
                    refine w_st (fun _ => rfl) ?_
                    exact ih_54 z5_114 m111 (some (iv z6_86)) (Nat.lt_of_lt_of_le H.2 (Nat.le_of_lt_succ hz_54)) r_z5_114 H.1
                  · replace H := H.2 hq
                    refine w_st (fun _ => rfl) ?_
                    exact f_iret rfl r_x4_37 H
          exact lp_54 _ 0 m_37 g6_37 (Nat.lt_succ_self _) (by unfold rg; decide) H0_54
  exact lp_37 _ 0 m31 none none (Nat.lt_succ_self _) (by unfold rg; decide) H0_37
/-- TippedCrates$Walks.offerNexts(LTippedCrates$State;II)V -/
def P_116 (d : Nat) (m : Mm) (a : Nat) (x2 : Int) (x3 : Int) (Q : Mm → Prop) : Prop :=
  (∃ (I_3 : Int → Mm → Prop) (mu_3 : Int → Mm → Nat), I_3 0 m ∧
    ∀ (x4_3 : Int) (m_3 : Mm), rg x4_3 → I_3 x4_3 m_3 →
    ((4 ≤ x4_3 → Q m_3) ∧
        (¬ 4 ≤ x4_3 → CK d 71 [.ref 36, iv x3, iv x4_3] m_3 (fun m16 v16 =>
          (∃ R_99 : Mm → Prop,
          ((v16 = (-1) → R_99 m16) ∧
          (¬ v16 = (-1) → (((Int.toNat (rd m16 39 7)) = 44 ∨ (Int.toNat (rd m16 39 7)) = 45) ∧ (((0 : Int) ≤ v16 ∧ v16 < 600) ∧ (((Int.toNat (rd m16 39 7)) = 44 ∨ (Int.toNat (rd m16 39 7)) = 45) ∧ (((0 : Int) ≤ x3 ∧ x3 < 600) ∧ (((rd m16 (Int.toNat (rd m16 39 7)) (Int.toNat x3)) < (rd m16 (Int.toNat (rd m16 39 7)) (Int.toNat v16)) → CK d 72 [.ref 36, iv v16] m16 (fun m64 v64 =>
              CK d 73 [.ref 36, iv v16] m64 (fun m73 v73 =>
              CV d 3 [.ref 30, .ref a, iv x2, iv (dvI x3 24), iv x4_3, iv v64, iv v73] m73 (fun m76 =>
              (((Int.toNat (rd m76 39 7)) = 44 ∨ (Int.toNat (rd m76 39 7)) = 45) ∧ (((0 : Int) ≤ x3 ∧ x3 < 600) ∧ CK d 4 [.ref 30] m76 (fun m92 v92 =>
              CV d 117 [.ref 39, iv v16, iv (wr ((rd m76 (Int.toNat (rd m76 39 7)) (Int.toNat x3)) + v92))] m92 (fun m96 =>
              R_99 m96)))))))) ∧
            (¬ (rd m16 (Int.toNat (rd m16 39 7)) (Int.toNat x3)) < (rd m16 (Int.toNat (rd m16 39 7)) (Int.toNat v16)) → R_99 m16)))))))) ∧
          (∀ (m_99 : Mm), R_99 m_99 →
          (∀ z4_99 : Int, z4_99 = wr (x4_3 + 1) → (I_3 z4_99 m_99 ∧ mu_3 z4_99 m_99 < mu_3 x4_3 m_3))))))))
set_option maxRecDepth 20000 in
theorem br_116 {d : Nat} {m : Mm} {a : Nat} {x2 : Int} {x3 : Int} {Q : Mm → Prop} (h_a : isSt a) (r_x2 : rg x2) (r_x3 : rg x3) (H : P_116 d m a x2 x3 Q) : CV (d + 1) 116 [.ref 39, .ref a, iv x2, iv x3] m Q := by
  unfold P_116 at H
  refine CV_of rfl ?_
  show mm_W d mc_116 0 [some (.ref 39), some (.ref a), some (iv x2), some (iv x3), none, none] [] (fm m) (XV Q)
  refine f_int 0 rfl rfl ?_
  refine w_st (ls2 := [some (.ref 39), some (.ref a), some (iv x2), some (iv x3), some (iv 0), none]) (fun _ => rfl) ?_
  obtain ⟨I_3, mu_3, H0_3, HB_3⟩ := H
  have lp_3 : ∀ (z : Nat) (x4_3 : Int) (m_3 : Mm) (g5_3 : Option Value), mu_3 x4_3 m_3 < z → rg x4_3 → I_3 x4_3 m_3 → mm_W d mc_116 3 [some (.ref 39), some (.ref a), some (iv x2), some (iv x3), some (iv x4_3), g5_3] [] (fm m_3) (XV Q) := by
    intro z
    induction z with
    | zero => intro x4_3 m_3 g5_3 hz; exact absurd hz (Nat.not_lt_zero _)
    | succ z ih_3 =>
      intro x4_3 m_3 g5_3 hz_3 r_x4_3 hI
      have H := HB_3 x4_3 m_3 r_x4_3 hI
      refine w_st (fun _ => rfl) ?_
      refine f_int 4 rfl rfl ?_
      refine b_ge rfl r_x4_3 (by unfold rg; decide) (fun hq => ?_) (fun hq => ?_)
      · replace H := H.1 hq
        exact f_ret rfl H
      · replace H := H.2 hq
        refine w_st (fun _ => rfl) ?_
        refine g_39_1 rfl ?_
        refine w_st (fun _ => rfl) ?_
        refine w_st (fun _ => rfl) ?_
        refine k_VK (as := [iv x3, iv x4_3]) rfl mg_116 rfl rfl (by decide) rfl rfl H (fun m16 v16 r_v16 H => ?_)
        refine w_st (ls2 := [some (.ref 39), some (.ref a), some (iv x2), some (iv x3), some (iv x4_3), some (iv v16)]) (fun _ => rfl) ?_
        refine w_st (fun _ => rfl) ?_
        refine f_int (-1) rfl rfl ?_
        obtain ⟨R_99, H, HJ_99⟩ := H
        have tl_99 : ∀ (m_99 : Mm), R_99 m_99 → mm_W d mc_116 99 [some (.ref 39), some (.ref a), some (iv x2), some (iv x3), some (iv x4_3), some (iv v16)] [] (fm m_99) (XV Q) := by
          intro m_99  hR
          have H := HJ_99 m_99  hR
          obtain ⟨z4_99, e_z4_99⟩ : ∃ q : Int, q = wr (x4_3 + 1) := ⟨_, rfl⟩
          have r_z4_99 : rg z4_99 := by rw [e_z4_99]; exact wr_rg _
          replace H := H z4_99 e_z4_99
          refine f_iinc (ls2 := [some (.ref 39), some (.ref a), some (iv x2), some (iv x3), some (iv z4_99), some (iv v16)]) 1 rfl rfl rfl e_z4_99 rfl ?_
          refine w_st (fun _ => rfl) ?_
          exact ih_3 z4_99 m_99 (some (iv v16)) (Nat.lt_of_lt_of_le H.2 (Nat.le_of_lt_succ hz_3)) r_z4_99 H.1
        refine b_eq rfl r_v16 (by unfold rg; decide) (fun hq => ?_) (fun hq => ?_)
        · replace H := H.1 hq
          exact tl_99 m16  H
        · replace H := H.2 hq
          refine w_st (fun _ => rfl) ?_
          refine g_39_7 rfl ?_
          obtain ⟨hw1, H⟩ := H
          refine w_st (fun _ => rfl) ?_
          refine f_ld (wk_R hw1) rfl H.1 ?_
          replace H := H.2
          refine w_st (fun _ => rfl) ?_
          refine g_39_7 rfl ?_
          obtain ⟨hw2, H⟩ := H
          refine w_st (fun _ => rfl) ?_
          refine f_ld (wk_R hw2) rfl H.1 ?_
          replace H := H.2
          refine b_gt rfl (rd_rg _ _ _) (rd_rg _ _ _) (fun hq => ?_) (fun hq => ?_)
          · replace H := H.1 hq
            refine w_st (fun _ => rfl) ?_
            refine g_39_2 rfl ?_
            refine w_st (fun _ => rfl) ?_
            refine w_st (fun _ => rfl) ?_
            refine w_st (fun _ => rfl) ?_
            refine f_int 24 rfl rfl ?_
            refine f_dvI rfl (by unfold rg; decide) (by decide) ?_
            refine w_st (fun _ => rfl) ?_
            refine w_st (fun _ => rfl) ?_
            refine g_39_1 rfl ?_
            refine w_st (fun _ => rfl) ?_
            refine k_VK (as := [iv v16]) rfl mg_116 rfl rfl (by decide) rfl rfl H (fun m64 v64 r_v64 H => ?_)
            refine w_st (fun _ => rfl) ?_
            refine g_39_1 rfl ?_
            refine w_st (fun _ => rfl) ?_
            refine k_VK (as := [iv v16]) rfl mg_116 rfl rfl (by decide) rfl rfl H (fun m73 v73 r_v73 H => ?_)
            refine k_VV (as := [.ref a, iv x2, iv (dvI x3 24), iv x4_3, iv v64, iv v73]) rfl mg_116 rfl rfl (by decide) rfl rfl H (fun m76 H => ?_)
            refine w_st (fun _ => rfl) ?_
            refine w_st (fun _ => rfl) ?_
            refine w_st (fun _ => rfl) ?_
            refine g_39_7 rfl ?_
            obtain ⟨hw3, H⟩ := H
            refine w_st (fun _ => rfl) ?_
            refine f_ld (wk_R hw3) rfl H.1 ?_
            replace H := H.2
            refine w_st (fun _ => rfl) ?_
            refine g_39_2 rfl ?_
            refine k_VK (as := []) rfl mg_116 rfl rfl (by decide) rfl rfl H (fun m92 v92 r_v92 H => ?_)
            refine f_add rfl ?_
            refine k_VV (as := [iv v16, iv (wr ((rd m76 (Int.toNat (rd m76 39 7)) (Int.toNat x3)) + v92))]) rfl mg_116 rfl rfl (by decide) rfl rfl H (fun m96 H => ?_)
            exact tl_99 m96  H
          · replace H := H.2 hq
            refine w_st (fun _ => rfl) ?_
            exact tl_99 m16  H
  exact lp_3 _ 0 m none (Nat.lt_succ_self _) (by unfold rg; decide) H0_3
/-- TippedCrates$Walks.offer(II)V -/
def P_117 (d : Nat) (m : Mm) (x1 : Int) (x2 : Int) (Q : Mm → Prop) : Prop :=
  (((Int.toNat (rd m 39 7)) = 44 ∨ (Int.toNat (rd m 39 7)) = 45) ∧ (((0 : Int) ≤ x1 ∧ x1 < 600) ∧ ((x2 < (rd m (Int.toNat (rd m 39 7)) (Int.toNat x1)) → (((Int.toNat (rd m 39 7)) = 44 ∨ (Int.toNat (rd m 39 7)) = 45) ∧ (((0 : Int) ≤ x1 ∧ x1 < 600) ∧ (∃ R_27 : Mm → Prop,
      (((rd m (Int.toNat (rd m 39 7)) (Int.toNat x1)) = 59401 → R_27 m) ∧
      (¬ (rd m (Int.toNat (rd m 39 7)) (Int.toNat x1)) = 59401 → CV d 118 [.ref 39, iv x1] m (fun m24 =>
        R_27 m24))) ∧
      (∀ (m_27 : Mm), R_27 m_27 →
      (((0 : Int) ≤ (rmI x2 100) ∧ (rmI x2 100) < 100) ∧ (∀ z3_36 : Int, z3_36 = (rd m_27 46 (Int.toNat (rmI x2 100))) → (((Int.toNat (rd m_27 39 7)) = 44 ∨ (Int.toNat (rd m_27 39 7)) = 45) ∧ (((0 : Int) ≤ x1 ∧ x1 < 600) ∧ (∀ m43 : Mm, m43 = wt m_27 (Int.toNat (rd m_27 39 7)) (Int.toNat x1) x2 → (((0 : Int) ≤ (rmI x2 100) ∧ (rmI x2 100) < 100) ∧ (∀ m53 : Mm, m53 = wt m43 46 (Int.toNat (rmI x2 100)) x1 → (((0 : Int) ≤ x1 ∧ x1 < 600) ∧ (∀ m60 : Mm, m60 = wt m53 47 (Int.toNat x1) (-1) → (((0 : Int) ≤ x1 ∧ x1 < 600) ∧ (∀ m67 : Mm, m67 = wt m60 48 (Int.toNat x1) z3_36 → (∃ R_80 : Mm → Prop,
        ((z3_36 = (-1) → R_80 m67) ∧
        (¬ z3_36 = (-1) → (((0 : Int) ≤ z3_36 ∧ z3_36 < 600) ∧ (∀ m79 : Mm, m79 = wt m67 47 (Int.toNat z3_36) x1 → R_80 m79)))) ∧
        (∀ (m_80 : Mm), R_80 m_80 →
        (∀ m87 : Mm, m87 = wt m_80 39 12 (wr ((rd m_80 39 12) + 1)) → Q m87))))))))))))))))))) ∧
    (¬ x2 < (rd m (Int.toNat (rd m 39 7)) (Int.toNat x1)) → Q m))))
set_option maxRecDepth 20000 in
theorem br_117 {d : Nat} {m : Mm} {x1 : Int} {x2 : Int} {Q : Mm → Prop} (r_x1 : rg x1) (r_x2 : rg x2) (H : P_117 d m x1 x2 Q) : CV (d + 1) 117 [.ref 39, iv x1, iv x2] m Q := by
  unfold P_117 at H
  refine CV_of rfl ?_
  show mm_W d mc_117 0 [some (.ref 39), some (iv x1), some (iv x2), none] [] (fm m) (XV Q)
  refine w_st (fun _ => rfl) ?_
  refine w_st (fun _ => rfl) ?_
  refine g_39_7 rfl ?_
  obtain ⟨hw1, H⟩ := H
  refine w_st (fun _ => rfl) ?_
  refine f_ld (wk_R hw1) rfl H.1 ?_
  replace H := H.2
  refine b_lt rfl r_x2 (rd_rg _ _ _) (fun hq => ?_) (fun hq => ?_)
  · replace H := H.1 hq
    refine w_st (fun _ => rfl) ?_
    refine g_39_7 rfl ?_
    obtain ⟨hw2, H⟩ := H
    refine w_st (fun _ => rfl) ?_
    refine f_ld (wk_R hw2) rfl H.1 ?_
    replace H := H.2
    refine f_int 59401 rfl rfl ?_
    obtain ⟨R_27, H, HJ_27⟩ := H
    have tl_27 : ∀ (m_27 : Mm), R_27 m_27 → mm_W d mc_117 27 [some (.ref 39), some (iv x1), some (iv x2), none] [] (fm m_27) (XV Q) := by
      intro m_27  hR
      have H := HJ_27 m_27  hR
      refine w_st (fun _ => rfl) ?_
      refine g_39_9 rfl ?_
      refine w_st (fun _ => rfl) ?_
      refine f_int 100 rfl rfl ?_
      refine f_rmI rfl (by unfold rg; decide) (by decide) ?_
      refine f_ld ir_46 rfl H.1 ?_
      replace H := H.2
      obtain ⟨z3_36, e_z3_36⟩ : ∃ q : Int, q = (rd m_27 46 (Int.toNat (rmI x2 100))) := ⟨_, rfl⟩
      have r_z3_36 : rg z3_36 := by rw [e_z3_36]; exact (rd_rg _ _ _)
      replace H := H z3_36 e_z3_36
      refine f_nm e_z3_36 ?_
      refine w_st (ls2 := [some (.ref 39), some (iv x1), some (iv x2), some (iv z3_36)]) (fun _ => rfl) ?_
      refine w_st (fun _ => rfl) ?_
      refine g_39_7 rfl ?_
      obtain ⟨hw3, H⟩ := H
      refine w_st (fun _ => rfl) ?_
      refine w_st (fun _ => rfl) ?_
      obtain ⟨m43, e_m43⟩ : ∃ q : Mm, q = wt m_27 (Int.toNat (rd m_27 39 7)) (Int.toNat x1) x2 := ⟨_, rfl⟩
      refine f_st (wk_R hw3) rfl H.1 e_m43 ?_
      replace H := H.2 m43 e_m43
      refine w_st (fun _ => rfl) ?_
      refine g_39_9 rfl ?_
      refine w_st (fun _ => rfl) ?_
      refine f_int 100 rfl rfl ?_
      refine f_rmI rfl (by unfold rg; decide) (by decide) ?_
      refine w_st (fun _ => rfl) ?_
      obtain ⟨m53, e_m53⟩ : ∃ q : Mm, q = wt m43 46 (Int.toNat (rmI x2 100)) x1 := ⟨_, rfl⟩
      refine f_st ir_46 rfl H.1 e_m53 ?_
      replace H := H.2 m53 e_m53
      refine w_st (fun _ => rfl) ?_
      refine g_39_10 rfl ?_
      refine w_st (fun _ => rfl) ?_
      refine f_int (-1) rfl rfl ?_
      obtain ⟨m60, e_m60⟩ : ∃ q : Mm, q = wt m53 47 (Int.toNat x1) (-1) := ⟨_, rfl⟩
      refine f_st ir_47 rfl H.1 e_m60 ?_
      replace H := H.2 m60 e_m60
      refine w_st (fun _ => rfl) ?_
      refine g_39_11 rfl ?_
      refine w_st (fun _ => rfl) ?_
      refine w_st (fun _ => rfl) ?_
      obtain ⟨m67, e_m67⟩ : ∃ q : Mm, q = wt m60 48 (Int.toNat x1) z3_36 := ⟨_, rfl⟩
      refine f_st ir_48 rfl H.1 e_m67 ?_
      replace H := H.2 m67 e_m67
      refine w_st (fun _ => rfl) ?_
      refine f_int (-1) rfl rfl ?_
      obtain ⟨R_80, H, HJ_80⟩ := H
      have tl_80 : ∀ (m_80 : Mm), R_80 m_80 → mm_W d mc_117 80 [some (.ref 39), some (iv x1), some (iv x2), some (iv z3_36)] [] (fm m_80) (XV Q) := by
        intro m_80  hR
        have H := HJ_80 m_80  hR
        refine w_st (fun _ => rfl) ?_
        refine w_st (fun _ => rfl) ?_
        refine g_39_12 rfl ?_
        refine f_int 1 rfl rfl ?_
        refine f_add rfl ?_
        obtain ⟨m87, e_m87⟩ : ∃ q : Mm, q = wt m_80 39 12 (wr ((rd m_80 39 12) + 1)) := ⟨_, rfl⟩
        replace H := H m87 e_m87
        refine p_39_12 rfl e_m87 ?_
        exact f_ret rfl H
      refine b_eq rfl r_z3_36 (by unfold rg; decide) (fun hq => ?_) (fun hq => ?_)
      · replace H := H.1 hq
        exact tl_80 m67  H
      · replace H := H.2 hq
        refine w_st (fun _ => rfl) ?_
        refine g_39_10 rfl ?_
        refine w_st (fun _ => rfl) ?_
        refine w_st (fun _ => rfl) ?_
        obtain ⟨m79, e_m79⟩ : ∃ q : Mm, q = wt m67 47 (Int.toNat z3_36) x1 := ⟨_, rfl⟩
        refine f_st ir_47 rfl H.1 e_m79 ?_
        replace H := H.2 m79 e_m79
        exact tl_80 m79  H
    refine b_eq rfl (rd_rg _ _ _) (by unfold rg; decide) (fun hq => ?_) (fun hq => ?_)
    · replace H := H.1 hq
      exact tl_27 m  H
    · replace H := H.2 hq
      refine w_st (fun _ => rfl) ?_
      refine w_st (fun _ => rfl) ?_
      refine k_VV (as := [iv x1]) rfl mg_117 rfl rfl (by decide) rfl rfl H (fun m24 H => ?_)
      exact tl_27 m24  H
  · replace H := H.2 hq
    exact f_ret rfl H
/-- TippedCrates$Walks.unlink(I)V -/
def P_118 (d : Nat) (m : Mm) (x1 : Int) (Q : Mm → Prop) : Prop :=
  (((0 : Int) ≤ x1 ∧ x1 < 600) ∧ (∃ R_50 : Mm → Prop,
    ((¬ (rd m 47 (Int.toNat x1)) = (-1) → (((0 : Int) ≤ x1 ∧ x1 < 600) ∧ (((0 : Int) ≤ x1 ∧ x1 < 600) ∧ (((0 : Int) ≤ (rd m 47 (Int.toNat x1)) ∧ (rd m 47 (Int.toNat x1)) < 600) ∧ (∀ m49 : Mm, m49 = wt m 48 (Int.toNat (rd m 47 (Int.toNat x1))) (rd m 48 (Int.toNat x1)) → R_50 m49))))) ∧
    ((rd m 47 (Int.toNat x1)) = (-1) → (((Int.toNat (rd m 39 7)) = 44 ∨ (Int.toNat (rd m 39 7)) = 45) ∧ (((0 : Int) ≤ x1 ∧ x1 < 600) ∧ (((0 : Int) ≤ x1 ∧ x1 < 600) ∧ (((0 : Int) ≤ (rmI (rd m (Int.toNat (rd m 39 7)) (Int.toNat x1)) 100) ∧ (rmI (rd m (Int.toNat (rd m 39 7)) (Int.toNat x1)) 100) < 100) ∧ (∀ m29 : Mm, m29 = wt m 46 (Int.toNat (rmI (rd m (Int.toNat (rd m 39 7)) (Int.toNat x1)) 100)) (rd m 48 (Int.toNat x1)) → R_50 m29))))))) ∧
    (∀ (m_50 : Mm), R_50 m_50 →
    (((0 : Int) ≤ x1 ∧ x1 < 600) ∧ (∃ R_77 : Mm → Prop,
      (((rd m_50 48 (Int.toNat x1)) = (-1) → R_77 m_50) ∧
      (¬ (rd m_50 48 (Int.toNat x1)) = (-1) → (((0 : Int) ≤ x1 ∧ x1 < 600) ∧ (((0 : Int) ≤ x1 ∧ x1 < 600) ∧ (((0 : Int) ≤ (rd m_50 48 (Int.toNat x1)) ∧ (rd m_50 48 (Int.toNat x1)) < 600) ∧ (∀ m76 : Mm, m76 = wt m_50 47 (Int.toNat (rd m_50 48 (Int.toNat x1))) (rd m_50 47 (Int.toNat x1)) → R_77 m76)))))) ∧
      (∀ (m_77 : Mm), R_77 m_77 →
      (∀ m84 : Mm, m84 = wt m_77 39 12 (wr ((rd m_77 39 12) - 1)) → Q m84)))))))
set_option maxRecDepth 20000 in
theorem br_118 {d : Nat} {m : Mm} {x1 : Int} {Q : Mm → Prop} (r_x1 : rg x1) (H : P_118 d m x1 Q) : CV (d + 1) 118 [.ref 39, iv x1] m Q := by
  unfold P_118 at H
  refine CV_of rfl ?_
  show mm_W d mc_118 0 [some (.ref 39), some (iv x1)] [] (fm m) (XV Q)
  refine w_st (fun _ => rfl) ?_
  refine g_39_10 rfl ?_
  refine w_st (fun _ => rfl) ?_
  refine f_ld ir_47 rfl H.1 ?_
  replace H := H.2
  refine f_int (-1) rfl rfl ?_
  obtain ⟨R_50, H, HJ_50⟩ := H
  have tl_50 : ∀ (m_50 : Mm), R_50 m_50 → mm_W d mc_118 50 [some (.ref 39), some (iv x1)] [] (fm m_50) (XV Q) := by
    intro m_50  hR
    have H := HJ_50 m_50  hR
    refine w_st (fun _ => rfl) ?_
    refine g_39_11 rfl ?_
    refine w_st (fun _ => rfl) ?_
    refine f_ld ir_48 rfl H.1 ?_
    replace H := H.2
    refine f_int (-1) rfl rfl ?_
    obtain ⟨R_77, H, HJ_77⟩ := H
    have tl_77 : ∀ (m_77 : Mm), R_77 m_77 → mm_W d mc_118 77 [some (.ref 39), some (iv x1)] [] (fm m_77) (XV Q) := by
      intro m_77  hR
      have H := HJ_77 m_77  hR
      refine w_st (fun _ => rfl) ?_
      refine w_st (fun _ => rfl) ?_
      refine g_39_12 rfl ?_
      refine f_int 1 rfl rfl ?_
      refine f_sub rfl ?_
      obtain ⟨m84, e_m84⟩ : ∃ q : Mm, q = wt m_77 39 12 (wr ((rd m_77 39 12) - 1)) := ⟨_, rfl⟩
      replace H := H m84 e_m84
      refine p_39_12 rfl e_m84 ?_
      exact f_ret rfl H
    refine b_eq rfl (rd_rg _ _ _) (by unfold rg; decide) (fun hq => ?_) (fun hq => ?_)
    · replace H := H.1 hq
      exact tl_77 m_50  H
    · replace H := H.2 hq
      refine w_st (fun _ => rfl) ?_
      refine g_39_10 rfl ?_
      refine w_st (fun _ => rfl) ?_
      refine g_39_11 rfl ?_
      refine w_st (fun _ => rfl) ?_
      refine f_ld ir_48 rfl H.1 ?_
      replace H := H.2
      refine w_st (fun _ => rfl) ?_
      refine g_39_10 rfl ?_
      refine w_st (fun _ => rfl) ?_
      refine f_ld ir_47 rfl H.1 ?_
      replace H := H.2
      obtain ⟨m76, e_m76⟩ : ∃ q : Mm, q = wt m_50 47 (Int.toNat (rd m_50 48 (Int.toNat x1))) (rd m_50 47 (Int.toNat x1)) := ⟨_, rfl⟩
      refine f_st ir_47 rfl H.1 e_m76 ?_
      replace H := H.2 m76 e_m76
      exact tl_77 m76  H
  refine b_ne rfl (rd_rg _ _ _) (by unfold rg; decide) (fun hq => ?_) (fun hq => ?_)
  · replace H := H.1 hq
    refine w_st (fun _ => rfl) ?_
    refine g_39_11 rfl ?_
    refine w_st (fun _ => rfl) ?_
    refine g_39_10 rfl ?_
    refine w_st (fun _ => rfl) ?_
    refine f_ld ir_47 rfl H.1 ?_
    replace H := H.2
    refine w_st (fun _ => rfl) ?_
    refine g_39_11 rfl ?_
    refine w_st (fun _ => rfl) ?_
    refine f_ld ir_48 rfl H.1 ?_
    replace H := H.2
    obtain ⟨m49, e_m49⟩ : ∃ q : Mm, q = wt m 48 (Int.toNat (rd m 47 (Int.toNat x1))) (rd m 48 (Int.toNat x1)) := ⟨_, rfl⟩
    refine f_st ir_48 rfl H.1 e_m49 ?_
    replace H := H.2 m49 e_m49
    exact tl_50 m49  H
  · replace H := H.2 hq
    refine w_st (fun _ => rfl) ?_
    refine g_39_9 rfl ?_
    refine w_st (fun _ => rfl) ?_
    refine g_39_7 rfl ?_
    obtain ⟨hw1, H⟩ := H
    refine w_st (fun _ => rfl) ?_
    refine f_ld (wk_R hw1) rfl H.1 ?_
    replace H := H.2
    refine f_int 100 rfl rfl ?_
    refine f_rmI rfl (by unfold rg; decide) (by decide) ?_
    refine w_st (fun _ => rfl) ?_
    refine g_39_11 rfl ?_
    refine w_st (fun _ => rfl) ?_
    refine f_ld ir_48 rfl H.1 ?_
    replace H := H.2
    obtain ⟨m29, e_m29⟩ : ∃ q : Mm, q = wt m 46 (Int.toNat (rmI (rd m (Int.toNat (rd m 39 7)) (Int.toNat x1)) 100)) (rd m 48 (Int.toNat x1)) := ⟨_, rfl⟩
    refine f_st ir_46 rfl H.1 e_m29 ?_
    replace H := H.2 m29 e_m29
    refine w_st (fun _ => rfl) ?_
    exact tl_50 m29  H
