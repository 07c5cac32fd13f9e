/-- the class's rows of what is told stay -/
def tlC (m m2 : Mm) : Prop := (∀ j, rd m2 50 j = rd m 50 j) ∧ (∀ j, rd m2 51 j = rd m 51 j) ∧ ∀ j, rd m2 52 j = rd m 52 j
theorem tl_r (m : Mm) : tlC m m := ⟨fun _ => rfl, fun _ => rfl, fun _ => rfl⟩
theorem tlC.trans {a b c : Mm} (h : tlC a b) (k : tlC b c) : tlC a c := ⟨fun j => (k.1 j).trans (h.1 j), fun j => (k.2.1 j).trans (h.2.1 j), fun j => (k.2.2 j).trans (h.2.2 j)⟩
theorem tl_gx {S : Nat → Nat → Bool} {m m2 : Mm} (g : GX S m m2) (h : ∀ j, S 50 j = false) (k : ∀ j, S 51 j = false) (l : ∀ j, S 52 j = false) : tlC m m2 := ⟨fun j => g.2.1 50 j (h j), fun j => g.2.1 51 j (k j), fun j => g.2.1 52 j (l j)⟩
theorem tl_wt {m m2 : Mm} {i j : Nat} {v : Int} (hi : ¬ (50 ≤ i ∧ i ≤ 52)) (e : m2 = wt m i j v) : tlC m m2 := ⟨fun b => by rw [e, rd_wt, if_neg (by omega)], fun b => by rw [e, rd_wt, if_neg (by omega)], fun b => by rw [e, rd_wt, if_neg (by omega)]⟩
/-- what 'tell' writes into the rows a, b, c at n -/
def tdS (m m2 : Mm) (a b c : Nat) (n x1 x2 x3 v : Int) : Prop := (v = -1 ∧ ∀ i j : Nat, (i = a ∨ i = b ∨ i = c) → rd m2 i j = rd m i j) ∨ (¬ v = -1 ∧ ∀ j : Nat, rd m2 a j = (if j = Int.toNat n then x1 else rd m a j) ∧ rd m2 b j = (if j = Int.toNat n then x2 else rd m b j) ∧ rd m2 c j = (if j = Int.toNat n then nz x3 else rd m c j))
theorem td_w {m m20 m30 m40 m48 : Mm} {a b c k2 k3 k4 p q : Nat} {n x1 x2 x3 v w : Int} (e20 : m20 = wt m a k2 x1) (e30 : m30 = wt m20 b k3 x2) (e40 : m40 = wt m30 c k4 (nz x3)) (e48 : m48 = wt m40 p q w) (hk : k2 = Int.toNat n ∧ k3 = Int.toNat n ∧ k4 = Int.toNat n) (ne : (¬ a = b ∧ ¬ b = c ∧ ¬ a = c) ∧ ¬ a = p ∧ ¬ b = p ∧ ¬ c = p) (r1 : rg x1) (r2 : rg x2) (hv : ¬ v = -1) : tdS m m48 a b c n x1 x2 x3 v := by
  obtain ⟨h2, h3, h4⟩ := hk
  subst h2
  subst h3
  subst h4
  refine Or.inr ⟨hv, fun j => ⟨?_, ?_, ?_⟩⟩
  · rw [e48, rd_wt, if_neg (fun w => ne.2.1 w.1), e40, rd_wt, if_neg (fun w => ne.1.2.2 w.1), e30, rd_wt, if_neg (fun w => ne.1.1 w.1), e20, rd_wt]
    by_cases d : j = Int.toNat n
    · rw [if_pos ⟨rfl, d⟩, if_pos d, wr_i r1]
    · rw [if_neg (fun w => d w.2), if_neg d]
  · rw [e48, rd_wt, if_neg (fun w => ne.2.2.1 w.1), e40, rd_wt, if_neg (fun w => ne.1.2.1 w.1), e30, rd_wt]
    by_cases d : j = Int.toNat n
    · rw [if_pos ⟨rfl, d⟩, if_pos d, wr_i r2]
    · rw [if_neg (fun w => d w.2), if_neg d, e20, rd_wt, if_neg (fun w => ne.1.1 w.1.symm)]
  · rw [e48, rd_wt, if_neg (fun w => ne.2.2.2 w.1), e40, rd_wt]
    by_cases d : j = Int.toNat n
    · rw [if_pos ⟨rfl, d⟩, if_pos d, wr_i (nz_rg _)]
    · rw [if_neg (fun w => d w.2), if_neg d, e30, rd_wt, if_neg (fun w => ne.1.2.1 w.1.symm), e20, rd_wt, if_neg (fun w => ne.1.2.2 w.1.symm)]
/-- the model's -/
def tlM (m m2 : Mm) : Prop := ∀ i j : Nat, (i = 334 ∨ i = 335 ∨ i = 336) → rd m2 i j = rd m i j
theorem tm_r (m : Mm) : tlM m m := fun _ _ _ => rfl
theorem tlM.trans {a b c : Mm} (h : tlM a b) (k : tlM b c) : tlM a c := fun i j q => (k i j q).trans (h i j q)
theorem tlM.wt {m m1 m2 : Mm} {i j : Nat} {v : Int} (h : tlM m m1) (hi : ¬ (334 ≤ i ∧ i ≤ 336)) (e : m2 = wt m1 i j v) : tlM m m2 := fun a b q => by
  rw [e, rd_wt, if_neg (by omega)]; exact h a b q
theorem tm_cp {m m2 : Mm} (h : cpR m m2) : tlM m m2 := fun i j q => h.2.2 i j (by omega) (by omega)
theorem tm_sR {m m2 : Mm} (g : GX sR m m2) : tlM m m2 := fun i j q => g.2.1 i j (sR_no (by omega))
theorem tm_rec {m m2 : Mm} (h : recP m m2) : tlM m m2 := fun i j q => h.1 i j (by omega)
theorem tm_un {m m2 : Mm} (h : unP m m2) : tlM m m2 := fun i j q => h.2.2 i j (by omega) (by omega)
theorem tm_ho {m m2 : Mm} {s : Nat} (h : hoP m m2 s) : tlM m m2 := fun i j q => h.2 i j (by omega) (by omega)
theorem tm_re {m m2 : Mm} {s : Nat} (h : reP m m2 s) : tlM m m2 := fun i j q => h.2.2 i j (by omega) (by omega)
theorem tm_kf {m m2 : Mm} (h : kfM m m2) : tlM m m2 := fun i j q => h.1 i j (by omega)
-- TippedCrates$Rows.addTold(IIZ)I
set_option maxRecDepth 20000 in
theorem fz_56 {m : Mm} {x1 : Int} {x2 : Int} {x3 : Int}  (T_m : Ty m) (r_x1 : rg x1) (r_x2 : rg x2) (r_x3 : rg x3) (p0 : 1 ≤ x1 ∧ x1 ≤ 5) : CK 1 56 [.ref 49, iv x1, iv x2, iv x3] m (fun m2 v => GX sRw m m2 ∧ (((True) ∧ ((rd m 49 0 < 20 ∧ v = rd m 49 0 ∧ rd m2 49 0 = rd m 49 0 + 1) ∨ (¬ rd m 49 0 < 20 ∧ v = -1 ∧ rd m2 49 0 = rd m 49 0))) ∧ (tdS m m2 50 51 52 (rd m 49 0) x1 x2 x3 v))) := by
  refine br_56 r_x1 r_x2 r_x3 ?_
  unfold P_56
  have g_m : GX sRw m m := ⟨T_m, fun _ _ _ => rfl, fun _ _ => rfl⟩
  have t1 := ty_49_0 T_m
  refine ⟨fun hq => ?_, fun hq => ?_⟩
  · skip
    refine ⟨⟨by omega, by omega⟩, ?_⟩
    intro m20 e_m20
    have g_m20 : GX sRw m m20 := by rw [e_m20]; exact GX.wt g_m (tw_50 T_m ⟨by omega, by omega⟩) (Eq.refl true)
    have e20 : rd m20 49 0 = rd m 49 0 := by rw [e_m20, rd_wt, if_neg (by omega)]
    have t2 := ty_49_0 g_m20.1
    refine ⟨⟨by omega, by omega⟩, ?_⟩
    intro m30 e_m30
    have g_m30 : GX sRw m m30 := by rw [e_m30]; exact GX.wt g_m20 (tw_51 g_m20.1 (by first | assumption | omega)) (Eq.refl true)
    have e30 : rd m30 49 0 = rd m20 49 0 := by rw [e_m30, rd_wt, if_neg (by omega)]
    have t3 := ty_49_0 g_m30.1
    refine ⟨⟨by omega, by omega⟩, ?_⟩
    intro m40 e_m40
    have g_m40 : GX sRw m m40 := by rw [e_m40]; exact GX.wt g_m30 (tw_52 g_m30.1 (nz_rg _)) (Eq.refl true)
    have e40 : rd m40 49 0 = rd m30 49 0 := by rw [e_m40, rd_wt, if_neg (by omega)]
    have t4 := ty_49_0 g_m40.1
    try have w5 : wr ((rd m40 49 0) + 1) = (rd m40 49 0) + 1 := wr_id (by omega) (by omega)
    intro m48 e_m48
    have g_m48 : GX sRw m m48 := by rw [e_m48]; exact GX.wt g_m40 (tw_49_0 g_m40.1 ⟨by omega, by omega⟩) (Eq.refl true)
    have t48 := ty_49_0 T_m
    have q40 : rd m40 49 0 = rd m 49 0 := by rw [e_m40, rd_wt, if_neg (by omega), e_m30, rd_wt, if_neg (by omega), e_m20, rd_wt, if_neg (by omega)]
    have q48 : rd m48 49 0 = rd m 49 0 + 1 := by rw [e_m48, rd_wt, if_pos ⟨rfl, rfl⟩, wr_i (wr_rg _), q40, wr_id (by omega) (by omega)]
    have t6 := ty_49_0 g_m48.1
    try have w7 : wr ((rd m48 49 0) - 1) = (rd m48 49 0) - 1 := wr_id (by omega) (by omega)
    exact ⟨g_m48, by exact ⟨by exact ⟨by first | trivial | omega | (refine ⟨?_, ?_⟩ <;> omega), by first | exact Or.inr ⟨by omega, rfl, rfl⟩ | exact Or.inl ⟨by omega, by rw [q48, wr_id (by omega) (by omega)]; omega, q48⟩⟩, by first | exact td_w e_m20 e_m30 e_m40 e_m48 (by omega) (by decide) r_x1 r_x2 (by rw [q48, wr_id (by omega) (by omega)]; omega) | exact Or.inl ⟨rfl, fun _ _ _ => rfl⟩⟩⟩
  · skip
    exact ⟨g_m, by exact ⟨by exact ⟨by first | trivial | omega | (refine ⟨?_, ?_⟩ <;> omega), by first | exact Or.inr ⟨by omega, rfl, rfl⟩ | exact Or.inl ⟨by omega, by rw [q48, wr_id (by omega) (by omega)]; omega, q48⟩⟩, by first | exact td_w e_m20 e_m30 e_m40 e_m48 (by omega) (by decide) r_x1 r_x2 (by rw [q48, wr_id (by omega) (by omega)]; omega) | exact Or.inl ⟨rfl, fun _ _ _ => rfl⟩⟩⟩
-- TippedCrates.back(I)I
set_option maxRecDepth 20000 in
theorem fz_123 {m0 m : Mm} {x1 : Int}  (g_m : CIX m0 m) (r_x1 : rg x1)  : CK 1 123 [.ref 0, iv x1] m (fun m2 v => CIX m0 m2 ∧ ((((((0 ≤ x1 ∧ x1 ≤ rd m 1 0 ∧ v = rd m 1 0 - x1 ∧ rd m2 1 0 = rd m 1 0 - x1) ∨ (¬ (0 ≤ x1 ∧ x1 ≤ rd m 1 0) ∧ v = -1 ∧ rd m2 1 0 = rd m 1 0)) ∧ (ks m m2)) ∧ (∀ A, cA m A → cA m2 A)) ∧ (tkC m m2)) ∧ (tlC m m2))) := by
  refine br_123 r_x1 ?_
  unfold P_123
  have t1 := ty_1_0 g_m.1
  refine ⟨¬ (0 ≤ x1 ∧ x1 ≤ rd m 1 0), ?_, ?_⟩
  · skip
    refine ⟨fun hq => ?_, fun hq => ?_⟩
    · skip
      (first | trivial | omega | (refine ⟨?_, ?_⟩ <;> omega))
    · skip
      have t1 := ty_1_0 g_m.1
      refine ⟨fun hq => ?_, fun hq => ?_⟩
      · skip
        try have w2 : wr ((rd m 1 0) - x1) = (rd m 1 0) - x1 := wr_id (by omega) (by omega)
        intro m27 e_m27
        have g_m27 : CIX m0 m27 := by rw [e_m27]; exact CI_10 g_m ⟨by omega, by omega⟩
        have n27 : rd m27 1 0 = rd m 1 0 - x1 := by rw [e_m27, rd_wt, if_pos ⟨rfl, rfl⟩, wr_i (wr_rg _), wr_id (by omega) (by omega)]
        have t3 := ty_1_0 g_m27.1
        exact ⟨g_m27, by exact ⟨by exact ⟨by exact ⟨by exact ⟨by first | trivial | omega | (refine ⟨?_, ?_⟩ <;> omega), by first | exact ks_wt e_m27 | exact ks_r _⟩, by first | (have u := e_m27; exact fun A h => cA_fr h (fun i j q => by rw [e_m27, rd_wt, if_neg (by unfold cAr at q; omega)])) | exact fun A h => h⟩, by first | exact tkc_wt (by omega) e_m27 | exact tk_r _⟩, by first | exact tl_wt (by omega) e_m27 | exact tl_r _⟩⟩
      · skip
        (first | trivial | omega | (refine ⟨?_, ?_⟩ <;> omega))
  · intro   hR_15
    exact ⟨g_m, by exact ⟨by exact ⟨by exact ⟨by exact ⟨by first | trivial | omega | (refine ⟨?_, ?_⟩ <;> omega), by first | exact ks_wt e_m27 | exact ks_r _⟩, by first | (have u := e_m27; exact fun A h => cA_fr h (fun i j q => by rw [e_m27, rd_wt, if_neg (by unfold cAr at q; omega)])) | exact fun A h => h⟩, by first | exact tkc_wt (by omega) e_m27 | exact tk_r _⟩, by first | exact tl_wt (by omega) e_m27 | exact tl_r _⟩⟩
-- TippedCrates.tip(II)I
set_option maxRecDepth 20000 in
theorem fz_129 {m0 m : Mm} {x1 : Int} {x2 : Int}  (g_m : CIX m0 m) (r_x1 : rg x1) (r_x2 : rg x2) (p0 : ∃ E, LSd m 11 E) : CK 5 129 [.ref 0, iv x1, iv x2] m (fun m2 v => CIX m0 m2 ∧ (((((rd m2 1 0 = rd m 1 0) ∧ (kp m m2)) ∧ (∀ A, cA m A → (((0 ≤ x1 ∧ x1 < A.Y 3) ∧ (0 ≤ x2 ∧ x2 ≤ 3) ∧ canN A.Y A.r x1 x2) ∧ cA m2 (noA A (tiN A.Y A.E A.r x1 x2)) ∧ v = fC (tiN A.Y A.E A.r x1 x2) x1) ∨ (¬ ((0 ≤ x1 ∧ x1 < A.Y 3) ∧ (0 ≤ x2 ∧ x2 ≤ 3) ∧ canN A.Y A.r x1 x2) ∧ cA m2 A ∧ v = -1))) ∧ (tkC m m2)) ∧ (tlC m m2))) := by
  refine br_129 r_x1 r_x2 ?_
  unfold P_129
  have ok := g_m.2.1.2.1
  have okn := ok.1
  have t73 := ty_7_3 g_m.1
  refine CK.mono (ct_162   g_m.1 r_x1) (by decide) ?_
  rintro m2 v2 r_v2 ⟨e_m2, h_m2⟩
  replace e_m2 := e_m2.symm
  subst e_m2
  refine ⟨fun m_31 => CIX m0 m_31 ∧ (((((rd m_31 1 0 = rd m 1 0) ∧ (kp m m_31)) ∧ (∀ A, cA m A → ¬ ((0 ≤ x1 ∧ x1 < A.Y 3) ∧ (0 ≤ x2 ∧ x2 ≤ 3) ∧ canN A.Y A.r x1 x2) ∧ cA m_31 A)) ∧ (tkC m m_31)) ∧ (tlC m m_31)), ?_, ?_⟩
  · skip
    refine ⟨fun hq => ?_, fun hq => ?_⟩
    · skip
      exact ⟨g_m, by exact ⟨by exact ⟨by exact ⟨by exact ⟨by first | trivial | omega | (refine ⟨?_, ?_⟩ <;> omega), by exact kp_r _⟩, by first | (have u := h_m25; exact fun A h => ⟨fun w => cu_t0 h w.1 w.2.1 h_m25 (by omega) w.2.2, h⟩) | exact fun A h => ⟨fun w => by have := h.1.1.2.2.2.1; omega, h⟩⟩, by exact tk_r _⟩, by exact tl_r _⟩⟩
    · skip
      refine CK.mono (ct_165   r_x2) (by decide) ?_
      rintro m9 v9 r_v9 ⟨e_m9, h_m9⟩
      replace e_m9 := e_m9.symm
      subst e_m9
      refine ⟨fun hq => ?_, fun hq => ?_⟩
      · skip
        exact ⟨g_m, by exact ⟨by exact ⟨by exact ⟨by exact ⟨by first | trivial | omega | (refine ⟨?_, ?_⟩ <;> omega), by exact kp_r _⟩, by first | (have u := h_m25; exact fun A h => ⟨fun w => cu_t0 h w.1 w.2.1 h_m25 (by omega) w.2.2, h⟩) | exact fun A h => ⟨fun w => by have := h.1.1.2.2.2.1; omega, h⟩⟩, by exact tk_r _⟩, by exact tl_r _⟩⟩
      · skip
        have fl := ok.2.1 (Int.toNat x1) (by omega)
        refine CK.mono (ct_1   g_m.1 st_274 r_x1 r_x2 (by omega) (by omega) fl) (by decide) ?_
        rintro m25 v25 r_v25 ⟨e_m25, h_m25⟩
        replace e_m25 := e_m25.symm
        subst e_m25
        refine ⟨fun hq => ?_, fun hq => ?_⟩
        · skip
          refine CV.mono (ct_21   g_m.1 st_274) (by decide) ?_
          rintro m41 ⟨hx_m41, h_m41⟩
          have g_m41 : CIX m0 m41 := CI_note g_m hx_m41 h_m41
          have c41 : rd m41 274 4 = rd m 274 4 := hx_m41.2.1 274 4 rfl
          have s41 : rd m41 1 0 = rd m 1 0 := hx_m41.2.1 1 0 rfl
          refine CV.mono (ey_7   g_m41.1 st_274 r_x1 r_x2 g_m41.2.1.2.1.2 (by omega) (by omega) g_m41.2.1.1.1 (lsE_P p0 hx_m41)) (by decide) ?_
          rintro m54 ⟨hx_m54, h_m54⟩
          have g_m54 : CIX m0 m54 := CI_sT g_m41 hx_m54 h_m54.1
          have s54 : rd m54 1 0 = rd m41 1 0 := hx_m54.2.1 1 0 (sT_no (by omega) (by omega) (by omega))
          have kp54 : kp m m54 := (kp_gx hx_m41 (fun j => rfl) (fun j => rfl) rfl rfl rfl).trans (kp_gx hx_m54 (fun j => sT_no (by omega) (by omega) (by omega)) (fun j => sT_no (by omega) (by omega) (by omega)) (sT_no (by omega) (by omega) (by omega)) (sT_no (by omega) (by omega) (by omega)) (sT_no (by omega) (by omega) (by omega)))
          have tk54 : tkC m m54 := (tk_gx hx_m41 (fun j => rfl) (fun j => rfl)).trans (tk_gx hx_m54 (fun j => sT_no (by omega) (by omega) (by omega)) (fun j => sT_no (by omega) (by omega) (by omega)))
          have tl54 : tlC m m54 := (tl_gx hx_m41 (fun j => rfl) (fun j => rfl) (fun j => rfl)).trans (tl_gx hx_m54 (fun j => sT_no (by omega) (by omega) (by omega)) (fun j => sT_no (by omega) (by omega) (by omega)) (fun j => sT_no (by omega) (by omega) (by omega)))
          refine ⟨⟨by omega, by omega⟩, ?_⟩
          have t1 := ty_sF g_m54.1 st_274 (Int.toNat x1)
          exact ⟨g_m54, by exact ⟨by exact ⟨by exact ⟨by exact ⟨by first | trivial | omega | (refine ⟨?_, ?_⟩ <;> omega), by first | exact kp54 | exact cR_31⟩, by first | (have u := h_m25; exact fun A h => Or.inl (cu_t1 h (by omega) (by omega) h_m25 (by omega) g_m.1 hx_m41 h_m41 hx_m54 h_m54.2)) | exact fun A h => Or.inr ⟨(dR_31 A h).1, (dR_31 A h).2, rfl⟩⟩, by first | exact tk54 | exact tR_31⟩, by first | exact tl54 | exact fR_31⟩⟩
        · skip
          exact ⟨g_m, by exact ⟨by exact ⟨by exact ⟨by exact ⟨by first | trivial | omega | (refine ⟨?_, ?_⟩ <;> omega), by exact kp_r _⟩, by first | (have u := h_m25; exact fun A h => ⟨fun w => cu_t0 h w.1 w.2.1 h_m25 (by omega) w.2.2, h⟩) | exact fun A h => ⟨fun w => by have := h.1.1.2.2.2.1; omega, h⟩⟩, by exact tk_r _⟩, by exact tl_r _⟩⟩
  · intro m_31  hR_31
    obtain ⟨g_m_31, hR_31⟩ := hR_31
    obtain ⟨hR_31, fR_31⟩ := hR_31
    obtain ⟨hR_31, tR_31⟩ := hR_31
    obtain ⟨hR_31, dR_31⟩ := hR_31
    obtain ⟨hR_31, cR_31⟩ := hR_31
    exact ⟨g_m_31, by exact ⟨by exact ⟨by exact ⟨by exact ⟨by first | trivial | omega | (refine ⟨?_, ?_⟩ <;> omega), by first | exact kp54 | exact cR_31⟩, by first | (have u := h_m25; exact fun A h => Or.inl (cu_t1 h (by omega) (by omega) h_m25 (by omega) g_m.1 hx_m41 h_m41 hx_m54 h_m54.2)) | exact fun A h => Or.inr ⟨(dR_31 A h).1, (dR_31 A h).2, rfl⟩⟩, by first | exact tk54 | exact tR_31⟩, by first | exact tl54 | exact fR_31⟩⟩
-- TippedCrates.paint(II)Z
set_option maxRecDepth 20000 in
theorem fz_130 {m0 m : Mm} {x1 : Int} {x2 : Int}  (g_m : CIX m0 m) (r_x1 : rg x1) (r_x2 : rg x2)  : CK 3 130 [.ref 0, iv x1, iv x2] m (fun m2 v => CIX m0 m2 ∧ (((((rd m2 1 0 = rd m 1 0) ∧ (kp m m2)) ∧ (∀ A, cA m A → (paP A x1 x2 ∧ cA m2 (noA A (ro_u A.r (Int.toNat x1) x2)) ∧ v = 1) ∨ (¬ paP A x1 x2 ∧ cA m2 A ∧ v = 0))) ∧ (tkC m m2)) ∧ (tlC m m2))) := by
  refine br_130 r_x1 r_x2 ?_
  unfold P_130
  have ok := g_m.2.1.2.1
  have okn := ok.1
  have t73 := ty_7_3 g_m.1
  have wb := wh_b (ty_7_0 g_m.1) (ty_7_1 g_m.1)
  refine CK.mono (ct_163   g_m.1 r_x1) (by decide) ?_
  rintro m2 v2 r_v2 ⟨e_m2, h_m2⟩
  replace e_m2 := e_m2.symm
  subst e_m2
  refine ⟨fun m_28 => CIX m0 m_28 ∧ (((((rd m_28 1 0 = rd m 1 0) ∧ (kp m m_28)) ∧ (∀ A, cA m A → ¬ paP A x1 x2 ∧ cA m_28 A)) ∧ (tkC m m_28)) ∧ (tlC m m_28)), ?_, ?_⟩
  · skip
    refine ⟨fun hq => ?_, fun hq => ?_⟩
    · skip
      exact ⟨g_m, by exact ⟨by exact ⟨by exact ⟨by exact ⟨by first | trivial | omega | (refine ⟨?_, ?_⟩ <;> omega), by exact kp_r _⟩, by first | (have u := h_m9; exact fun A h => ⟨fun w => by have := w.2.1; omega, h⟩) | (have u := h_m9; exact fun A h => ⟨fun w => pq_C h w (by assumption), h⟩) | exact fun A h => ⟨fun w => pf_C h w h_m2 (by omega), h⟩⟩, by exact tk_r _⟩, by exact tl_r _⟩⟩
    · skip
      refine CK.mono (ct_164   r_x2) (by decide) ?_
      rintro m9 v9 r_v9 ⟨e_m9, h_m9⟩
      replace e_m9 := e_m9.symm
      subst e_m9
      refine ⟨fun hq => ?_, fun hq => ?_⟩
      · skip
        exact ⟨g_m, by exact ⟨by exact ⟨by exact ⟨by exact ⟨by first | trivial | omega | (refine ⟨?_, ?_⟩ <;> omega), by exact kp_r _⟩, by first | (have u := h_m9; exact fun A h => ⟨fun w => by have := w.2.1; omega, h⟩) | (have u := h_m9; exact fun A h => ⟨fun w => pq_C h w (by assumption), h⟩) | exact fun A h => ⟨fun w => pf_C h w h_m2 (by omega), h⟩⟩, by exact tk_r _⟩, by exact tl_r _⟩⟩
      · skip
        refine ⟨⟨by omega, by omega⟩, ?_⟩
        have t1 := ty_sM g_m.1 st_274 (Int.toNat x1)
        refine ⟨fun hq => ?_, fun hq => ?_⟩
        · skip
          refine CK.mono (ct_31   r_x1) (by decide) ?_
          rintro m35 v35 r_v35 ⟨e_m35, h_m35⟩
          replace e_m35 := e_m35.symm
          subst e_m35
          refine ⟨fun m_53 => CIX m0 m_53 ∧ (((((rd m_53 1 0 = rd m 1 0) ∧ (kp m m_53)) ∧ (∀ A, cA m A → ¬ paP A x1 x2 ∧ cA m_53 A)) ∧ (tkC m m_53)) ∧ (tlC m m_53)), ?_, ?_⟩
          · skip
            refine ⟨fun hq => ?_, fun hq => ?_⟩
            · skip
              exact ⟨g_m, by exact ⟨by exact ⟨by exact ⟨by exact ⟨by first | trivial | omega | (refine ⟨?_, ?_⟩ <;> omega), by exact kp_r _⟩, by first | (have u := h_m46; exact fun A h => ⟨fun w => pt_C h w h_m46 (by assumption), h⟩) | exact fun A h => ⟨fun w => ps_C h w h_m35 (by omega), h⟩⟩, by exact tk_r _⟩, by exact tl_r _⟩⟩
            · skip
              refine CK.mono (ct_77   g_m.1 st_274 r_x1) (by decide) ?_
              rintro m46 v46 r_v46 ⟨e_m46, h_m46⟩
              replace e_m46 := e_m46.symm
              subst e_m46
              refine ⟨fun hq => ?_, fun hq => ?_⟩
              · skip
                refine CV.mono (ct_21   g_m.1 st_274) (by decide) ?_
                rintro m63 ⟨hx_m63, h_m63⟩
                have g_m63 : CIX m0 m63 := CI_note g_m hx_m63 h_m63
                have s63 : rd m63 1 0 = rd m 1 0 := hx_m63.2.1 1 0 rfl
                refine ⟨⟨by omega, by omega⟩, ?_⟩
                intro m75 e_m75
                have g_m75 : CIX m0 m75 := by rw [e_m75]; exact CI_paint g_m63 ⟨by omega, by omega⟩
                have s75 : rd m75 1 0 = rd m63 1 0 := by rw [e_m75, rd_wt, if_neg (by omega)]
                have kp75 : kp m m75 := (kp_gx hx_m63 (fun j => rfl) (fun j => rfl) rfl rfl rfl).trans (kp_wt (by omega) e_m75)
                have tk75 : tkC m m75 := (tk_gx hx_m63 (fun j => rfl) (fun j => rfl)).trans (tkc_wt (by omega) e_m75)
                have tl75 : tlC m m75 := (tl_gx hx_m63 (fun j => rfl) (fun j => rfl) (fun j => rfl)).trans (tl_wt (by omega) e_m75)
                exact ⟨g_m75, by exact ⟨by exact ⟨by exact ⟨by exact ⟨by first | trivial | omega | (refine ⟨?_, ?_⟩ <;> omega), by first | exact kp75 | exact cR_28 | exact cR_53⟩, by first | (have u := e_m75; exact fun A h => Or.inl (pa_C h h_m2 (by omega) (by omega) (by assumption) h_m35 (by omega) h_m46 (by omega) g_m.1 h_m63 e_m75 r_x2)) | (have u := dR_53; exact fun A h => Or.inr ⟨(dR_53 A h).1, (dR_53 A h).2, rfl⟩) | exact fun A h => Or.inr ⟨(dR_28 A h).1, (dR_28 A h).2, rfl⟩⟩, by first | exact tk75 | exact tR_28 | exact tR_53⟩, by first | exact tl75 | exact fR_28 | exact fR_53⟩⟩
              · skip
                exact ⟨g_m, by exact ⟨by exact ⟨by exact ⟨by exact ⟨by first | trivial | omega | (refine ⟨?_, ?_⟩ <;> omega), by exact kp_r _⟩, by first | (have u := h_m46; exact fun A h => ⟨fun w => pt_C h w h_m46 (by assumption), h⟩) | exact fun A h => ⟨fun w => ps_C h w h_m35 (by omega), h⟩⟩, by exact tk_r _⟩, by exact tl_r _⟩⟩
          · intro m_53  hR_53
            obtain ⟨g_m_53, hR_53⟩ := hR_53
            obtain ⟨hR_53, fR_53⟩ := hR_53
            obtain ⟨hR_53, tR_53⟩ := hR_53
            obtain ⟨hR_53, dR_53⟩ := hR_53
            obtain ⟨hR_53, cR_53⟩ := hR_53
            exact ⟨g_m_53, by exact ⟨by exact ⟨by exact ⟨by exact ⟨by first | trivial | omega | (refine ⟨?_, ?_⟩ <;> omega), by first | exact kp75 | exact cR_28 | exact cR_53⟩, by first | (have u := e_m75; exact fun A h => Or.inl (pa_C h h_m2 (by omega) (by omega) (by assumption) h_m35 (by omega) h_m46 (by omega) g_m.1 h_m63 e_m75 r_x2)) | (have u := dR_53; exact fun A h => Or.inr ⟨(dR_53 A h).1, (dR_53 A h).2, rfl⟩) | exact fun A h => Or.inr ⟨(dR_28 A h).1, (dR_28 A h).2, rfl⟩⟩, by first | exact tk75 | exact tR_28 | exact tR_53⟩, by first | exact tl75 | exact fR_28 | exact fR_53⟩⟩
        · skip
          exact ⟨g_m, by exact ⟨by exact ⟨by exact ⟨by exact ⟨by first | trivial | omega | (refine ⟨?_, ?_⟩ <;> omega), by exact kp_r _⟩, by first | (have u := h_m9; exact fun A h => ⟨fun w => by have := w.2.1; omega, h⟩) | (have u := h_m9; exact fun A h => ⟨fun w => pq_C h w (by assumption), h⟩) | exact fun A h => ⟨fun w => pf_C h w h_m2 (by omega), h⟩⟩, by exact tk_r _⟩, by exact tl_r _⟩⟩
  · intro m_28  hR_28
    obtain ⟨g_m_28, hR_28⟩ := hR_28
    obtain ⟨hR_28, fR_28⟩ := hR_28
    obtain ⟨hR_28, tR_28⟩ := hR_28
    obtain ⟨hR_28, dR_28⟩ := hR_28
    obtain ⟨hR_28, cR_28⟩ := hR_28
    exact ⟨g_m_28, by exact ⟨by exact ⟨by exact ⟨by exact ⟨by first | trivial | omega | (refine ⟨?_, ?_⟩ <;> omega), by first | exact kp75 | exact cR_28 | exact cR_53⟩, by first | (have u := e_m75; exact fun A h => Or.inl (pa_C h h_m2 (by omega) (by omega) (by assumption) h_m35 (by omega) h_m46 (by omega) g_m.1 h_m63 e_m75 r_x2)) | (have u := dR_53; exact fun A h => Or.inr ⟨(dR_53 A h).1, (dR_53 A h).2, rfl⟩) | exact fun A h => Or.inr ⟨(dR_28 A h).1, (dR_28 A h).2, rfl⟩⟩, by first | exact tk75 | exact tR_28 | exact tR_53⟩, by first | exact tl75 | exact fR_28 | exact fR_53⟩⟩
-- TippedCrates.minutes(I)I
set_option maxRecDepth 20000 in
theorem fz_131 {m0 m : Mm} {x1 : Int}  (g_m : CIX m0 m) (r_x1 : rg x1) (p0 : ∃ E, LSd m 11 E) : CK 7 131 [.ref 0, iv x1] m (fun m2 v => CIX m0 m2 ∧ (((((rd m2 1 0 = rd m 1 0) ∧ (kp m m2)) ∧ (∀ A, cA m A → (¬ (0 ≤ x1 ∧ x1 ≤ 60) ∧ cA m2 A ∧ v = -1) ∨ (x1 = 0 ∧ cA m2 A ∧ v = A.r 49) ∨ ((1 ≤ x1 ∧ x1 ≤ 60) ∧ cA m2 (noA A (goN A.Y A.E (A.Y 4) A.r (Int.toNat x1))) ∧ v = goN A.Y A.E (A.Y 4) A.r (Int.toNat x1) 49))) ∧ (tkC m m2)) ∧ (tlC m m2))) := by
  refine br_131 r_x1 ?_
  unfold P_131
  have ok := g_m.2.1.2.1
  have okn := ok.1
  have t73 := ty_7_3 g_m.1
  refine CK.mono (ct_166   r_x1 (by unfold rg; decide) (by unfold rg; decide)) (by decide) ?_
  rintro m4 v4 r_v4 ⟨e_m4, h_m4⟩
  replace e_m4 := e_m4.symm
  subst e_m4
  refine ⟨fun hq => ?_, fun hq => ?_⟩
  · skip
    refine ⟨fun m_46 => CIX m0 m_46 ∧ (((((rd m_46 1 0 = rd m 1 0) ∧ (kp m m_46)) ∧ ((x1 = 0 ∧ ∀ A, cA m A → cA m_46 A) ∨ ((1 ≤ x1 ∧ x1 ≤ 60) ∧ ∀ A, cA m A → cA m_46 (noA A (goN A.Y A.E (A.Y 4) A.r (Int.toNat x1)))))) ∧ (tkC m m_46)) ∧ (tlC m m_46)), ?_, ?_⟩
    · skip
      refine ⟨fun hq => ?_, fun hq => ?_⟩
      · skip
        exact ⟨g_m, by exact ⟨by exact ⟨by exact ⟨by exact ⟨by first | trivial | omega | (refine ⟨?_, ?_⟩ <;> omega), by first | exact kp43 | exact kp_r _⟩, by first | (have u := h_m43; exact Or.inr ⟨by omega, fun A h => cu_g h g_m.1 h_m24 hx_m43 h_m43.2⟩) | exact Or.inl ⟨by omega, fun A h => h⟩⟩, by first | exact tk43 | exact tk_r _⟩, by first | exact tl43 | exact tl_r _⟩⟩
      · skip
        refine CV.mono (ct_21   g_m.1 st_274) (by decide) ?_
        rintro m24 ⟨hx_m24, h_m24⟩
        have g_m24 : CIX m0 m24 := CI_note g_m hx_m24 h_m24
        have s24 : rd m24 1 0 = rd m 1 0 := hx_m24.2.1 1 0 rfl
        refine CV.mono (ey_8   g_m24.1 st_274 r_x1 (rd_rg _ _ _) g_m24.2.1.2.1.2 g_m24.2.1.1.1 (by omega) (lsE_P p0 hx_m24)) (by decide) ?_
        rintro m43 ⟨hx_m43, h_m43⟩
        have g_m43 : CIX m0 m43 := CI_sT g_m24 hx_m43 h_m43.1.1
        have s43 : rd m43 1 0 = rd m24 1 0 := hx_m43.2.1 1 0 (sT_no (by omega) (by omega) (by omega))
        have kp43 : kp m m43 := (kp_gx hx_m24 (fun j => rfl) (fun j => rfl) rfl rfl rfl).trans (kp_gx hx_m43 (fun j => sT_no (by omega) (by omega) (by omega)) (fun j => sT_no (by omega) (by omega) (by omega)) (sT_no (by omega) (by omega) (by omega)) (sT_no (by omega) (by omega) (by omega)) (sT_no (by omega) (by omega) (by omega)))
        have tk43 : tkC m m43 := (tk_gx hx_m24 (fun j => rfl) (fun j => rfl)).trans (tk_gx hx_m43 (fun j => sT_no (by omega) (by omega) (by omega)) (fun j => sT_no (by omega) (by omega) (by omega)))
        have tl43 : tlC m m43 := (tl_gx hx_m24 (fun j => rfl) (fun j => rfl) (fun j => rfl)).trans (tl_gx hx_m43 (fun j => sT_no (by omega) (by omega) (by omega)) (fun j => sT_no (by omega) (by omega) (by omega)) (fun j => sT_no (by omega) (by omega) (by omega)))
        exact ⟨g_m43, by exact ⟨by exact ⟨by exact ⟨by exact ⟨by first | trivial | omega | (refine ⟨?_, ?_⟩ <;> omega), by first | exact kp43 | exact kp_r _⟩, by first | (have u := h_m43; exact Or.inr ⟨by omega, fun A h => cu_g h g_m.1 h_m24 hx_m43 h_m43.2⟩) | exact Or.inl ⟨by omega, fun A h => h⟩⟩, by first | exact tk43 | exact tk_r _⟩, by first | exact tl43 | exact tl_r _⟩⟩
    · intro m_46  hR_46
      obtain ⟨g_m_46, hR_46⟩ := hR_46
      obtain ⟨hR_46, fR_46⟩ := hR_46
      obtain ⟨hR_46, tR_46⟩ := hR_46
      obtain ⟨hR_46, dR_46⟩ := hR_46
      obtain ⟨hR_46, cR_46⟩ := hR_46
      exact ⟨g_m_46, by exact ⟨by exact ⟨by exact ⟨by exact ⟨by first | trivial | omega | (refine ⟨?_, ?_⟩ <;> omega), by first | exact cR_46 | exact kp_r _⟩, by first | (have u := dR_46; exact fun A h => cu_g2 h dR_46) | exact fun A h => Or.inl ⟨by omega, h, rfl⟩⟩, by first | exact tR_46 | exact tk_r _⟩, by first | exact fR_46 | exact tl_r _⟩⟩
  · skip
    exact ⟨g_m, by exact ⟨by exact ⟨by exact ⟨by exact ⟨by first | trivial | omega | (refine ⟨?_, ?_⟩ <;> omega), by first | exact cR_46 | exact kp_r _⟩, by first | (have u := dR_46; exact fun A h => cu_g2 h dR_46) | exact fun A h => Or.inl ⟨by omega, h, rfl⟩⟩, by first | exact tR_46 | exact tk_r _⟩, by first | exact fR_46 | exact tl_r _⟩⟩
-- TippedCrates.undo()Z
set_option maxRecDepth 20000 in
theorem fz_132 {m0 m : Mm}   (g_m : CIX m0 m)   : CK 3 132 [.ref 0] m (fun m2 v => CIX m0 m2 ∧ (((((rd m2 1 0 = rd m 1 0) ∧ (kp m m2)) ∧ (∀ A, cA m A → (v = 0 ∧ A.n = 0 ∧ cA m2 A) ∨ (v = 1 ∧ ¬ A.n = 0 ∧ cA m2 (unB A)))) ∧ (tkC m m2)) ∧ (tlC m m2))) := by
  refine br_132  ?_
  unfold P_132
  refine CK.mono (ct_22   g_m.1 st_274) (by decide) ?_
  rintro m8 v8 r_v8 ⟨hx_m8, h_m8⟩
  have g_m8 : CIX m0 m8 := CI_back g_m hx_m8 h_m8
  have s8 : rd m8 1 0 = rd m 1 0 := hx_m8.2.1 1 0 rfl
  exact ⟨by omega, ⟨g_m8, by exact ⟨by exact ⟨by exact ⟨by exact ⟨by first | trivial | omega | (refine ⟨?_, ?_⟩ <;> omega), by exact (kp_gx hx_m8 (fun j => sPt_no (by omega) (by omega)) (fun j => sPt_no (by omega) (by omega)) (sPt_no (by omega) (by omega)) (sPt_no (by omega) (by omega)) (sPt_no (by omega) (by omega)))⟩, by exact fun A h => cu_un h g_m.1 hx_m8 h_m8⟩, by exact (tk_gx hx_m8 (fun j => sPt_no (by omega) (by omega)) (fun j => sPt_no (by omega) (by omega)))⟩, by exact (tl_gx hx_m8 (fun j => sPt_no (by omega) (by omega)) (fun j => sPt_no (by omega) (by omega)) (fun j => sPt_no (by omega) (by omega)))⟩⟩⟩
-- TippedCrates.restore(I)Z
set_option maxRecDepth 20000 in
theorem fz_156 {m0 m : Mm} {x1 : Int}  (g_m : CIX m0 m) (r_x1 : rg x1)  : CK 3 156 [.ref 0, iv x1] m (fun m2 v => CIX m0 m2 ∧ (((((rd m2 1 0 = rd m 1 0) ∧ (kp m m2 ∧ ((v = 1 ∧ (0 ≤ x1 ∧ x1 ≤ 2) ∧ ¬ rd m 58 (Int.toNat x1) = 0) ∨ (v = 0 ∧ ((x1 < 0 ∨ 2 < x1) ∨ rd m 58 (Int.toNat x1) = 0))))) ∧ (∀ A, cA m A → (v = 0 ∧ cA m2 A) ∨ (v = 1 ∧ (0 ≤ x1 ∧ x1 ≤ 2) ∧ ¬ rd m 58 (Int.toNat x1) = 0 ∧ cA m2 (reA A (Int.toNat x1))))) ∧ (tkC m m2)) ∧ (tlC m m2))) := by
  refine br_156 r_x1 ?_
  unfold P_156
  refine CK.mono (ct_166   r_x1 (by unfold rg; decide) (by unfold rg; decide)) (by decide) ?_
  rintro m3 v3 r_v3 ⟨e_m3, h_m3⟩
  replace e_m3 := e_m3.symm
  subst e_m3
  refine ⟨fun s0_29 m_29 => CIX m0 m_29 ∧ ((((((s0_29 = 0 ∨ s0_29 = 1) ∧ rd m_29 1 0 = rd m 1 0) ∧ (kp m m_29 ∧ ((s0_29 = 1 ∧ (0 ≤ x1 ∧ x1 ≤ 2) ∧ ¬ rd m 58 (Int.toNat x1) = 0) ∨ (s0_29 = 0 ∧ ((x1 < 0 ∨ 2 < x1) ∨ rd m 58 (Int.toNat x1) = 0))))) ∧ (∀ A, cA m A → (s0_29 = 0 ∧ cA m_29 A) ∨ (s0_29 = 1 ∧ (0 ≤ x1 ∧ x1 ≤ 2) ∧ ¬ rd m 58 (Int.toNat x1) = 0 ∧ cA m_29 (reA A (Int.toNat x1))))) ∧ (tkC m m_29)) ∧ (tlC m m_29)), ?_, ?_⟩
  · skip
    refine ⟨fun m_28 => CIX m0 m_28 ∧ (((((rd m_28 1 0 = rd m 1 0) ∧ (kp m m_28 ∧ ((x1 < 0 ∨ 2 < x1) ∨ rd m 58 (Int.toNat x1) = 0))) ∧ (∀ A, cA m A → cA m_28 A)) ∧ (tkC m m_28)) ∧ (tlC m m_28)), ?_, ?_⟩
    · skip
      refine ⟨fun hq => ?_, fun hq => ?_⟩
      · skip
        exact ⟨g_m, by exact ⟨by exact ⟨by exact ⟨by exact ⟨by first | trivial | omega | (refine ⟨?_, ?_⟩ <;> omega), by first | exact ⟨(kp_gx hx_m18 (fun j => sPt_no (by omega) (by omega)) (fun j => sPt_no (by omega) (by omega)) (sPt_no (by omega) (by omega)) (sPt_no (by omega) (by omega)) (sPt_no (by omega) (by omega))), by omega⟩ | exact ⟨kp_r _, by omega⟩⟩, by first | (have u := h_m18; exact fun A h => cu_r0 h h_m18 (by omega)) | exact fun A h => h⟩, by first | exact (tk_gx hx_m18 (fun j => sPt_no (by omega) (by omega)) (fun j => sPt_no (by omega) (by omega))) | exact tk_r _⟩, by first | exact (tl_gx hx_m18 (fun j => sPt_no (by omega) (by omega)) (fun j => sPt_no (by omega) (by omega)) (fun j => sPt_no (by omega) (by omega))) | exact tl_r _⟩⟩
      · skip
        refine CK.mono (ct_24   g_m.1 st_274 r_x1 (by omega)) (by decide) ?_
        rintro m18 v18 r_v18 ⟨hx_m18, h_m18⟩
        have g_m18 : CIX m0 m18 := CI_goon g_m hx_m18 h_m18 ⟨by omega, by omega⟩
        have s18 : rd m18 1 0 = rd m 1 0 := hx_m18.2.1 1 0 rfl
        refine ⟨fun hq => ?_, fun hq => ?_⟩
        · skip
          exact ⟨g_m18, by exact ⟨by exact ⟨by exact ⟨by exact ⟨by first | trivial | omega | (refine ⟨?_, ?_⟩ <;> omega), by first | exact ⟨(kp_gx hx_m18 (fun j => sPt_no (by omega) (by omega)) (fun j => sPt_no (by omega) (by omega)) (sPt_no (by omega) (by omega)) (sPt_no (by omega) (by omega)) (sPt_no (by omega) (by omega))), by omega⟩ | exact ⟨kp_r _, by omega⟩⟩, by first | (have u := h_m18; exact fun A h => cu_r0 h h_m18 (by omega)) | exact fun A h => h⟩, by first | exact (tk_gx hx_m18 (fun j => sPt_no (by omega) (by omega)) (fun j => sPt_no (by omega) (by omega))) | exact tk_r _⟩, by first | exact (tl_gx hx_m18 (fun j => sPt_no (by omega) (by omega)) (fun j => sPt_no (by omega) (by omega)) (fun j => sPt_no (by omega) (by omega))) | exact tl_r _⟩⟩
        · skip
          exact ⟨g_m18, by exact ⟨by exact ⟨by exact ⟨by exact ⟨by first | trivial | omega | (refine ⟨?_, ?_⟩ <;> omega), by first | exact ⟨(kp_gx hx_m18 (fun j => sPt_no (by omega) (by omega)) (fun j => sPt_no (by omega) (by omega)) (sPt_no (by omega) (by omega)) (sPt_no (by omega) (by omega)) (sPt_no (by omega) (by omega))), Or.inl ⟨rfl, by omega, by omega⟩⟩ | exact ⟨cR_28.1, Or.inr ⟨rfl, cR_28.2⟩⟩⟩, by first | (have u := h_m18; exact fun A h => Or.inr (cu_r1 h (by omega) hx_m18 h_m18 (by omega))) | exact fun A h => Or.inl ⟨rfl, dR_28 A h⟩⟩, by first | exact (tk_gx hx_m18 (fun j => sPt_no (by omega) (by omega)) (fun j => sPt_no (by omega) (by omega))) | exact tR_28⟩, by first | exact (tl_gx hx_m18 (fun j => sPt_no (by omega) (by omega)) (fun j => sPt_no (by omega) (by omega)) (fun j => sPt_no (by omega) (by omega))) | exact fR_28⟩⟩
    · intro m_28  hR_28
      obtain ⟨g_m_28, hR_28⟩ := hR_28
      obtain ⟨hR_28, fR_28⟩ := hR_28
      obtain ⟨hR_28, tR_28⟩ := hR_28
      obtain ⟨hR_28, dR_28⟩ := hR_28
      obtain ⟨hR_28, cR_28⟩ := hR_28
      exact ⟨g_m_28, by exact ⟨by exact ⟨by exact ⟨by exact ⟨by first | trivial | omega | (refine ⟨?_, ?_⟩ <;> omega), by first | exact ⟨(kp_gx hx_m18 (fun j => sPt_no (by omega) (by omega)) (fun j => sPt_no (by omega) (by omega)) (sPt_no (by omega) (by omega)) (sPt_no (by omega) (by omega)) (sPt_no (by omega) (by omega))), Or.inl ⟨rfl, by omega, by omega⟩⟩ | exact ⟨cR_28.1, Or.inr ⟨rfl, cR_28.2⟩⟩⟩, by first | (have u := h_m18; exact fun A h => Or.inr (cu_r1 h (by omega) hx_m18 h_m18 (by omega))) | exact fun A h => Or.inl ⟨rfl, dR_28 A h⟩⟩, by first | exact (tk_gx hx_m18 (fun j => sPt_no (by omega) (by omega)) (fun j => sPt_no (by omega) (by omega))) | exact tR_28⟩, by first | exact (tl_gx hx_m18 (fun j => sPt_no (by omega) (by omega)) (fun j => sPt_no (by omega) (by omega)) (fun j => sPt_no (by omega) (by omega))) | exact fR_28⟩⟩
  · intro s0_29 m_29 r_s0_29 hR_29
    obtain ⟨g_m_29, hR_29⟩ := hR_29
    obtain ⟨hR_29, fR_29⟩ := hR_29
    obtain ⟨hR_29, tR_29⟩ := hR_29
    obtain ⟨hR_29, dR_29⟩ := hR_29
    obtain ⟨hR_29, cR_29⟩ := hR_29
    exact ⟨by omega, ⟨g_m_29, by exact ⟨by exact ⟨by exact ⟨by exact ⟨by first | trivial | omega | (refine ⟨?_, ?_⟩ <;> omega), by exact cR_29⟩, by exact dR_29⟩, by exact tR_29⟩, by exact fR_29⟩⟩⟩
-- TippedCrates.hold(I)Z
set_option maxRecDepth 20000 in
theorem fz_155 {m0 m : Mm} {x1 : Int}  (g_m : CIX m0 m) (r_x1 : rg x1)  : CK 3 155 [.ref 0, iv x1] m (fun m2 v => CIX m0 m2 ∧ (((((rd m2 1 0 = rd m 1 0 ∧ ((v = 1 ∧ 0 ≤ x1 ∧ x1 ≤ 2) ∨ (v = 0 ∧ (x1 < 0 ∨ 2 < x1)))) ∧ (kq m m2 ∧ (((0 ≤ x1 ∧ x1 ≤ 2) ∧ rd m2 58 (Int.toNat x1) = 1 ∧ ∀ j : Nat, ¬ j = Int.toNat x1 → rd m2 58 j = rd m 58 j) ∨ ((x1 < 0 ∨ 2 < x1) ∧ ∀ j, rd m2 58 j = rd m 58 j)))) ∧ (∀ A, cA m A → ((0 ≤ x1 ∧ x1 ≤ 2) → cA m2 (hoA A (Int.toNat x1))) ∧ (¬ (0 ≤ x1 ∧ x1 ≤ 2) → cA m2 A))) ∧ (tkC m m2)) ∧ (tlC m m2))) := by
  refine br_155 r_x1 ?_
  unfold P_155
  refine CK.mono (ct_166   r_x1 (by unfold rg; decide) (by unfold rg; decide)) (by decide) ?_
  rintro m3 v3 r_v3 ⟨e_m3, h_m3⟩
  replace e_m3 := e_m3.symm
  subst e_m3
  refine ⟨fun hq => ?_, fun hq => ?_⟩
  · skip
    refine CV.mono (ct_23   g_m.1 st_274 r_x1 (by omega)) (by decide) ?_
    rintro m20 ⟨hx_m20, h_m20⟩
    have g_m20 : CIX m0 m20 := CI_keep g_m hx_m20 h_m20 ⟨by omega, by omega⟩
    have s20 : rd m20 1 0 = rd m 1 0 := hx_m20.2.1 1 0 rfl
    exact ⟨g_m20, by exact ⟨by exact ⟨by exact ⟨by exact ⟨by first | trivial | omega | (refine ⟨?_, ?_⟩ <;> omega), by first | exact ⟨kq_gx hx_m20 (fun j => rfl) rfl rfl rfl, Or.inl ⟨by omega, h_m20.2.1, h_m20.2.2.2⟩⟩ | exact ⟨kq_r _, Or.inr ⟨by omega, fun _ => rfl⟩⟩⟩, by first | (have u := h_m20; exact fun A h => ⟨fun _ => cA_ho h (by omega) h_m20, fun w => by omega⟩) | exact fun A h => ⟨fun w => by omega, fun _ => h⟩⟩, by first | exact (tk_gx hx_m20 (fun j => rfl) (fun j => rfl)) | exact tk_r _⟩, by first | exact (tl_gx hx_m20 (fun j => rfl) (fun j => rfl) (fun j => rfl)) | exact tl_r _⟩⟩
  · skip
    exact ⟨g_m, by exact ⟨by exact ⟨by exact ⟨by exact ⟨by first | trivial | omega | (refine ⟨?_, ?_⟩ <;> omega), by first | exact ⟨kq_gx hx_m20 (fun j => rfl) rfl rfl rfl, Or.inl ⟨by omega, h_m20.2.1, h_m20.2.2.2⟩⟩ | exact ⟨kq_r _, Or.inr ⟨by omega, fun _ => rfl⟩⟩⟩, by first | (have u := h_m20; exact fun A h => ⟨fun _ => cA_ho h (by omega) h_m20, fun w => by omega⟩) | exact fun A h => ⟨fun w => by omega, fun _ => h⟩⟩, by first | exact (tk_gx hx_m20 (fun j => rfl) (fun j => rfl)) | exact tk_r _⟩, by first | exact (tl_gx hx_m20 (fun j => rfl) (fun j => rfl) (fun j => rfl)) | exact tl_r _⟩⟩
-- TippedCrates.tell(IIZ)I
set_option maxRecDepth 20000 in
theorem fz_151 {m0 m : Mm} {x1 : Int} {x2 : Int} {x3 : Int}  (g_m : CIX m0 m) (r_x1 : rg x1) (r_x2 : rg x2) (r_x3 : rg x3)  : CK 3 151 [.ref 0, iv x1, iv x2, iv x3] m (fun m2 v => CIX m0 m2 ∧ (((((rd m2 1 0 = rd m 1 0) ∧ (kr m m2 ∧ (((1 ≤ x1 ∧ x1 ≤ 5) ∧ (0 ≤ x2 ∧ x2 ≤ 9) ∧ rd m 49 0 < 20 ∧ v = rd m 49 0 ∧ rd m2 49 0 = rd m 49 0 + 1) ∨ (¬ ((1 ≤ x1 ∧ x1 ≤ 5) ∧ (0 ≤ x2 ∧ x2 ≤ 9) ∧ rd m 49 0 < 20) ∧ v = -1 ∧ rd m2 49 0 = rd m 49 0)))) ∧ (∀ A, cA m A → cA m2 A)) ∧ (tkC m m2)) ∧ (tdS m m2 50 51 52 (rd m 49 0) x1 x2 x3 v))) := by
  refine br_151 r_x1 r_x2 r_x3 ?_
  unfold P_151
  refine CK.mono (ct_166   r_x1 (by unfold rg; decide) (by unfold rg; decide)) (by decide) ?_
  rintro m3 v3 r_v3 ⟨e_m3, h_m3⟩
  replace e_m3 := e_m3.symm
  subst e_m3
  refine ⟨fun m_28 => CIX m0 m_28 ∧ (((((rd m_28 1 0 = rd m 1 0) ∧ (kr m m_28 ∧ ¬ ((1 ≤ x1 ∧ x1 ≤ 5) ∧ (0 ≤ x2 ∧ x2 ≤ 9) ∧ rd m 49 0 < 20) ∧ rd m_28 49 0 = rd m 49 0)) ∧ (∀ A, cA m A → cA m_28 A)) ∧ (tkC m m_28)) ∧ (m_28 = m)), ?_, ?_⟩
  · skip
    refine ⟨fun hq => ?_, fun hq => ?_⟩
    · skip
      exact ⟨g_m, by exact ⟨by exact ⟨by exact ⟨by exact ⟨by first | trivial | omega | (refine ⟨?_, ?_⟩ <;> omega), by exact ⟨kr_r _, by omega, rfl⟩⟩, by exact fun A h => h⟩, by exact tk_r _⟩, by exact rfl⟩⟩
    · skip
      refine CK.mono (ct_164   r_x2) (by decide) ?_
      rintro m10 v10 r_v10 ⟨e_m10, h_m10⟩
      replace e_m10 := e_m10.symm
      subst e_m10
      refine ⟨fun hq => ?_, fun hq => ?_⟩
      · skip
        exact ⟨g_m, by exact ⟨by exact ⟨by exact ⟨by exact ⟨by first | trivial | omega | (refine ⟨?_, ?_⟩ <;> omega), by exact ⟨kr_r _, by omega, rfl⟩⟩, by exact fun A h => h⟩, by exact tk_r _⟩, by exact rfl⟩⟩
      · skip
        have t1 := ty_49_0 g_m.1
        refine ⟨fun hq => ?_, fun hq => ?_⟩
        · skip
          refine CK.mono (fz_56   g_m.1 r_x1 r_x2 r_x3 (by omega)) (by decide) ?_
          rintro m37 v37 r_v37 ⟨hx_m37, h_m37⟩
          have g_m37 : CIX m0 m37 := CI_rw g_m hx_m37
          have s37 : rd m37 1 0 = rd m 1 0 := hx_m37.2.1 1 0 rfl
          exact ⟨g_m37, by exact ⟨by exact ⟨by exact ⟨by exact ⟨by first | trivial | omega | (refine ⟨?_, ?_⟩ <;> omega), by first | exact ⟨kr_gx hx_m37 (fun j => rfl) (fun j => rfl) rfl rfl, Or.inl ⟨by omega, by omega, by omega, by omega, by omega⟩⟩ | exact ⟨cR_28.1, Or.inr ⟨cR_28.2.1, rfl, cR_28.2.2⟩⟩⟩, by first | (have u := hx_m37; exact fun A h => cA_fr h (fun i j q => hx_m37.2.1 i j (sRw_no (by unfold cAr at q; omega)))) | exact dR_28⟩, by first | exact (tk_gx hx_m37 (fun j => rfl) (fun j => rfl)) | exact tR_28⟩, by first | exact h_m37.2 | exact Or.inl ⟨rfl, fun _ _ _ => by rw [fR_28]⟩⟩⟩
        · skip
          exact ⟨g_m, by exact ⟨by exact ⟨by exact ⟨by exact ⟨by first | trivial | omega | (refine ⟨?_, ?_⟩ <;> omega), by exact ⟨kr_r _, by omega, rfl⟩⟩, by exact fun A h => h⟩, by exact tk_r _⟩, by exact rfl⟩⟩
  · intro m_28  hR_28
    obtain ⟨g_m_28, hR_28⟩ := hR_28
    obtain ⟨hR_28, fR_28⟩ := hR_28
    obtain ⟨hR_28, tR_28⟩ := hR_28
    obtain ⟨hR_28, dR_28⟩ := hR_28
    obtain ⟨hR_28, cR_28⟩ := hR_28
    exact ⟨g_m_28, by exact ⟨by exact ⟨by exact ⟨by exact ⟨by first | trivial | omega | (refine ⟨?_, ?_⟩ <;> omega), by first | exact ⟨kr_gx hx_m37 (fun j => rfl) (fun j => rfl) rfl rfl, Or.inl ⟨by omega, by omega, by omega, by omega, by omega⟩⟩ | exact ⟨cR_28.1, Or.inr ⟨cR_28.2.1, rfl, cR_28.2.2⟩⟩⟩, by first | (have u := hx_m37; exact fun A h => cA_fr h (fun i j q => hx_m37.2.1 i j (sRw_no (by unfold cAr at q; omega)))) | exact dR_28⟩, by first | exact (tk_gx hx_m37 (fun j => rfl) (fun j => rfl)) | exact tR_28⟩, by first | exact h_m37.2 | exact Or.inl ⟨rfl, fun _ _ _ => by rw [fR_28]⟩⟩⟩
set_option maxRecDepth 20000 in
theorem fz_124 {m0 m : Mm} (g_m : CIX m0 m) : CK 41 124 [.ref 0] m (fun m2 v => CIX m0 m2 ∧ (rd m2 1 0 = 0) ∧ rdE m m2 v ∧ rdN m m2 v ∧ tkC m m2 ∧ (¬ v = 0 → tlC m m2)) := by
  refine br_124 ?_
  unfold P_124
  refine CK.mono (ez_34 (m0 := m) ⟨g_m.1, fun _ _ _ => rfl, fun _ _ _ _ => rfl⟩ g_m.2.1.1.2.2) (by decide) ?_
  rintro m4 v4 r_v4 ⟨q4, ⟨⟨⟨lt4, h4⟩, tk4, an4⟩, ls4⟩, pd4⟩
  intro m13 e13
  have T13 : Ty m13 := by rw [e13]; exact tw_1_0 q4.1 ⟨by omega, by omega⟩
  have e13' : ∀ i j, ¬ i = 1 → rd m13 i j = rd m4 i j := fun i j h => by rw [e13, rd_wt, if_neg (by omega)]
  have l13 : ∀ i j, ld m13 i j = ld m4 i j := fun i j => by rw [e13]; rfl
  have z13 : rd m13 1 0 = 0 := by rw [e13, rd_wt, if_pos ⟨rfl, rfl⟩]; rfl
  have lt13 : lwOk m13 20 ∧ tkOk m13 := ⟨lwOk_fr lt4.1 (e13' 20 4 (by omega)) (fun j => e13' 22 j (by omega)), by rw [e13]; exact tk_wt lt4.2 (by omega)⟩
  have f4 : ∀ i j, 30 ≤ i → rd m13 i j = rd m i j := fun i j h => (e13' i j (by omega)).trans (q4.2.1 i j (sQ_hi h))
  have fl4 : ∀ i j, 30 ≤ i → ld m13 i j = ld m i j := fun i j h => (l13 i j).trans (q4.2.2 i j (by omega) (by omega))
  have x13 : tX m13 = tX m4 := tX_eq (fun j => e13' 2 j (by omega)) (fun j => e13' 3 j (by omega)) (fun j => l13 4 j)
  have tk13 : tksC (uB m 5) (rd m 1 0) (ld m 6) m13 := tks_X tk4 x13
  have b13 : ∀ j, rd m13 5 j = rd m 5 j := fun j => (e13' 5 j (by omega)).trans (q4.2.1 5 j rfl)
  have w13 : ∀ j, ld m13 6 j = ld m 6 j := fun j => (l13 6 j).trans (q4.2.2 6 j (by decide) (by decide))
  have an13 : ansP (tX m13) (rd m 1 0) v4 (rd m13 19 0) := by rw [x13, e13' 19 0 (by omega)]; exact an4
  refine ⟨fun m_46 => CIX m0 m_46 ∧ rd m_46 1 0 = 0 ∧ rdE m m_46 v4 ∧ rdN m m_46 v4 ∧ tkC m m_46 ∧ (¬ v4 = 0 → tlC m m_46), ?_, fun m_46 h => h⟩
  refine ⟨fun hq => ?_, fun hq => ?_⟩
  · have pl : ∀ i j, (7 ≤ i ∧ i ≤ 18) → rd m13 i j = rd m i j := fun i j h => by
      rcases h4 with w | w
      · exact (e13' i j (by omega)).trans (w.2 i j h)
      · exact absurd w.1 hq
    refine ⟨⟨T13, ?_, fun i j h => ⟨(f4 i j (by omega)).trans (g_m.2.2 i j h).1, (fl4 i j (by omega)).trans (g_m.2.2 i j h).2⟩⟩, z13, ⟨tk13, an13, b13, w13, fun z => absurd z hq, fun _ => ⟨f4 49 0 (by omega), fun s => f4 58 s (by omega)⟩⟩, ⟨fun z => absurd z hq, fun _ A hA => cA_fr hA (fun i j w => by
        by_cases w2 : i ≤ 18
        · exact pl i j (by unfold cAr at w; omega)
        · exact f4 i j (by unfold cAr at w; omega))⟩, ⟨fun j => f4 32 j (by omega), fun j => f4 33 j (by omega)⟩, fun _ => ⟨fun j => f4 50 j (by omega), fun j => f4 51 j (by omega), fun j => f4 52 j (by omega)⟩⟩
    have c := g_m.2.1
    refine ⟨⟨lwOk_fr c.1.1 (pl 11 4 (by omega)) (fun j => pl 13 j (by omega)), lt13⟩, ?_, ?_, ?_⟩
    · exact okS_fr c.2.1 (pl 7 3 (by omega)) (fun i j h => f4 i j (by omega))
    · intro k hk
      have e0 := f4 55 0 (by omega)
      have e4 := f4 55 4 (by omega)
      have t4 := ty_55_4 g_m.1
      unfold ringC
      rw [e4]
      exact okS_fr (c.2.2.1 k (by omega)) (pl 7 3 (by omega)) (fun i j h => f4 i j (by omega))
    · intro s hs hh
      rw [f4 58 s (by omega)] at hh
      exact okS_fr (c.2.2.2 s hs hh) (pl 7 3 (by omega)) (fun i j h => f4 i j (by omega))
  · have po : planOk m13 := by
      rcases h4 with w | w
      · exact absurd hq w.1
      · have p := w.2
        refine ⟨lwOk_fr p.1 (e13' 11 4 (by omega)) (fun j => e13' 13 j (by omega)), fun c hc => ?_, fun k hk => ?_⟩
        · rw [e13' 7 3 (by omega)] at hc
          rw [e13' 9 c (by omega)]
          exact p.2.1 c hc
        · rw [e13' 7 3 (by omega)] at hk
          rw [e13' 10 k (by omega)]
          exact p.2.2 k hk
    refine CV.mono (ey_75 T13 st_274) (by decide) ?_
    rintro m28 ⟨x28, h28, k28⟩
    have s28 : ∀ i j, ¬ (274 ≤ i ∧ i ≤ 278) → rd m28 i j = rd m13 i j := fun i j h => x28.2.1 i j (sA_no h)
    refine CV.mono (ct_20 x28.1) (by decide) ?_
    rintro m35 ⟨x35, h35⟩
    have s35 : ∀ i j, ¬ i = 55 → ¬ i = 58 → rd m35 i j = rd m28 i j := fun i j h1 h2 => x35.2.1 i j (by unfold sPc; rw [nb_ne h1, nb_ne h2]; rfl)
    refine CK.mono (cx_57 x35.1) (by decide) ?_
    rintro m42 v42 r42 ⟨x42, h42⟩
    have s42 : ∀ i j, ¬ i = 49 → ¬ i = 50 → ¬ i = 51 → ¬ i = 52 → rd m42 i j = rd m35 i j := fun i j h1 h2 h3 h4 => x42.2.1 i j (by unfold sRw; rw [nb_ne h1, nb_ne h2, nb_ne h3, nb_ne h4]; rfl)
    have a : ∀ i j, ¬ (49 ≤ i ∧ i ≤ 52) → ¬ i = 55 → ¬ i = 58 → ¬ (274 ≤ i ∧ i ≤ 278) → rd m42 i j = rd m13 i j := fun i j h1 h2 h3 h4 => (s42 i j (by omega) (by omega) (by omega) (by omega)).trans ((s35 i j h2 h3).trans (s28 i j h4))
    have b : ∀ i j, ld m42 i j = ld m13 i j := fun i j => (x42.2.2 i j).trans ((x35.2.2 i j).trans (x28.2.2 i j))
    have d : ∀ i j, (274 ≤ i ∧ i ≤ 278) → rd m42 i j = rd m28 i j := fun i j h => (s42 i j (by omega) (by omega) (by omega) (by omega)).trans (s35 i j (by omega) (by omega))
    have n0 : rd m42 55 0 = 0 := (s42 55 0 (by omega) (by omega) (by omega) (by omega)).trans h35.1
    have xx : tX m42 = tX m13 := tX_eq (fun j => a 2 j (by omega) (by omega) (by omega) (by omega)) (fun j => a 3 j (by omega) (by omega) (by omega) (by omega)) (fun j => b 4 j)
    refine ⟨⟨x42.1, ?_, fun i j h => ?_⟩, (a 1 0 (by omega) (by omega) (by omega) (by omega)).trans z13, ⟨tks_X tk13 xx, by rw [xx, a 19 0 (by omega) (by omega) (by omega) (by omega)]; exact an13, fun j => (a 5 j (by omega) (by omega) (by omega) (by omega)).trans (b13 j), fun j => (b 6 j).trans (w13 j), fun _ => ⟨h42.2.2, fun s hs => (s42 58 s (by omega) (by omega) (by omega) (by omega)).trans (h35.2 s hs)⟩, fun z => absurd hq z⟩, ⟨fun _ => ?_, fun z => absurd hq z⟩, ⟨fun j => (a 32 j (by omega) (by omega) (by omega) (by omega)).trans (f4 32 j (by omega)), fun j => (a 33 j (by omega) (by omega) (by omega) (by omega)).trans (f4 33 j (by omega))⟩, fun z => absurd hq z⟩
    · refine ⟨⟨lwOk_fr po.1 (a 11 4 (by omega) (by omega) (by omega) (by omega)) (fun j => a 13 j (by omega) (by omega) (by omega) (by omega)), lwOk_fr lt13.1 (a 20 4 (by omega) (by omega) (by omega) (by omega)) (fun j => a 22 j (by omega) (by omega) (by omega) (by omega)), fun i hi hk => ?_⟩, ⟨?_, ?_, ?_⟩, fun k hk => by omega, fun s hs hh => ?_⟩
      · rw [b]
        rw [a 2 i (by omega) (by omega) (by omega) (by omega)] at hk
        exact lt13.2 i hi hk
      · rw [d 274 4 (by omega), h28.1, a 7 3 (by omega) (by omega) (by omega) (by omega)]
      · intro c hc
        have t := ty_7_3 T13
        rw [d 274 4 (by omega), h28.1] at hc
        rw [d 276 c (by omega), h28.2.1 c (by omega)]
        exact po.2.1 c hc
      · intro k hk
        have t := ty_7_3 T13
        rw [d 274 4 (by omega), h28.1] at hk
        rw [d 277 k (by omega), h28.2.2 k (by omega)]
        exact po.2.2 k hk
      · exact absurd ((s42 58 s (by omega) (by omega) (by omega) (by omega)).trans (h35.2 s hs)) hh
    · exact ⟨(a i j (by omega) (by omega) (by omega) (by omega)).trans ((f4 i j (by omega)).trans (g_m.2.2 i j h).1), (b i j).trans ((fl4 i j (by omega)).trans (g_m.2.2 i j h).2)⟩
    · rw [xx, x13]
      have nb : ¬ bydP (pRun (tX m4) 401 ps_0) := ans_n an4 hq
      have t3 := ty_7_3 T13
      have g13 : ∀ i j, 7 ≤ i → rd m13 i j = rd m4 i j := fun i j h => e13' i j (by omega)
      refine bg_C (m4 := m4) (pd4 hq) (ls4 hq) (fun c hc => ?_) nb (fun i j h1 h2 => (a i j (by omega) (by omega) (by omega) (by omega)).trans (g13 i j h1)) ⟨?_, fun j hj => ?_, fun j hj => ?_, fun j hj => ?_, fun j hj => ?_, ?_, ?_⟩ n0 (fun c hc => (s42 58 c (by omega) (by omega) (by omega) (by omega)).trans (h35.2 c hc)) x42.1
      · rcases h4 with w | w
        · exact absurd hq w.1
        · exact w.2.2.1 c hc
      · rw [d 274 4 (by omega), h28.1, g13 7 3 (by omega)]
      · rw [d 275 j (by omega), k28.1 j hj, g13 8 j (by omega)]
      · rw [d 276 j (by omega), h28.2.1 j hj, g13 9 j (by omega)]
      · rw [d 277 j (by omega), h28.2.2 j hj, g13 10 j (by omega)]
      · rw [d 278 j (by omega), k28.2.1 j hj]
      · rw [d 274 5 (by omega), k28.2.2.1]
      · rw [d 274 6 (by omega), k28.2.2.2]
-- TippedCratesModel.tip(II)I
set_option maxRecDepth 20000 in
theorem fz_241 {m : Mm} {x1 : Int} {x2 : Int}  (T_m : Ty m) (r_x1 : rg x1) (r_x2 : rg x2) (p0 : MW m) (p1 : lawsM m) : CK 7 241 [.ref 284, iv x1, iv x2] m (fun m2 v => GX sMd m m2 ∧ ((((True) ∧ (mk m m2)) ∧ (∀ A, okY A.Y → okR A.Y A.r → A.n ≤ 40 → mA m A → (((0 ≤ x1 ∧ x1 < A.Y 3) ∧ (0 ≤ x2 ∧ x2 ≤ 3) ∧ canN A.Y A.r x1 x2) ∧ mA m2 (noA A (tiN A.Y A.E A.r x1 x2)) ∧ v = fC (tiN A.Y A.E A.r x1 x2) x1) ∨ (¬ ((0 ≤ x1 ∧ x1 < A.Y 3) ∧ (0 ≤ x2 ∧ x2 ≤ 3) ∧ canN A.Y A.r x1 x2) ∧ mA m2 A ∧ v = -1))) ∧ (tlM m m2))) := by
  refine br_241 r_x1 r_x2 ?_
  unfold P_241
  have g_m : GX sMd m m := ⟨T_m, fun _ _ _ => rfl, fun _ _ => rfl⟩
  refine CV.mono (mz_216   T_m) (by decide) ?_
  rintro m1 ⟨hx_m1, h_m1⟩
  have g_m1 : GX sMd m m1 := gx_in g_m hx_m1 in_sC_sMd
  refine CK.mono (ct_210   g_m1.1 r_x1) (by decide) ?_
  rintro m6 v6 r_v6 ⟨e_m6, h_m6⟩
  replace e_m6 := e_m6.symm
  subst e_m6
  refine ⟨fun m_28 => GX sMd m m_28 ∧ ((((True) ∧ mk m m_28) ∧ (∀ A, okY A.Y → okR A.Y A.r → A.n ≤ 40 → mA m A → ¬ ((0 ≤ x1 ∧ x1 < A.Y 3) ∧ (0 ≤ x2 ∧ x2 ≤ 3) ∧ canN A.Y A.r x1 x2) ∧ mA m_28 A)) ∧ (tlM m m_28)), ?_, ?_⟩
  · skip
    refine ⟨fun hq => ?_, fun hq => ?_⟩
    · skip
      exact ⟨g_m1, by exact ⟨by exact ⟨by exact ⟨by first | trivial | omega, mk_gx hx_m1 rfl (fun _ => rfl)⟩, by first | (have u := c_m22; exact fun A oY oR _ h => ⟨fun w => mt_0 (mA_cp h oY oR (ty_284_18 T_m) h_m1.2).1 w.1 w.2.1 c_m22 (by omega) w.2.2, (mA_cp h oY oR (ty_284_18 T_m) h_m1.2).2⟩) | exact fun A oY oR _ h => ⟨fun w => by have := (mA_cp h oY oR (ty_284_18 T_m) h_m1.2).1.1.1.2.2.2.1; omega, (mA_cp h oY oR (ty_284_18 T_m) h_m1.2).2⟩⟩, by exact tm_cp h_m1.2⟩⟩
    · skip
      refine CK.mono (ct_212   r_x2) (by decide) ?_
      rintro m13 v13 r_v13 ⟨e_m13, h_m13⟩
      replace e_m13 := e_m13.symm
      subst e_m13
      refine ⟨fun hq => ?_, fun hq => ?_⟩
      · skip
        exact ⟨g_m1, by exact ⟨by exact ⟨by exact ⟨by first | trivial | omega, mk_gx hx_m1 rfl (fun _ => rfl)⟩, by first | (have u := c_m22; exact fun A oY oR _ h => ⟨fun w => mt_0 (mA_cp h oY oR (ty_284_18 T_m) h_m1.2).1 w.1 w.2.1 c_m22 (by omega) w.2.2, (mA_cp h oY oR (ty_284_18 T_m) h_m1.2).2⟩) | exact fun A oY oR _ h => ⟨fun w => by have := (mA_cp h oY oR (ty_284_18 T_m) h_m1.2).1.1.1.2.2.2.1; omega, (mA_cp h oY oR (ty_284_18 T_m) h_m1.2).2⟩⟩, by exact tm_cp h_m1.2⟩⟩
      · skip
        refine CK.mono (mz_224   g_m1.1 r_x1 r_x2 (MW_D p0 g_m1) (by omega) (by omega)) (by decide) ?_
        rintro m22 v22 r_v22 ⟨e_m22, h_m22⟩
        replace e_m22 := e_m22.symm
        subst e_m22
        obtain ⟨h_m22, c_m22⟩ := h_m22
        refine ⟨fun hq => ?_, fun hq => ?_⟩
        · skip
          refine CV.mono (mz_233   g_m1.1 r_x1 r_x2 (MW_D p0 g_m1) (laws_D p1 g_m1) (by omega) (by omega) (h_m22.2 (by omega))) (by decide) ?_
          rintro m33 ⟨hx_m33, h_m33⟩
          have g_m33 : GX sMd m m33 := gx_in g_m1 hx_m33 in_sR_sMd
          refine CV.mono (mz_240   g_m33.1) (by decide) ?_
          rintro m37 ⟨hx_m37, h_m37⟩
          have g_m37 : GX sMd m m37 := gx_in g_m33 hx_m37 (fun _ _ h => h)
          obtain ⟨h_m37, c_m37⟩ := h_m37
          obtain ⟨h_m37, k_m37⟩ := h_m37
          try have w1 : wr (43 + x1) = 43 + x1 := wr_id (by omega) (by omega)
          refine ⟨⟨by omega, by omega⟩, ?_⟩
          have t2 := tr_322 g_m37.1 (Int.toNat (wr (43 + x1)))
          exact ⟨g_m37, by exact ⟨by exact ⟨by exact ⟨by first | trivial | omega | (refine ⟨?_, ?_⟩ <;> omega), by first | exact ((mk_gx hx_m1 rfl (fun _ => rfl)).trans (mk_gx hx_m33 rfl (fun _ => rfl))).trans k_m37 | exact cR_28⟩, by first | (have u := c_m22; exact fun A oY oR n40 h => Or.inl (mt_1 (mA_cp h oY oR (ty_284_18 T_m) h_m1.2) n40 (by omega) (by omega) c_m22 (by omega) (ty_284_18 g_m1.1) (ty_284_18 g_m33.1) hx_m33 h_m33.2 c_m37)) | exact fun A oY oR n40 h => Or.inr ⟨(dR_28 A oY oR n40 h).1, (dR_28 A oY oR n40 h).2, rfl⟩⟩, by first | (have u := c_m37; exact ((tm_cp h_m1.2).trans (tm_sR hx_m33)).trans (tm_rec c_m37)) | exact fR_28⟩⟩
        · skip
          exact ⟨g_m1, by exact ⟨by exact ⟨by exact ⟨by first | trivial | omega, mk_gx hx_m1 rfl (fun _ => rfl)⟩, by first | (have u := c_m22; exact fun A oY oR _ h => ⟨fun w => mt_0 (mA_cp h oY oR (ty_284_18 T_m) h_m1.2).1 w.1 w.2.1 c_m22 (by omega) w.2.2, (mA_cp h oY oR (ty_284_18 T_m) h_m1.2).2⟩) | exact fun A oY oR _ h => ⟨fun w => by have := (mA_cp h oY oR (ty_284_18 T_m) h_m1.2).1.1.1.2.2.2.1; omega, (mA_cp h oY oR (ty_284_18 T_m) h_m1.2).2⟩⟩, by exact tm_cp h_m1.2⟩⟩
  · intro m_28  hR_28
    obtain ⟨g_m_28, hR_28⟩ := hR_28
    obtain ⟨hR_28, fR_28⟩ := hR_28
    obtain ⟨hR_28, dR_28⟩ := hR_28
    obtain ⟨hR_28, cR_28⟩ := hR_28
    exact ⟨g_m_28, by exact ⟨by exact ⟨by exact ⟨by first | trivial | omega | (refine ⟨?_, ?_⟩ <;> omega), by first | exact ((mk_gx hx_m1 rfl (fun _ => rfl)).trans (mk_gx hx_m33 rfl (fun _ => rfl))).trans k_m37 | exact cR_28⟩, by first | (have u := c_m22; exact fun A oY oR n40 h => Or.inl (mt_1 (mA_cp h oY oR (ty_284_18 T_m) h_m1.2) n40 (by omega) (by omega) c_m22 (by omega) (ty_284_18 g_m1.1) (ty_284_18 g_m33.1) hx_m33 h_m33.2 c_m37)) | exact fun A oY oR n40 h => Or.inr ⟨(dR_28 A oY oR n40 h).1, (dR_28 A oY oR n40 h).2, rfl⟩⟩, by first | (have u := c_m37; exact ((tm_cp h_m1.2).trans (tm_sR hx_m33)).trans (tm_rec c_m37)) | exact fR_28⟩⟩
-- TippedCratesModel.paint(II)Z
set_option maxRecDepth 20000 in
theorem fz_242 {m : Mm} {x1 : Int} {x2 : Int}  (T_m : Ty m) (r_x1 : rg x1) (r_x2 : rg x2) (p0 : MW m) (p1 : lawsM m) : CK 3 242 [.ref 284, iv x1, iv x2] m (fun m2 v => GX sMd m m2 ∧ ((((v = 0 ∨ v = 1) ∧ (mk m m2)) ∧ (∀ A, okY A.Y → okR A.Y A.r → A.n ≤ 40 → mA m A → (paP A x1 x2 ∧ mA m2 (noA A (ro_u A.r (Int.toNat x1) x2)) ∧ v = 1) ∨ (¬ paP A x1 x2 ∧ mA m2 A ∧ v = 0))) ∧ (tlM m m2))) := by
  refine br_242 r_x1 r_x2 ?_
  unfold P_242
  have g_m : GX sMd m m := ⟨T_m, fun _ _ _ => rfl, fun _ _ => rfl⟩
  refine CV.mono (mz_216   T_m) (by decide) ?_
  rintro m1 ⟨hx_m1, h_m1⟩
  have g_m1 : GX sMd m m1 := gx_in g_m hx_m1 in_sC_sMd
  refine CK.mono (mz_209   g_m1.1 r_x1 (MW_D p0 g_m1)) (by decide) ?_
  rintro m6 v6 r_v6 ⟨e_m6, h_m6⟩
  replace e_m6 := e_m6.symm
  subst e_m6
  obtain ⟨h_m6, c_m6⟩ := h_m6
  refine ⟨fun m_45 => GX sMd m m_45 ∧ ((((True) ∧ mk m m_45) ∧ (∀ A, okY A.Y → okR A.Y A.r → A.n ≤ 40 → mA m A → ¬ paP A x1 x2 ∧ mA m_45 A)) ∧ (tlM m m_45)), ?_, ?_⟩
  · skip
    refine ⟨fun hq => ?_, fun hq => ?_⟩
    · skip
      exact ⟨g_m1, by exact ⟨by exact ⟨by exact ⟨by first | trivial | omega, mk_gx hx_m1 rfl (fun _ => rfl)⟩, by first | (have u := c_m39; exact fun A oY oR _ h => ⟨fun w => pt_M (mA_cp h oY oR (ty_284_18 T_m) h_m1.2) w (by omega) c_m39, (mA_cp h oY oR (ty_284_18 T_m) h_m1.2).2⟩) | (have u := h_m31; exact fun A oY oR _ h => ⟨fun w => ps_M (mA_cp h oY oR (ty_284_18 T_m) h_m1.2) w h_m31 (by omega), (mA_cp h oY oR (ty_284_18 T_m) h_m1.2).2⟩) | (have u := h_m13; exact fun A oY oR _ h => ⟨fun w => by have := w.2.1; omega, (mA_cp h oY oR (ty_284_18 T_m) h_m1.2).2⟩) | exact fun A oY oR _ h => ⟨fun w => pf_M (mA_cp h oY oR (ty_284_18 T_m) h_m1.2) w c_m6 (by omega), (mA_cp h oY oR (ty_284_18 T_m) h_m1.2).2⟩ | (have u := h_m13; exact fun A oY oR _ h => ⟨fun w => pq_M (mA_cp h oY oR (ty_284_18 T_m) h_m1.2) w (by assumption), (mA_cp h oY oR (ty_284_18 T_m) h_m1.2).2⟩)⟩, by exact tm_cp h_m1.2⟩⟩
    · skip
      refine CK.mono (ct_211   r_x2) (by decide) ?_
      rintro m13 v13 r_v13 ⟨e_m13, h_m13⟩
      replace e_m13 := e_m13.symm
      subst e_m13
      refine ⟨fun hq => ?_, fun hq => ?_⟩
      · skip
        exact ⟨g_m1, by exact ⟨by exact ⟨by exact ⟨by first | trivial | omega, mk_gx hx_m1 rfl (fun _ => rfl)⟩, by first | (have u := c_m39; exact fun A oY oR _ h => ⟨fun w => pt_M (mA_cp h oY oR (ty_284_18 T_m) h_m1.2) w (by omega) c_m39, (mA_cp h oY oR (ty_284_18 T_m) h_m1.2).2⟩) | (have u := h_m31; exact fun A oY oR _ h => ⟨fun w => ps_M (mA_cp h oY oR (ty_284_18 T_m) h_m1.2) w h_m31 (by omega), (mA_cp h oY oR (ty_284_18 T_m) h_m1.2).2⟩) | (have u := h_m13; exact fun A oY oR _ h => ⟨fun w => by have := w.2.1; omega, (mA_cp h oY oR (ty_284_18 T_m) h_m1.2).2⟩) | exact fun A oY oR _ h => ⟨fun w => pf_M (mA_cp h oY oR (ty_284_18 T_m) h_m1.2) w c_m6 (by omega), (mA_cp h oY oR (ty_284_18 T_m) h_m1.2).2⟩ | (have u := h_m13; exact fun A oY oR _ h => ⟨fun w => pq_M (mA_cp h oY oR (ty_284_18 T_m) h_m1.2) w (by assumption), (mA_cp h oY oR (ty_284_18 T_m) h_m1.2).2⟩)⟩, by exact tm_cp h_m1.2⟩⟩
      · skip
        refine ⟨⟨by omega, by omega⟩, ?_⟩
        have t1 := tr_323 g_m1.1 (Int.toNat x1)
        refine ⟨fun hq => ?_, fun hq => ?_⟩
        · skip
          exact ⟨g_m1, by exact ⟨by exact ⟨by exact ⟨by first | trivial | omega, mk_gx hx_m1 rfl (fun _ => rfl)⟩, by first | (have u := c_m39; exact fun A oY oR _ h => ⟨fun w => pt_M (mA_cp h oY oR (ty_284_18 T_m) h_m1.2) w (by omega) c_m39, (mA_cp h oY oR (ty_284_18 T_m) h_m1.2).2⟩) | (have u := h_m31; exact fun A oY oR _ h => ⟨fun w => ps_M (mA_cp h oY oR (ty_284_18 T_m) h_m1.2) w h_m31 (by omega), (mA_cp h oY oR (ty_284_18 T_m) h_m1.2).2⟩) | (have u := h_m13; exact fun A oY oR _ h => ⟨fun w => by have := w.2.1; omega, (mA_cp h oY oR (ty_284_18 T_m) h_m1.2).2⟩) | exact fun A oY oR _ h => ⟨fun w => pf_M (mA_cp h oY oR (ty_284_18 T_m) h_m1.2) w c_m6 (by omega), (mA_cp h oY oR (ty_284_18 T_m) h_m1.2).2⟩ | (have u := h_m13; exact fun A oY oR _ h => ⟨fun w => pq_M (mA_cp h oY oR (ty_284_18 T_m) h_m1.2) w (by assumption), (mA_cp h oY oR (ty_284_18 T_m) h_m1.2).2⟩)⟩, by exact tm_cp h_m1.2⟩⟩
        · skip
          refine CK.mono (mz_213   r_x1) (by decide) ?_
          rintro m31 v31 r_v31 ⟨e_m31, h_m31⟩
          replace e_m31 := e_m31.symm
          subst e_m31
          refine ⟨fun hq => ?_, fun hq => ?_⟩
          · skip
            exact ⟨g_m1, by exact ⟨by exact ⟨by exact ⟨by first | trivial | omega, mk_gx hx_m1 rfl (fun _ => rfl)⟩, by first | (have u := c_m39; exact fun A oY oR _ h => ⟨fun w => pt_M (mA_cp h oY oR (ty_284_18 T_m) h_m1.2) w (by omega) c_m39, (mA_cp h oY oR (ty_284_18 T_m) h_m1.2).2⟩) | (have u := h_m31; exact fun A oY oR _ h => ⟨fun w => ps_M (mA_cp h oY oR (ty_284_18 T_m) h_m1.2) w h_m31 (by omega), (mA_cp h oY oR (ty_284_18 T_m) h_m1.2).2⟩) | (have u := h_m13; exact fun A oY oR _ h => ⟨fun w => by have := w.2.1; omega, (mA_cp h oY oR (ty_284_18 T_m) h_m1.2).2⟩) | exact fun A oY oR _ h => ⟨fun w => pf_M (mA_cp h oY oR (ty_284_18 T_m) h_m1.2) w c_m6 (by omega), (mA_cp h oY oR (ty_284_18 T_m) h_m1.2).2⟩ | (have u := h_m13; exact fun A oY oR _ h => ⟨fun w => pq_M (mA_cp h oY oR (ty_284_18 T_m) h_m1.2) w (by assumption), (mA_cp h oY oR (ty_284_18 T_m) h_m1.2).2⟩)⟩, by exact tm_cp h_m1.2⟩⟩
          · skip
            refine CK.mono (mz_237 g_m1.1 r_x1) (by decide) ?_
            rintro m39 v39 r_v39 ⟨e_m39, h_m39⟩
            replace e_m39 := e_m39.symm
            subst e_m39
            obtain ⟨h_m39, c_m39⟩ := h_m39
            refine ⟨fun hq => ?_, fun hq => ?_⟩
            · skip
              refine ⟨⟨by omega, by omega⟩, ?_⟩
              intro m53 e_m53
              have g_m53 : GX sMd m m53 := by rw [e_m53]; exact GX.wt g_m1 (tz_323 g_m1.1 (by first | assumption | omega) (by omega) (by omega)) (Eq.refl true)
              refine CV.mono (mz_240   g_m53.1) (by decide) ?_
              rintro m55 ⟨hx_m55, h_m55⟩
              have g_m55 : GX sMd m m55 := gx_in g_m53 hx_m55 (fun _ _ h => h)
              obtain ⟨h_m55, c_m55⟩ := h_m55
              obtain ⟨h_m55, k_m55⟩ := h_m55
              exact ⟨g_m55, by exact ⟨by exact ⟨by exact ⟨by first | trivial | omega | (refine ⟨?_, ?_⟩ <;> omega), by first | exact ((mk_gx hx_m1 rfl (fun _ => rfl)).wt (by omega) e_m53).trans k_m55 | exact cR_45⟩, by first | (have u := c_m55; exact fun A oY oR n40 h => Or.inl (pa_M (mA_cp h oY oR (ty_284_18 T_m) h_m1.2) n40 c_m6 (by omega) (by omega) (by assumption) h_m31 (by omega) c_m39 (by omega) (ty_284_18 g_m1.1) e_m53 r_x2 c_m55)) | exact fun A oY oR n40 h => Or.inr ⟨(dR_45 A oY oR n40 h).1, (dR_45 A oY oR n40 h).2, rfl⟩⟩, by first | (have u := c_m55; exact ((tm_cp h_m1.2).wt (by omega) e_m53).trans (tm_rec c_m55)) | exact fR_45⟩⟩
            · skip
              exact ⟨g_m1, by exact ⟨by exact ⟨by exact ⟨by first | trivial | omega, mk_gx hx_m1 rfl (fun _ => rfl)⟩, by first | (have u := c_m39; exact fun A oY oR _ h => ⟨fun w => pt_M (mA_cp h oY oR (ty_284_18 T_m) h_m1.2) w (by omega) c_m39, (mA_cp h oY oR (ty_284_18 T_m) h_m1.2).2⟩) | (have u := h_m31; exact fun A oY oR _ h => ⟨fun w => ps_M (mA_cp h oY oR (ty_284_18 T_m) h_m1.2) w h_m31 (by omega), (mA_cp h oY oR (ty_284_18 T_m) h_m1.2).2⟩) | (have u := h_m13; exact fun A oY oR _ h => ⟨fun w => by have := w.2.1; omega, (mA_cp h oY oR (ty_284_18 T_m) h_m1.2).2⟩) | exact fun A oY oR _ h => ⟨fun w => pf_M (mA_cp h oY oR (ty_284_18 T_m) h_m1.2) w c_m6 (by omega), (mA_cp h oY oR (ty_284_18 T_m) h_m1.2).2⟩ | (have u := h_m13; exact fun A oY oR _ h => ⟨fun w => pq_M (mA_cp h oY oR (ty_284_18 T_m) h_m1.2) w (by assumption), (mA_cp h oY oR (ty_284_18 T_m) h_m1.2).2⟩)⟩, by exact tm_cp h_m1.2⟩⟩
  · intro m_45  hR_45
    obtain ⟨g_m_45, hR_45⟩ := hR_45
    obtain ⟨hR_45, fR_45⟩ := hR_45
    obtain ⟨hR_45, dR_45⟩ := hR_45
    obtain ⟨hR_45, cR_45⟩ := hR_45
    exact ⟨g_m_45, by exact ⟨by exact ⟨by exact ⟨by first | trivial | omega | (refine ⟨?_, ?_⟩ <;> omega), by first | exact ((mk_gx hx_m1 rfl (fun _ => rfl)).wt (by omega) e_m53).trans k_m55 | exact cR_45⟩, by first | (have u := c_m55; exact fun A oY oR n40 h => Or.inl (pa_M (mA_cp h oY oR (ty_284_18 T_m) h_m1.2) n40 c_m6 (by omega) (by omega) (by assumption) h_m31 (by omega) c_m39 (by omega) (ty_284_18 g_m1.1) e_m53 r_x2 c_m55)) | exact fun A oY oR n40 h => Or.inr ⟨(dR_45 A oY oR n40 h).1, (dR_45 A oY oR n40 h).2, rfl⟩⟩, by first | (have u := c_m55; exact ((tm_cp h_m1.2).wt (by omega) e_m53).trans (tm_rec c_m55)) | exact fR_45⟩⟩
-- TippedCratesModel.minutes(I)I
set_option maxRecDepth 20000 in
theorem fz_244 {m : Mm} {x1 : Int}  (T_m : Ty m) (r_x1 : rg x1) (p0 : MW m) (p1 : lawsM m) : CK 9 244 [.ref 284, iv x1] m (fun m2 v => GX sMd m m2 ∧ ((((True) ∧ (mk m m2)) ∧ (∀ A, okY A.Y → okR A.Y A.r → A.n ≤ 40 → mA m A → (¬ (0 ≤ x1 ∧ x1 ≤ 60) ∧ mA m2 A ∧ v = -1) ∨ (x1 = 0 ∧ mA m2 A ∧ v = A.r 49) ∨ ((1 ≤ x1 ∧ x1 ≤ 60) ∧ mA m2 (noA A (goN A.Y A.E (A.Y 4) A.r (Int.toNat x1))) ∧ v = goN A.Y A.E (A.Y 4) A.r (Int.toNat x1) 49))) ∧ (tlM m m2))) := by
  refine br_244 r_x1 ?_
  unfold P_244
  have g_m : GX sMd m m := ⟨T_m, fun _ _ _ => rfl, fun _ _ => rfl⟩
  refine CK.mono (ct_243   r_x1) (by decide) ?_
  rintro m1 v1 r_v1 ⟨e_m1, h_m1⟩
  replace e_m1 := e_m1.symm
  subst e_m1
  refine ⟨fun hq => ?_, fun hq => ?_⟩
  · skip
    refine ⟨fun hq => ?_, fun hq => ?_⟩
    · skip
      refine CV.mono (mz_216   T_m) (by decide) ?_
      rintro m22 ⟨hx_m22, h_m22⟩
      have g_m22 : GX sMd m m22 := gx_in g_m hx_m22 in_sC_sMd
      refine CV.mono (mz_235   g_m22.1 r_x1 (MW_D p0 g_m22) (laws_D p1 g_m22) (by omega)) (by decide) ?_
      rintro m27 ⟨hx_m27, h_m27⟩
      have g_m27 : GX sMd m m27 := gx_in g_m22 hx_m27 in_sR_sMd
      refine CV.mono (mz_240   g_m27.1) (by decide) ?_
      rintro m31 ⟨hx_m31, h_m31⟩
      have g_m31 : GX sMd m m31 := gx_in g_m27 hx_m31 (fun _ _ h => h)
      obtain ⟨h_m31, c_m31⟩ := h_m31
      obtain ⟨h_m31, k_m31⟩ := h_m31
      have t1 := tr_322 g_m31.1 49
      exact ⟨g_m31, by exact ⟨by exact ⟨by exact ⟨by first | trivial | omega | (refine ⟨?_, ?_⟩ <;> omega), by first | exact ((mk_gx hx_m22 rfl (fun _ => rfl)).trans (mk_gx hx_m27 rfl (fun _ => rfl))).trans k_m31 | exact mk_r _⟩, by first | (have u := c_m31; exact fun A oY oR n40 h => Or.inr (Or.inr ⟨by omega, mgo_1 (mA_cp h oY oR (ty_284_18 T_m) h_m22.2) n40 h_m22.2 h (ty_284_18 g_m22.1) (ty_284_18 g_m27.1) hx_m27 h_m27.2 c_m31⟩)) | exact fun A oY oR _ h => Or.inr (Or.inl ⟨by omega, h, h.2.1 49 (by omega)⟩) | exact fun A oY oR _ h => Or.inl ⟨by omega, h, rfl⟩⟩, by first | (have u := c_m31; exact ((tm_cp h_m22.2).trans (tm_sR hx_m27)).trans (tm_rec c_m31)) | exact tm_r _⟩⟩
    · skip
      have t2 := tr_322 T_m 49
      exact ⟨g_m, by exact ⟨by exact ⟨by exact ⟨by first | trivial | omega | (refine ⟨?_, ?_⟩ <;> omega), by first | exact ((mk_gx hx_m22 rfl (fun _ => rfl)).trans (mk_gx hx_m27 rfl (fun _ => rfl))).trans k_m31 | exact mk_r _⟩, by first | (have u := c_m31; exact fun A oY oR n40 h => Or.inr (Or.inr ⟨by omega, mgo_1 (mA_cp h oY oR (ty_284_18 T_m) h_m22.2) n40 h_m22.2 h (ty_284_18 g_m22.1) (ty_284_18 g_m27.1) hx_m27 h_m27.2 c_m31⟩)) | exact fun A oY oR _ h => Or.inr (Or.inl ⟨by omega, h, h.2.1 49 (by omega)⟩) | exact fun A oY oR _ h => Or.inl ⟨by omega, h, rfl⟩⟩, by first | (have u := c_m31; exact ((tm_cp h_m22.2).trans (tm_sR hx_m27)).trans (tm_rec c_m31)) | exact tm_r _⟩⟩
  · skip
    exact ⟨g_m, by exact ⟨by exact ⟨by exact ⟨by first | trivial | omega | (refine ⟨?_, ?_⟩ <;> omega), by first | exact ((mk_gx hx_m22 rfl (fun _ => rfl)).trans (mk_gx hx_m27 rfl (fun _ => rfl))).trans k_m31 | exact mk_r _⟩, by first | (have u := c_m31; exact fun A oY oR n40 h => Or.inr (Or.inr ⟨by omega, mgo_1 (mA_cp h oY oR (ty_284_18 T_m) h_m22.2) n40 h_m22.2 h (ty_284_18 g_m22.1) (ty_284_18 g_m27.1) hx_m27 h_m27.2 c_m31⟩)) | exact fun A oY oR _ h => Or.inr (Or.inl ⟨by omega, h, h.2.1 49 (by omega)⟩) | exact fun A oY oR _ h => Or.inl ⟨by omega, h, rfl⟩⟩, by first | (have u := c_m31; exact ((tm_cp h_m22.2).trans (tm_sR hx_m27)).trans (tm_rec c_m31)) | exact tm_r _⟩⟩
-- TippedCratesModel.undo()Z
set_option maxRecDepth 20000 in
theorem fz_245 {m : Mm}   (T_m : Ty m)   : CK 1 245 [.ref 284] m (fun m2 v => GX sMd m m2 ∧ (((((True) ∧ (mk m m2)) ∧ ((v = 0 ∧ rd m 284 60 = 0 ∧ m2 = m) ∨ (v = 1 ∧ ¬ rd m 284 60 = 0 ∧ unP m m2))) ∧ (∀ A, okY A.Y → okR A.Y A.r → A.n ≤ 40 → mA m A → (v = 0 ∧ A.n = 0 ∧ mA m2 A) ∨ (v = 1 ∧ ¬ A.n = 0 ∧ mA m2 (unB A)))) ∧ (tlM m m2))) := by
  refine br_245  ?_
  unfold P_245
  have g_m : GX sMd m m := ⟨T_m, fun _ _ _ => rfl, fun _ _ => rfl⟩
  have tu := ty_284_60 T_m
  have t1 := ty_284_60 T_m
  refine ⟨fun hq => ?_, fun hq => ?_⟩
  · skip
    try have w2 : wr ((rd m 284 60) - 1) = (rd m 284 60) - 1 := wr_id (by omega) (by omega)
    intro m16 e_m16
    have g_m16 : GX sMd m m16 := by rw [e_m16]; exact GX.wt g_m (tw_284_60 T_m ⟨by omega, by omega⟩) (Eq.refl true)
    have u16 : rd m16 284 60 = rd m 284 60 - 1 := by rw [e_m16, rd_wt, if_pos ⟨rfl, rfl⟩, wr_i (wr_rg _), wr_id (by omega) (by omega)]
    refine ⟨fun x1_21 m_21 => GX sMd m m_21 ∧ ((((0 ≤ x1_21 ∧ x1_21 ≤ 51) ∧ rd m_21 284 60 ≤ 39) ∧ (mk m m_21)) ∧ (cpI m16 m_21 322 324 0 (51 * Int.toNat (rd m16 284 60)) x1_21)), fun x1_21 m_21 => Int.toNat (51 - x1_21), ?_, ?_⟩
    · exact ⟨g_m16, by exact ⟨by exact ⟨by first | omega | (refine ⟨?_, ?_⟩ <;> omega) | trivial, by exact (mk_r m).wt (by omega) e_m16⟩, by exact cpI_0⟩⟩
    · intro x1_21 m_21 r_x1_21 hI_21
      obtain ⟨g_m_21, hI_21⟩ := hI_21
      obtain ⟨hI_21, dI_21⟩ := hI_21
      obtain ⟨hI_21, cI_21⟩ := hI_21
      refine ⟨fun hq => ?_, fun hq => ?_⟩
      · skip
        exact ⟨g_m_21, by exact ⟨by exact ⟨by exact ⟨by exact ⟨by first | trivial | omega | (refine ⟨?_, ?_⟩ <;> omega), by first | exact cI_21 | exact mk_r _⟩, by first | exact Or.inr ⟨rfl, by assumption, unP_of dI_21 (by omega) e_m16 u16⟩ | exact Or.inl ⟨rfl, by omega, rfl⟩⟩, by first | (have u := e_m16; exact fun A _ _ _ h => Or.inr ⟨rfl, by have := h.2.2.1; omega, mA_un h (ty_284_18 T_m) (by omega) (unP_of dI_21 (by omega) e_m16 u16)⟩) | exact fun A _ _ _ h => Or.inl ⟨rfl, by have := h.2.2.1; omega, h⟩⟩, by first | (have u := e_m16; exact tm_un (unP_of dI_21 (by omega) e_m16 u16)) | exact tm_r _⟩⟩
      · skip
        have t3 := ty_284_60 g_m_21.1
        try have w4 : wr (51 * (rd m_21 284 60)) = 51 * (rd m_21 284 60) := wr_id (by omega) (by omega)
        try have w5 : wr ((wr (51 * (rd m_21 284 60))) + x1_21) = (wr (51 * (rd m_21 284 60))) + x1_21 := wr_id (by omega) (by omega)
        refine ⟨⟨by omega, by omega⟩, ?_⟩
        refine ⟨⟨by omega, by omega⟩, ?_⟩
        have t6 := tr_324 g_m_21.1 (Int.toNat (wr ((wr (51 * (rd m_21 284 60))) + x1_21)))
        intro m46 e_m46
        have g_m46 : GX sMd m m46 := by rw [e_m46]; exact GX.wt g_m_21 (tz_322 g_m_21.1 (rd_rg _ _ _) (fun h => (tr_324 g_m_21.1 _).1 (by omega)) (fun h1 h2 => (tr_324 g_m_21.1 _).2 (by omega) (by omega))) (Eq.refl true)
        have u46 : rd m46 284 60 = rd m_21 284 60 := by rw [e_m46, rd_wt, if_neg (by omega)]
        try have w7 : wr (x1_21 + 1) = x1_21 + 1 := wr_id (by omega) (by omega)
        intro z1_47 e_z1_47
        have r_z1_47 : rg z1_47 := by rw [e_z1_47]; exact wr_rg _
        exact ⟨⟨g_m46, by exact ⟨by exact ⟨by first | omega | (refine ⟨?_, ?_⟩ <;> omega) | trivial, by exact cI_21.wt (by omega) e_m46⟩, by exact cpI_s dI_21 (by omega) (by omega) e_m46 (by omega) (by rw [show rd m_21 284 60 = rd m16 284 60 from dI_21.1 284 60 (by omega), wr_id (x := 51 * rd m16 284 60) (by omega) (by omega), wr_id (by omega) (by omega)]; omega) (by omega)⟩⟩, by (try dsimp only); omega⟩
  · skip
    exact ⟨g_m, by exact ⟨by exact ⟨by exact ⟨by exact ⟨by first | trivial | omega | (refine ⟨?_, ?_⟩ <;> omega), by first | exact cI_21 | exact mk_r _⟩, by first | exact Or.inr ⟨rfl, by assumption, unP_of dI_21 (by omega) e_m16 u16⟩ | exact Or.inl ⟨rfl, by omega, rfl⟩⟩, by first | (have u := e_m16; exact fun A _ _ _ h => Or.inr ⟨rfl, by have := h.2.2.1; omega, mA_un h (ty_284_18 T_m) (by omega) (unP_of dI_21 (by omega) e_m16 u16)⟩) | exact fun A _ _ _ h => Or.inl ⟨rfl, by have := h.2.2.1; omega, h⟩⟩, by first | (have u := e_m16; exact tm_un (unP_of dI_21 (by omega) e_m16 u16)) | exact tm_r _⟩⟩
-- TippedCratesModel.hold(I)Z
set_option maxRecDepth 20000 in
theorem fz_284 {m : Mm} {x1 : Int}  (T_m : Ty m) (r_x1 : rg x1)  : CK 2 284 [.ref 284, iv x1] m (fun m2 v => GX sMd m m2 ∧ ((((((v = 1 ∧ 0 ≤ x1 ∧ x1 ≤ 2) ∨ (v = 0 ∧ (x1 < 0 ∨ 2 < x1))) ∧ (((0 ≤ x1 ∧ x1 ≤ 2) ∧ rd m2 284 72 = rd m 284 72 ∧ rd m2 339 (Int.toNat x1) = 1 ∧ ∀ j : Nat, ¬ j = Int.toNat x1 → rd m2 339 j = rd m 339 j) ∨ ((x1 < 0 ∨ 2 < x1) ∧ mk m m2))) ∧ ((0 ≤ x1 ∧ x1 ≤ 2) → hoP m m2 (Int.toNat x1))) ∧ (∀ A, okY A.Y → okR A.Y A.r → A.n ≤ 40 → mA m A → ((0 ≤ x1 ∧ x1 ≤ 2) → mA m2 (hoA A (Int.toNat x1))) ∧ (¬ (0 ≤ x1 ∧ x1 ≤ 2) → mA m2 A))) ∧ (tlM m m2))) := by
  refine br_284 r_x1 ?_
  unfold P_284
  have g_m : GX sMd m m := ⟨T_m, fun _ _ _ => rfl, fun _ _ => rfl⟩
  refine CK.mono (ct_206   r_x1 (by unfold rg; decide) (by unfold rg; decide)) (by decide) ?_
  rintro m3 v3 r_v3 ⟨e_m3, h_m3⟩
  replace e_m3 := e_m3.symm
  subst e_m3
  refine ⟨fun hq => ?_, fun hq => ?_⟩
  · skip
    refine ⟨⟨by omega, by omega⟩, ?_⟩
    intro m17 e_m17
    have g_m17 : GX sMd m m17 := by rw [e_m17]; exact GX.wt g_m (tw_339 T_m (nz_rg _)) (Eq.refl true)
    refine ⟨fun x2_20 m_20 => GX sMd m m_20 ∧ (((0 ≤ x2_20 ∧ x2_20 ≤ 51) ∧ ((0 ≤ x1 ∧ x1 ≤ 2) ∧ rd m_20 284 72 = rd m 284 72 ∧ rd m_20 339 (Int.toNat x1) = 1 ∧ ∀ j : Nat, ¬ j = Int.toNat x1 → rd m_20 339 j = rd m 339 j)) ∧ (cpI m17 m_20 340 322 (51 * Int.toNat x1) 0 x2_20)), fun x2_20 m_20 => Int.toNat (51 - x2_20), ?_, ?_⟩
    · exact ⟨g_m17, by exact ⟨by exact ⟨by first | omega | (refine ⟨?_, ?_⟩ <;> omega) | trivial, by exact ⟨by omega, by rw [e_m17, rd_wt, if_neg (by omega)], by rw [e_m17, rd_wt, if_pos ⟨rfl, rfl⟩]; exact nz1, fun j hj => by rw [e_m17, rd_wt, if_neg (fun w => hj w.2)]⟩⟩, by exact cpI_0⟩⟩
    · intro x2_20 m_20 r_x2_20 hI_20
      obtain ⟨g_m_20, hI_20⟩ := hI_20
      obtain ⟨hI_20, dI_20⟩ := hI_20
      obtain ⟨hI_20, cI_20⟩ := hI_20
      refine ⟨fun hq => ?_, fun hq => ?_⟩
      · skip
        exact ⟨g_m_20, by exact ⟨by exact ⟨by exact ⟨by exact ⟨by first | trivial | omega | (refine ⟨?_, ?_⟩ <;> omega), by first | exact Or.inl ⟨cI_20.1, cI_20.2⟩ | exact Or.inr ⟨by omega, mk_r _⟩⟩, by first | (have u := e_m17; exact fun _ => hoP_of dI_20 (by omega) e_m17) | exact fun w => by omega⟩, by first | (have u := e_m17; exact fun A _ _ _ h => ⟨fun _ => mA_ho h (ty_284_18 T_m) (by omega) (hoP_of dI_20 (by omega) e_m17) cI_20.2.2.1, fun w => by omega⟩) | exact fun A _ _ _ h => ⟨fun w => by omega, fun _ => h⟩⟩, by first | (have u := e_m17; exact tm_ho (hoP_of dI_20 (by omega) e_m17)) | exact tm_r _⟩⟩
      · skip
        refine ⟨⟨by omega, by omega⟩, ?_⟩
        try have w1 : wr (51 * x1) = 51 * x1 := wr_id (by omega) (by omega)
        try have w2 : wr ((wr (51 * x1)) + x2_20) = (wr (51 * x1)) + x2_20 := wr_id (by omega) (by omega)
        refine ⟨⟨by omega, by omega⟩, ?_⟩
        have t3 := tr_322 g_m_20.1 (Int.toNat x2_20)
        intro m42 e_m42
        have g_m42 : GX sMd m m42 := by rw [e_m42]; exact GX.wt g_m_20 (tz_340 g_m_20.1 (rd_rg _ _ _) (fun h => (tr_322 g_m_20.1 _).1 (by omega)) (fun h1 h2 => (tr_322 g_m_20.1 _).2 (by omega) (by omega))) (Eq.refl true)
        have f42 : ∀ i j : Nat, ¬ i = 340 → rd m42 i j = rd m_20 i j := fun i j q => by rw [e_m42, rd_wt, if_neg (fun w => q w.1)]
        try have w4 : wr (x2_20 + 1) = x2_20 + 1 := wr_id (by omega) (by omega)
        intro z2_43 e_z2_43
        have r_z2_43 : rg z2_43 := by rw [e_z2_43]; exact wr_rg _
        exact ⟨⟨g_m42, by exact ⟨by exact ⟨by first | omega | (refine ⟨?_, ?_⟩ <;> omega) | trivial, by exact ⟨cI_20.1, by rw [f42 284 72 (by omega)]; exact cI_20.2.1, by rw [f42 339 _ (by omega)]; exact cI_20.2.2.1, fun j hj => by rw [f42 339 _ (by omega)]; exact cI_20.2.2.2 j hj⟩⟩, by exact cpI_s dI_20 (by omega) (by omega) e_m42 (by rw [wr_id (x := 51 * x1) (by omega) (by omega), wr_id (by omega) (by omega)]; omega) (by omega) (by omega)⟩⟩, by (try dsimp only); omega⟩
  · skip
    exact ⟨g_m, by exact ⟨by exact ⟨by exact ⟨by exact ⟨by first | trivial | omega | (refine ⟨?_, ?_⟩ <;> omega), by first | exact Or.inl ⟨cI_20.1, cI_20.2⟩ | exact Or.inr ⟨by omega, mk_r _⟩⟩, by first | (have u := e_m17; exact fun _ => hoP_of dI_20 (by omega) e_m17) | exact fun w => by omega⟩, by first | (have u := e_m17; exact fun A _ _ _ h => ⟨fun _ => mA_ho h (ty_284_18 T_m) (by omega) (hoP_of dI_20 (by omega) e_m17) cI_20.2.2.1, fun w => by omega⟩) | exact fun A _ _ _ h => ⟨fun w => by omega, fun _ => h⟩⟩, by first | (have u := e_m17; exact tm_ho (hoP_of dI_20 (by omega) e_m17)) | exact tm_r _⟩⟩
-- TippedCratesModel.restore(I)Z
set_option maxRecDepth 20000 in
theorem fz_285 {m : Mm} {x1 : Int}  (T_m : Ty m) (r_x1 : rg x1)  : CK 2 285 [.ref 284, iv x1] m (fun m2 v => GX sMd m m2 ∧ (((((v = 0 ∨ v = 1) ∧ (mk m m2 ∧ ((v = 1 ∧ (0 ≤ x1 ∧ x1 ≤ 2) ∧ ¬ rd m 339 (Int.toNat x1) = 0) ∨ (v = 0 ∧ ((x1 < 0 ∨ 2 < x1) ∨ rd m 339 (Int.toNat x1) = 0))))) ∧ ((v = 0 ∧ m2 = m) ∨ (v = 1 ∧ reP m m2 (Int.toNat x1)))) ∧ (∀ A, okY A.Y → okR A.Y A.r → A.n ≤ 40 → mA m A → (v = 0 ∧ mA m2 A) ∨ (v = 1 ∧ mA m2 (reA A (Int.toNat x1))))) ∧ (tlM m m2))) := by
  refine br_285 r_x1 ?_
  unfold P_285
  have g_m : GX sMd m m := ⟨T_m, fun _ _ _ => rfl, fun _ _ => rfl⟩
  refine CK.mono (ct_206   r_x1 (by unfold rg; decide) (by unfold rg; decide)) (by decide) ?_
  rintro m3 v3 r_v3 ⟨e_m3, h_m3⟩
  replace e_m3 := e_m3.symm
  subst e_m3
  refine ⟨(x1 < 0 ∨ 2 < x1) ∨ rd m 339 (Int.toNat x1) = 0, ?_, ?_⟩
  · skip
    refine ⟨fun hq => ?_, fun hq => ?_⟩
    · skip
      (omega)
    · skip
      refine ⟨⟨by omega, by omega⟩, ?_⟩
      refine ⟨fun hq => ?_, fun hq => ?_⟩
      · skip
        refine ⟨fun x2_22 m_22 => GX sMd m m_22 ∧ (((0 ≤ x2_22 ∧ x2_22 ≤ 51) ∧ (mk m m_22 ∧ ¬ rd m 339 (Int.toNat x1) = 0)) ∧ (cpI m m_22 322 340 0 (51 * Int.toNat x1) x2_22)), fun x2_22 m_22 => Int.toNat (51 - x2_22), ?_, ?_⟩
        · exact ⟨g_m, by exact ⟨by exact ⟨by first | omega | (refine ⟨?_, ?_⟩ <;> omega) | trivial, by exact ⟨mk_r _, by omega⟩⟩, by exact cpI_0⟩⟩
        · intro x2_22 m_22 r_x2_22 hI_22
          obtain ⟨g_m_22, hI_22⟩ := hI_22
          obtain ⟨hI_22, dI_22⟩ := hI_22
          obtain ⟨hI_22, cI_22⟩ := hI_22
          refine ⟨fun hq => ?_, fun hq => ?_⟩
          · skip
            intro m53 e_m53
            have g_m53 : GX sMd m m53 := by rw [e_m53]; exact GX.wt g_m_22 (tw_284_60 g_m_22.1 ⟨by omega, by omega⟩) (Eq.refl true)
            exact ⟨g_m53, by exact ⟨by exact ⟨by exact ⟨by exact ⟨by first | trivial | omega | (refine ⟨?_, ?_⟩ <;> omega), by first | exact ⟨cI_22.1.wt (by omega) e_m53, Or.inl ⟨rfl, by omega, cI_22.2⟩⟩ | exact ⟨mk_r _, Or.inr ⟨rfl, hR_18⟩⟩⟩, by first | (have u := e_m53; exact Or.inr ⟨rfl, reP_of dI_22 (by omega) e_m53⟩) | exact Or.inl ⟨rfl, rfl⟩⟩, by first | (have u := e_m53; exact fun A _ _ _ h => Or.inr ⟨rfl, mA_re h (ty_284_18 T_m) (by omega) cI_22.2 (reP_of dI_22 (by omega) e_m53)⟩) | exact fun A _ _ _ h => Or.inl ⟨rfl, h⟩⟩, by first | (have u := e_m53; exact tm_re (reP_of dI_22 (by omega) e_m53)) | exact tm_r _⟩⟩
          · skip
            try have w2 : wr (51 * x1) = 51 * x1 := wr_id (by omega) (by omega)
            try have w3 : wr ((wr (51 * x1)) + x2_22) = (wr (51 * x1)) + x2_22 := wr_id (by omega) (by omega)
            refine ⟨⟨by omega, by omega⟩, ?_⟩
            refine ⟨⟨by omega, by omega⟩, ?_⟩
            have t4 := tr_340 g_m_22.1 (Int.toNat (wr ((wr (51 * x1)) + x2_22)))
            intro m44 e_m44
            have g_m44 : GX sMd m m44 := by rw [e_m44]; exact GX.wt g_m_22 (tz_322 g_m_22.1 (rd_rg _ _ _) (fun h => (tr_340 g_m_22.1 _).1 (by omega)) (fun h1 h2 => (tr_340 g_m_22.1 _).2 (by omega) (by omega))) (Eq.refl true)
            try have w5 : wr (x2_22 + 1) = x2_22 + 1 := wr_id (by omega) (by omega)
            intro z2_45 e_z2_45
            have r_z2_45 : rg z2_45 := by rw [e_z2_45]; exact wr_rg _
            exact ⟨⟨g_m44, by exact ⟨by exact ⟨by first | omega | (refine ⟨?_, ?_⟩ <;> omega) | trivial, by exact ⟨cI_22.1.wt (by omega) e_m44, cI_22.2⟩⟩, by exact cpI_s dI_22 (by omega) (by omega) e_m44 (by omega) (by rw [wr_id (x := 51 * x1) (by omega) (by omega), wr_id (by omega) (by omega)]; omega) (by omega)⟩⟩, by (try dsimp only); omega⟩
      · skip
        (omega)
  · intro   hR_18
    exact ⟨g_m, by exact ⟨by exact ⟨by exact ⟨by exact ⟨by first | trivial | omega | (refine ⟨?_, ?_⟩ <;> omega), by first | exact ⟨cI_22.1.wt (by omega) e_m53, Or.inl ⟨rfl, by omega, cI_22.2⟩⟩ | exact ⟨mk_r _, Or.inr ⟨rfl, hR_18⟩⟩⟩, by first | (have u := e_m53; exact Or.inr ⟨rfl, reP_of dI_22 (by omega) e_m53⟩) | exact Or.inl ⟨rfl, rfl⟩⟩, by first | (have u := e_m53; exact fun A _ _ _ h => Or.inr ⟨rfl, mA_re h (ty_284_18 T_m) (by omega) cI_22.2 (reP_of dI_22 (by omega) e_m53)⟩) | exact fun A _ _ _ h => Or.inl ⟨rfl, h⟩⟩, by first | (have u := e_m53; exact tm_re (reP_of dI_22 (by omega) e_m53)) | exact tm_r _⟩⟩
-- TippedCratesModel.forget()I
set_option maxRecDepth 20000 in
theorem fz_278 {m : Mm}   (T_m : Ty m)   : CK 1 278 [.ref 284] m (fun m2 v => GX sMd m m2 ∧ ((((True) ∧ ((∀ j, rd m2 339 j = rd m 339 j) ∧ v = rd m 284 72 ∧ rd m2 284 72 = 0)) ∧ (∀ A, mA m A → mA m2 A)) ∧ (tlM m m2))) := by
  refine br_278  ?_
  unfold P_278
  have g_m : GX sMd m m := ⟨T_m, fun _ _ _ => rfl, fun _ _ => rfl⟩
  have t1 := ty_284_72 T_m
  intro z1_4 e_z1_4
  have r_z1_4 : rg z1_4 := by rw [e_z1_4]; exact (rd_rg _ _ _)
  intro m7 e_m7
  have g_m7 : GX sMd m m7 := by rw [e_m7]; exact GX.wt g_m (tw_284_72 T_m ⟨by omega, by omega⟩) (Eq.refl true)
  exact ⟨g_m7, by exact ⟨by exact ⟨by exact ⟨by first | trivial | omega | (refine ⟨?_, ?_⟩ <;> omega), by exact ⟨fun j => by rw [e_m7, rd_wt, if_neg (by omega)], by first | rfl | omega, by rw [e_m7, rd_wt, if_pos ⟨rfl, rfl⟩]; rfl⟩⟩, by exact fun A h => mA_fr h (ty_284_18 T_m) (fun i j q => by have q2 := tl_no q; rw [e_m7, rd_wt, if_neg (by omega)])⟩, by exact (tm_r m).wt (by omega) e_m7⟩⟩
-- TippedCratesModel.tell(IIZ)I
set_option maxRecDepth 20000 in
theorem fz_277 {m : Mm} {x1 : Int} {x2 : Int} {x3 : Int}  (T_m : Ty m) (r_x1 : rg x1) (r_x2 : rg x2) (r_x3 : rg x3)  : CK 3 277 [.ref 284, iv x1, iv x2, iv x3] m (fun m2 v => GX sMd m m2 ∧ ((((True) ∧ ((∀ j, rd m2 339 j = rd m 339 j) ∧ (((1 ≤ x1 ∧ x1 ≤ 5) ∧ (0 ≤ x2 ∧ x2 ≤ 9) ∧ rd m 284 72 < 20 ∧ v = rd m 284 72 ∧ rd m2 284 72 = rd m 284 72 + 1) ∨ (¬ ((1 ≤ x1 ∧ x1 ≤ 5) ∧ (0 ≤ x2 ∧ x2 ≤ 9) ∧ rd m 284 72 < 20) ∧ v = -1 ∧ rd m2 284 72 = rd m 284 72)))) ∧ (∀ A, mA m A → mA m2 A)) ∧ (tdS m m2 334 335 336 (rd m 284 72) x1 x2 x3 v))) := by
  refine br_277 r_x1 r_x2 r_x3 ?_
  unfold P_277
  have g_m : GX sMd m m := ⟨T_m, fun _ _ _ => rfl, fun _ _ => rfl⟩
  have tt := ty_284_72 T_m
  have t1 := ty_284_72 T_m
  refine ⟨fun m_25 => GX sMd m m_25 ∧ (True ∧ ¬ ((1 ≤ x1 ∧ x1 ≤ 5) ∧ (0 ≤ x2 ∧ x2 ≤ 9) ∧ rd m 284 72 < 20) ∧ m_25 = m), ?_, ?_⟩
  · skip
    refine ⟨fun hq => ?_, fun hq => ?_⟩
    · skip
      exact ⟨g_m, by exact ⟨trivial, by omega, rfl⟩⟩
    · skip
      refine CK.mono (ct_206   r_x1 (by unfold rg; decide) (by unfold rg; decide)) (by decide) ?_
      rintro m12 v12 r_v12 ⟨e_m12, h_m12⟩
      replace e_m12 := e_m12.symm
      subst e_m12
      refine ⟨fun hq => ?_, fun hq => ?_⟩
      · skip
        exact ⟨g_m, by exact ⟨trivial, by omega, rfl⟩⟩
      · skip
        refine CK.mono (ct_211   r_x2) (by decide) ?_
        rintro m19 v19 r_v19 ⟨e_m19, h_m19⟩
        replace e_m19 := e_m19.symm
        subst e_m19
        refine ⟨fun hq => ?_, fun hq => ?_⟩
        · skip
          refine ⟨⟨by omega, by omega⟩, ?_⟩
          intro m36 e_m36
          have g_m36 : GX sMd m m36 := by rw [e_m36]; exact GX.wt g_m (tw_334 T_m ⟨by omega, by omega⟩) (Eq.refl true)
          have u36 : rd m36 284 72 = rd m 284 72 := by rw [e_m36, rd_wt, if_neg (by omega)]
          have t2 := ty_284_72 g_m36.1
          refine ⟨⟨by omega, by omega⟩, ?_⟩
          intro m46 e_m46
          have g_m46 : GX sMd m m46 := by rw [e_m46]; exact GX.wt g_m36 (tw_335 g_m36.1 (by first | assumption | omega)) (Eq.refl true)
          have u46 : rd m46 284 72 = rd m36 284 72 := by rw [e_m46, rd_wt, if_neg (by omega)]
          have t3 := ty_284_72 g_m46.1
          refine ⟨⟨by omega, by omega⟩, ?_⟩
          intro m56 e_m56
          have g_m56 : GX sMd m m56 := by rw [e_m56]; exact GX.wt g_m46 (tw_336 g_m46.1 (nz_rg _)) (Eq.refl true)
          have u56 : rd m56 284 72 = rd m46 284 72 := by rw [e_m56, rd_wt, if_neg (by omega)]
          have t4 := ty_284_72 g_m56.1
          try have w5 : wr ((rd m56 284 72) + 1) = (rd m56 284 72) + 1 := wr_id (by omega) (by omega)
          intro m64 e_m64
          have g_m64 : GX sMd m m64 := by rw [e_m64]; exact GX.wt g_m56 (tw_284_72 g_m56.1 ⟨by omega, by omega⟩) (Eq.refl true)
          have q64 : rd m64 284 72 = rd m 284 72 + 1 := by rw [e_m64, rd_wt, if_pos ⟨rfl, rfl⟩, wr_i (wr_rg _), u56, u46, u36, wr_id (by omega) (by omega)]
          have h64 : ∀ j, rd m64 339 j = rd m 339 j := fun j => by rw [e_m64, rd_wt, if_neg (by omega), e_m56, rd_wt, if_neg (by omega), e_m46, rd_wt, if_neg (by omega), e_m36, rd_wt, if_neg (by omega)]
          have t6 := ty_284_72 g_m64.1
          try have w7 : wr ((rd m64 284 72) - 1) = (rd m64 284 72) - 1 := wr_id (by omega) (by omega)
          exact ⟨g_m64, by exact ⟨by exact ⟨by exact ⟨by first | trivial | omega | (refine ⟨?_, ?_⟩ <;> omega), by first | exact ⟨h64, Or.inl ⟨by omega, by omega, by omega, by rw [q64, wr_id (by omega) (by omega)]; omega, q64⟩⟩ | exact ⟨fun j => by rw [hR_25.2.2], Or.inr ⟨hR_25.2.1, rfl, by rw [hR_25.2.2]⟩⟩⟩, by first | (have u := e_m64; exact fun A h => mA_fr h (ty_284_18 T_m) (fun i j q => by have q2 := tl_no q; rw [e_m64, rd_wt, if_neg (by omega), e_m56, rd_wt, if_neg (by omega), e_m46, rd_wt, if_neg (by omega), e_m36, rd_wt, if_neg (by omega)])) | exact fun A h => by rw [hR_25.2.2]; exact h⟩, by first | exact td_w e_m36 e_m46 e_m56 e_m64 (by omega) (by decide) r_x1 r_x2 (by rw [q64, wr_id (by omega) (by omega)]; omega) | exact Or.inl ⟨rfl, fun _ _ _ => by rw [hR_25.2.2]⟩⟩⟩
        · skip
          exact ⟨g_m, by exact ⟨trivial, by omega, rfl⟩⟩
  · intro m_25  hR_25
    obtain ⟨g_m_25, hR_25⟩ := hR_25
    exact ⟨g_m_25, by exact ⟨by exact ⟨by exact ⟨by first | trivial | omega | (refine ⟨?_, ?_⟩ <;> omega), by first | exact ⟨h64, Or.inl ⟨by omega, by omega, by omega, by rw [q64, wr_id (by omega) (by omega)]; omega, q64⟩⟩ | exact ⟨fun j => by rw [hR_25.2.2], Or.inr ⟨hR_25.2.1, rfl, by rw [hR_25.2.2]⟩⟩⟩, by first | (have u := e_m64; exact fun A h => mA_fr h (ty_284_18 T_m) (fun i j q => by have q2 := tl_no q; rw [e_m64, rd_wt, if_neg (by omega), e_m56, rd_wt, if_neg (by omega), e_m46, rd_wt, if_neg (by omega), e_m36, rd_wt, if_neg (by omega)])) | exact fun A h => by rw [hR_25.2.2]; exact h⟩, by first | exact td_w e_m36 e_m46 e_m56 e_m64 (by omega) (by decide) r_x1 r_x2 (by rw [q64, wr_id (by omega) (by omega)]; omega) | exact Or.inl ⟨rfl, fun _ _ _ => by rw [hR_25.2.2]⟩⟩⟩
