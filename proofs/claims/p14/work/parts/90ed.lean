theorem mA_cp {m m1 : Mm} {A : Ab} (h : mA m A) (oY : okY A.Y) (oR : okR A.Y A.r) (l : 0 ≤ rd m 284 18 ∧ rd m 284 18 ≤ 1) (p : cpR m m1) : YM m1 A.Y A.E A.r ∧ mA m1 A :=
  ⟨⟨plM_fr h.1 l (fun i j q => p.2.2 i j (by unfold plR at q; omega) (by unfold plR at q; omega)), fun j hj => (p.1 j hj).trans (h.2.1 j hj), oY, oR⟩, mA_fr h l (fun i j q => p.2.2 i j (by unfold plR at q; omega) (by unfold plR at q; omega))⟩
theorem mA_sR {m m2 : Mm} {A : Ab} (h : mA m A) (l : 0 ≤ rd m 284 18 ∧ rd m 284 18 ≤ 1) (g : GX sR m m2) : mA m2 A := mA_fr h l (fun i j q => g.2.1 i j (sR_no (by unfold plR at q; omega)))
theorem mt_0 {m : Mm} {Y r : Ro} {E : Lw} {x1 x2 v : Int} (h : YM m Y E r) (hx : 0 ≤ x1 ∧ x1 < Y 3) (hk : 0 ≤ x2 ∧ x2 ≤ 3) (p : (v = 1 ∧ cfM m x1 (rd m 323 (Int.toNat (43 + x1))) x2) ∨ (v = 0 ∧ ¬ cfM m x1 (rd m 323 (Int.toNat (43 + x1))) x2)) (z : v = 0) (c : canN Y r x1 x2) : False := or_0 p z ((can_M h hx hk).mpr c)
theorem mt_1 {m m33 m37 : Mm} {A : Ab} {x1 x2 v : Int} (h : YM m A.Y A.E A.r ∧ mA m A) (n40 : A.n ≤ 40) (hx : 0 ≤ x1 ∧ x1 ≤ rd m 302 (Int.toNat (rd m 284 18)) - 1) (hk : 0 ≤ x2 ∧ x2 ≤ 3) (p : (v = 1 ∧ cfM m x1 (rd m 323 (Int.toNat (43 + x1))) x2) ∨ (v = 0 ∧ ¬ cfM m x1 (rd m 323 (Int.toNat (43 + x1))) x2)) (z : ¬ v = 0) (l : 0 ≤ rd m 284 18 ∧ rd m 284 18 ≤ 1) (l33 : 0 ≤ rd m33 284 18 ∧ rd m33 284 18 ≤ 1) (g : GX sR m m33) (q : ∀ Y E r, YM m Y E r → x1 < Y 3 → ¬ nxN Y (fC r x1) x2 = -1 → stM m33 (tiN Y E r x1 x2)) (rc : recP m33 m37) : ((0 ≤ x1 ∧ x1 < A.Y 3) ∧ (0 ≤ x2 ∧ x2 ≤ 3) ∧ canN A.Y A.r x1 x2) ∧ mA m37 (noA A (tiN A.Y A.E A.r x1 x2)) ∧ rd m37 322 (Int.toNat (wr (43 + x1))) = fC (tiN A.Y A.E A.r x1 x2) x1 := by
  have e3 := h.1.1.1.2.2.2.1
  have y3 := h.1.2.2.1.2.2
  have hx3 : 0 ≤ x1 ∧ x1 < A.Y 3 := by omega
  have cn := (can_M h.1 hx3 hk).mp (or_1 p z)
  have r := mA_rec (mA_sR h.2 l g) l33 (q A.Y A.E A.r h.1 hx3.2 cn.1) rc n40
  refine ⟨⟨hx3, hk, cn⟩, r, ?_⟩
  rw [wr_id (x := 43 + x1) (by omega) (by omega)]
  exact r.2.1 _ (by omega)
theorem mgo_1 {m0 m m27 m31 : Mm} {A : Ab} {x1 : Int} (h : YM m A.Y A.E A.r ∧ mA m A) (n40 : A.n ≤ 40) (cp : cpR m0 m) (h0 : mA m0 A) (l : 0 ≤ rd m 284 18 ∧ rd m 284 18 ≤ 1) (l27 : 0 ≤ rd m27 284 18 ∧ rd m27 284 18 ≤ 1) (g : GX sR m m27) (q : ∀ Y E r, YM m Y E r → YM m27 Y E (goN Y E (rd m 284 58) r (Int.toNat x1))) (rc : recP m27 m31) : mA m31 (noA A (goN A.Y A.E (A.Y 4) A.r (Int.toNat x1))) ∧ rd m31 322 49 = goN A.Y A.E (A.Y 4) A.r (Int.toNat x1) 49 := by
  have e58 : rd m 284 58 = A.Y 4 := cp.2.1.trans h0.1.1.2.2.2.2
  have y := q A.Y A.E A.r h.1
  rw [e58] at y
  have r := mA_rec (mA_sR h.2 l g) l27 y.2.1 rc n40
  exact ⟨r, r.2.1 49 (by omega)⟩
-- TippedCratesModel.undo()Z
set_option maxRecDepth 20000 in
theorem me_245 {m : Mm}   (T_m : Ty m)   : CK 1 245 [.ref 284] m (fun m2 v => GX sMd m m2 ∧ ((((True) ∧ (mk m m2)) ∧ ((v = 0 ∧ rd m 284 60 = 0 ∧ m2 = m) ∨ (v = 1 ∧ ¬ rd m 284 60 = 0 ∧ unP m m2))) ∧ (∀ A, okY A.Y → okR A.Y A.r → A.n ≤ 40 → mA m A → (v = 0 ∧ A.n = 0 ∧ mA m2 A) ∨ (v = 1 ∧ ¬ A.n = 0 ∧ mA m2 (unB A))))) := by
  refine br_245  ?_
  unfold P_245
  have g_m : GX sMd m m := ⟨T_m, fun _ _ _ => rfl, fun _ _ => rfl⟩
  have tu := ty_284_60 T_m
  have t1 := ty_284_60 T_m
  refine ⟨fun hq => ?_, fun hq => ?_⟩
  · skip
    try have w2 : wr ((rd m 284 60) - 1) = (rd m 284 60) - 1 := wr_id (by omega) (by omega)
    intro m16 e_m16
    have g_m16 : GX sMd m m16 := by rw [e_m16]; exact GX.wt g_m (tw_284_60 T_m ⟨by omega, by omega⟩) (Eq.refl true)
    have u16 : rd m16 284 60 = rd m 284 60 - 1 := by rw [e_m16, rd_wt, if_pos ⟨rfl, rfl⟩, wr_i (wr_rg _), wr_id (by omega) (by omega)]
    refine ⟨fun x1_21 m_21 => GX sMd m m_21 ∧ ((((0 ≤ x1_21 ∧ x1_21 ≤ 51) ∧ rd m_21 284 60 ≤ 39) ∧ (mk m m_21)) ∧ (cpI m16 m_21 322 324 0 (51 * Int.toNat (rd m16 284 60)) x1_21)), fun x1_21 m_21 => Int.toNat (51 - x1_21), ?_, ?_⟩
    · exact ⟨g_m16, by exact ⟨by exact ⟨by first | omega | (refine ⟨?_, ?_⟩ <;> omega) | trivial, by exact (mk_r m).wt (by omega) e_m16⟩, by exact cpI_0⟩⟩
    · intro x1_21 m_21 r_x1_21 hI_21
      obtain ⟨g_m_21, hI_21⟩ := hI_21
      obtain ⟨hI_21, dI_21⟩ := hI_21
      obtain ⟨hI_21, cI_21⟩ := hI_21
      refine ⟨fun hq => ?_, fun hq => ?_⟩
      · skip
        exact ⟨g_m_21, by exact ⟨by exact ⟨by exact ⟨by first | trivial | omega | (refine ⟨?_, ?_⟩ <;> omega), by first | exact cI_21 | exact mk_r _⟩, by first | exact Or.inr ⟨rfl, by assumption, unP_of dI_21 (by omega) e_m16 u16⟩ | exact Or.inl ⟨rfl, by omega, rfl⟩⟩, by first | (have u := e_m16; exact fun A _ _ _ h => Or.inr ⟨rfl, by have := h.2.2.1; omega, mA_un h (ty_284_18 T_m) (by omega) (unP_of dI_21 (by omega) e_m16 u16)⟩) | exact fun A _ _ _ h => Or.inl ⟨rfl, by have := h.2.2.1; omega, h⟩⟩⟩
      · skip
        have t3 := ty_284_60 g_m_21.1
        try have w4 : wr (51 * (rd m_21 284 60)) = 51 * (rd m_21 284 60) := wr_id (by omega) (by omega)
        try have w5 : wr ((wr (51 * (rd m_21 284 60))) + x1_21) = (wr (51 * (rd m_21 284 60))) + x1_21 := wr_id (by omega) (by omega)
        refine ⟨⟨by omega, by omega⟩, ?_⟩
        refine ⟨⟨by omega, by omega⟩, ?_⟩
        have t6 := tr_324 g_m_21.1 (Int.toNat (wr ((wr (51 * (rd m_21 284 60))) + x1_21)))
        intro m46 e_m46
        have g_m46 : GX sMd m m46 := by rw [e_m46]; exact GX.wt g_m_21 (tz_322 g_m_21.1 (rd_rg _ _ _) (fun h => (tr_324 g_m_21.1 _).1 (by omega)) (fun h1 h2 => (tr_324 g_m_21.1 _).2 (by omega) (by omega))) (Eq.refl true)
        have u46 : rd m46 284 60 = rd m_21 284 60 := by rw [e_m46, rd_wt, if_neg (by omega)]
        try have w7 : wr (x1_21 + 1) = x1_21 + 1 := wr_id (by omega) (by omega)
        intro z1_47 e_z1_47
        have r_z1_47 : rg z1_47 := by rw [e_z1_47]; exact wr_rg _
        exact ⟨⟨g_m46, by exact ⟨by exact ⟨by first | omega | (refine ⟨?_, ?_⟩ <;> omega) | trivial, by exact cI_21.wt (by omega) e_m46⟩, by exact cpI_s dI_21 (by omega) (by omega) e_m46 (by omega) (by rw [show rd m_21 284 60 = rd m16 284 60 from dI_21.1 284 60 (by omega), wr_id (x := 51 * rd m16 284 60) (by omega) (by omega), wr_id (by omega) (by omega)]; omega) (by omega)⟩⟩, by (try dsimp only); omega⟩
  · skip
    exact ⟨g_m, by exact ⟨by exact ⟨by exact ⟨by first | trivial | omega | (refine ⟨?_, ?_⟩ <;> omega), by first | exact cI_21 | exact mk_r _⟩, by first | exact Or.inr ⟨rfl, by assumption, unP_of dI_21 (by omega) e_m16 u16⟩ | exact Or.inl ⟨rfl, by omega, rfl⟩⟩, by first | (have u := e_m16; exact fun A _ _ _ h => Or.inr ⟨rfl, by have := h.2.2.1; omega, mA_un h (ty_284_18 T_m) (by omega) (unP_of dI_21 (by omega) e_m16 u16)⟩) | exact fun A _ _ _ h => Or.inl ⟨rfl, by have := h.2.2.1; omega, h⟩⟩⟩
-- TippedCratesModel.hold(I)Z
set_option maxRecDepth 20000 in
theorem me_284 {m : Mm} {x1 : Int}  (T_m : Ty m) (r_x1 : rg x1)  : CK 2 284 [.ref 284, iv x1] m (fun m2 v => GX sMd m m2 ∧ (((((v = 1 ∧ 0 ≤ x1 ∧ x1 ≤ 2) ∨ (v = 0 ∧ (x1 < 0 ∨ 2 < x1))) ∧ (((0 ≤ x1 ∧ x1 ≤ 2) ∧ rd m2 284 72 = rd m 284 72 ∧ rd m2 339 (Int.toNat x1) = 1 ∧ ∀ j : Nat, ¬ j = Int.toNat x1 → rd m2 339 j = rd m 339 j) ∨ ((x1 < 0 ∨ 2 < x1) ∧ mk m m2))) ∧ ((0 ≤ x1 ∧ x1 ≤ 2) → hoP m m2 (Int.toNat x1))) ∧ (∀ A, okY A.Y → okR A.Y A.r → A.n ≤ 40 → mA m A → ((0 ≤ x1 ∧ x1 ≤ 2) → mA m2 (hoA A (Int.toNat x1))) ∧ (¬ (0 ≤ x1 ∧ x1 ≤ 2) → mA m2 A)))) := by
  refine br_284 r_x1 ?_
  unfold P_284
  have g_m : GX sMd m m := ⟨T_m, fun _ _ _ => rfl, fun _ _ => rfl⟩
  refine CK.mono (ct_206   r_x1 (by unfold rg; decide) (by unfold rg; decide)) (by decide) ?_
  rintro m3 v3 r_v3 ⟨e_m3, h_m3⟩
  replace e_m3 := e_m3.symm
  subst e_m3
  refine ⟨fun hq => ?_, fun hq => ?_⟩
  · skip
    refine ⟨⟨by omega, by omega⟩, ?_⟩
    intro m17 e_m17
    have g_m17 : GX sMd m m17 := by rw [e_m17]; exact GX.wt g_m (tw_339 T_m (nz_rg _)) (Eq.refl true)
    refine ⟨fun x2_20 m_20 => GX sMd m m_20 ∧ (((0 ≤ x2_20 ∧ x2_20 ≤ 51) ∧ ((0 ≤ x1 ∧ x1 ≤ 2) ∧ rd m_20 284 72 = rd m 284 72 ∧ rd m_20 339 (Int.toNat x1) = 1 ∧ ∀ j : Nat, ¬ j = Int.toNat x1 → rd m_20 339 j = rd m 339 j)) ∧ (cpI m17 m_20 340 322 (51 * Int.toNat x1) 0 x2_20)), fun x2_20 m_20 => Int.toNat (51 - x2_20), ?_, ?_⟩
    · exact ⟨g_m17, by exact ⟨by exact ⟨by first | omega | (refine ⟨?_, ?_⟩ <;> omega) | trivial, by exact ⟨by omega, by rw [e_m17, rd_wt, if_neg (by omega)], by rw [e_m17, rd_wt, if_pos ⟨rfl, rfl⟩]; exact nz1, fun j hj => by rw [e_m17, rd_wt, if_neg (fun w => hj w.2)]⟩⟩, by exact cpI_0⟩⟩
    · intro x2_20 m_20 r_x2_20 hI_20
      obtain ⟨g_m_20, hI_20⟩ := hI_20
      obtain ⟨hI_20, dI_20⟩ := hI_20
      obtain ⟨hI_20, cI_20⟩ := hI_20
      refine ⟨fun hq => ?_, fun hq => ?_⟩
      · skip
        exact ⟨g_m_20, by exact ⟨by exact ⟨by exact ⟨by first | trivial | omega | (refine ⟨?_, ?_⟩ <;> omega), by first | exact Or.inl ⟨cI_20.1, cI_20.2⟩ | exact Or.inr ⟨by omega, mk_r _⟩⟩, by first | (have u := e_m17; exact fun _ => hoP_of dI_20 (by omega) e_m17) | exact fun w => by omega⟩, by first | (have u := e_m17; exact fun A _ _ _ h => ⟨fun _ => mA_ho h (ty_284_18 T_m) (by omega) (hoP_of dI_20 (by omega) e_m17) cI_20.2.2.1, fun w => by omega⟩) | exact fun A _ _ _ h => ⟨fun w => by omega, fun _ => h⟩⟩⟩
      · skip
        refine ⟨⟨by omega, by omega⟩, ?_⟩
        try have w1 : wr (51 * x1) = 51 * x1 := wr_id (by omega) (by omega)
        try have w2 : wr ((wr (51 * x1)) + x2_20) = (wr (51 * x1)) + x2_20 := wr_id (by omega) (by omega)
        refine ⟨⟨by omega, by omega⟩, ?_⟩
        have t3 := tr_322 g_m_20.1 (Int.toNat x2_20)
        intro m42 e_m42
        have g_m42 : GX sMd m m42 := by rw [e_m42]; exact GX.wt g_m_20 (tz_340 g_m_20.1 (rd_rg _ _ _) (fun h => (tr_322 g_m_20.1 _).1 (by omega)) (fun h1 h2 => (tr_322 g_m_20.1 _).2 (by omega) (by omega))) (Eq.refl true)
        have f42 : ∀ i j : Nat, ¬ i = 340 → rd m42 i j = rd m_20 i j := fun i j q => by rw [e_m42, rd_wt, if_neg (fun w => q w.1)]
        try have w4 : wr (x2_20 + 1) = x2_20 + 1 := wr_id (by omega) (by omega)
        intro z2_43 e_z2_43
        have r_z2_43 : rg z2_43 := by rw [e_z2_43]; exact wr_rg _
        exact ⟨⟨g_m42, by exact ⟨by exact ⟨by first | omega | (refine ⟨?_, ?_⟩ <;> omega) | trivial, by exact ⟨cI_20.1, by rw [f42 284 72 (by omega)]; exact cI_20.2.1, by rw [f42 339 _ (by omega)]; exact cI_20.2.2.1, fun j hj => by rw [f42 339 _ (by omega)]; exact cI_20.2.2.2 j hj⟩⟩, by exact cpI_s dI_20 (by omega) (by omega) e_m42 (by rw [wr_id (x := 51 * x1) (by omega) (by omega), wr_id (by omega) (by omega)]; omega) (by omega) (by omega)⟩⟩, by (try dsimp only); omega⟩
  · skip
    exact ⟨g_m, by exact ⟨by exact ⟨by exact ⟨by first | trivial | omega | (refine ⟨?_, ?_⟩ <;> omega), by first | exact Or.inl ⟨cI_20.1, cI_20.2⟩ | exact Or.inr ⟨by omega, mk_r _⟩⟩, by first | (have u := e_m17; exact fun _ => hoP_of dI_20 (by omega) e_m17) | exact fun w => by omega⟩, by first | (have u := e_m17; exact fun A _ _ _ h => ⟨fun _ => mA_ho h (ty_284_18 T_m) (by omega) (hoP_of dI_20 (by omega) e_m17) cI_20.2.2.1, fun w => by omega⟩) | exact fun A _ _ _ h => ⟨fun w => by omega, fun _ => h⟩⟩⟩
-- TippedCratesModel.restore(I)Z
set_option maxRecDepth 20000 in
theorem me_285 {m : Mm} {x1 : Int}  (T_m : Ty m) (r_x1 : rg x1)  : CK 2 285 [.ref 284, iv x1] m (fun m2 v => GX sMd m m2 ∧ ((((v = 0 ∨ v = 1) ∧ (mk m m2 ∧ ((v = 1 ∧ (0 ≤ x1 ∧ x1 ≤ 2) ∧ ¬ rd m 339 (Int.toNat x1) = 0) ∨ (v = 0 ∧ ((x1 < 0 ∨ 2 < x1) ∨ rd m 339 (Int.toNat x1) = 0))))) ∧ ((v = 0 ∧ m2 = m) ∨ (v = 1 ∧ reP m m2 (Int.toNat x1)))) ∧ (∀ A, okY A.Y → okR A.Y A.r → A.n ≤ 40 → mA m A → (v = 0 ∧ mA m2 A) ∨ (v = 1 ∧ mA m2 (reA A (Int.toNat x1)))))) := by
  refine br_285 r_x1 ?_
  unfold P_285
  have g_m : GX sMd m m := ⟨T_m, fun _ _ _ => rfl, fun _ _ => rfl⟩
  refine CK.mono (ct_206   r_x1 (by unfold rg; decide) (by unfold rg; decide)) (by decide) ?_
  rintro m3 v3 r_v3 ⟨e_m3, h_m3⟩
  replace e_m3 := e_m3.symm
  subst e_m3
  refine ⟨(x1 < 0 ∨ 2 < x1) ∨ rd m 339 (Int.toNat x1) = 0, ?_, ?_⟩
  · skip
    refine ⟨fun hq => ?_, fun hq => ?_⟩
    · skip
      (omega)
    · skip
      refine ⟨⟨by omega, by omega⟩, ?_⟩
      refine ⟨fun hq => ?_, fun hq => ?_⟩
      · skip
        refine ⟨fun x2_22 m_22 => GX sMd m m_22 ∧ (((0 ≤ x2_22 ∧ x2_22 ≤ 51) ∧ (mk m m_22 ∧ ¬ rd m 339 (Int.toNat x1) = 0)) ∧ (cpI m m_22 322 340 0 (51 * Int.toNat x1) x2_22)), fun x2_22 m_22 => Int.toNat (51 - x2_22), ?_, ?_⟩
        · exact ⟨g_m, by exact ⟨by exact ⟨by first | omega | (refine ⟨?_, ?_⟩ <;> omega) | trivial, by exact ⟨mk_r _, by omega⟩⟩, by exact cpI_0⟩⟩
        · intro x2_22 m_22 r_x2_22 hI_22
          obtain ⟨g_m_22, hI_22⟩ := hI_22
          obtain ⟨hI_22, dI_22⟩ := hI_22
          obtain ⟨hI_22, cI_22⟩ := hI_22
          refine ⟨fun hq => ?_, fun hq => ?_⟩
          · skip
            intro m53 e_m53
            have g_m53 : GX sMd m m53 := by rw [e_m53]; exact GX.wt g_m_22 (tw_284_60 g_m_22.1 ⟨by omega, by omega⟩) (Eq.refl true)
            exact ⟨g_m53, by exact ⟨by exact ⟨by exact ⟨by first | trivial | omega | (refine ⟨?_, ?_⟩ <;> omega), by first | exact ⟨cI_22.1.wt (by omega) e_m53, Or.inl ⟨rfl, by omega, cI_22.2⟩⟩ | exact ⟨mk_r _, Or.inr ⟨rfl, hR_18⟩⟩⟩, by first | (have u := e_m53; exact Or.inr ⟨rfl, reP_of dI_22 (by omega) e_m53⟩) | exact Or.inl ⟨rfl, rfl⟩⟩, by first | (have u := e_m53; exact fun A _ _ _ h => Or.inr ⟨rfl, mA_re h (ty_284_18 T_m) (by omega) cI_22.2 (reP_of dI_22 (by omega) e_m53)⟩) | exact fun A _ _ _ h => Or.inl ⟨rfl, h⟩⟩⟩
          · skip
            try have w2 : wr (51 * x1) = 51 * x1 := wr_id (by omega) (by omega)
            try have w3 : wr ((wr (51 * x1)) + x2_22) = (wr (51 * x1)) + x2_22 := wr_id (by omega) (by omega)
            refine ⟨⟨by omega, by omega⟩, ?_⟩
            refine ⟨⟨by omega, by omega⟩, ?_⟩
            have t4 := tr_340 g_m_22.1 (Int.toNat (wr ((wr (51 * x1)) + x2_22)))
            intro m44 e_m44
            have g_m44 : GX sMd m m44 := by rw [e_m44]; exact GX.wt g_m_22 (tz_322 g_m_22.1 (rd_rg _ _ _) (fun h => (tr_340 g_m_22.1 _).1 (by omega)) (fun h1 h2 => (tr_340 g_m_22.1 _).2 (by omega) (by omega))) (Eq.refl true)
            try have w5 : wr (x2_22 + 1) = x2_22 + 1 := wr_id (by omega) (by omega)
            intro z2_45 e_z2_45
            have r_z2_45 : rg z2_45 := by rw [e_z2_45]; exact wr_rg _
            exact ⟨⟨g_m44, by exact ⟨by exact ⟨by first | omega | (refine ⟨?_, ?_⟩ <;> omega) | trivial, by exact ⟨cI_22.1.wt (by omega) e_m44, cI_22.2⟩⟩, by exact cpI_s dI_22 (by omega) (by omega) e_m44 (by omega) (by rw [wr_id (x := 51 * x1) (by omega) (by omega), wr_id (by omega) (by omega)]; omega) (by omega)⟩⟩, by (try dsimp only); omega⟩
      · skip
        (omega)
  · intro   hR_18
    exact ⟨g_m, by exact ⟨by exact ⟨by exact ⟨by first | trivial | omega | (refine ⟨?_, ?_⟩ <;> omega), by first | exact ⟨cI_22.1.wt (by omega) e_m53, Or.inl ⟨rfl, by omega, cI_22.2⟩⟩ | exact ⟨mk_r _, Or.inr ⟨rfl, hR_18⟩⟩⟩, by first | (have u := e_m53; exact Or.inr ⟨rfl, reP_of dI_22 (by omega) e_m53⟩) | exact Or.inl ⟨rfl, rfl⟩⟩, by first | (have u := e_m53; exact fun A _ _ _ h => Or.inr ⟨rfl, mA_re h (ty_284_18 T_m) (by omega) cI_22.2 (reP_of dI_22 (by omega) e_m53)⟩) | exact fun A _ _ _ h => Or.inl ⟨rfl, h⟩⟩⟩
-- TippedCratesModel.tip(II)I
set_option maxRecDepth 20000 in
theorem mz_241 {m : Mm} {x1 : Int} {x2 : Int}  (T_m : Ty m) (r_x1 : rg x1) (r_x2 : rg x2) (p0 : MW m) (p1 : lawsM m) : CK 7 241 [.ref 284, iv x1, iv x2] m (fun m2 v => GX sMd m m2 ∧ (((True) ∧ (mk m m2)) ∧ (∀ A, okY A.Y → okR A.Y A.r → A.n ≤ 40 → mA m A → (((0 ≤ x1 ∧ x1 < A.Y 3) ∧ (0 ≤ x2 ∧ x2 ≤ 3) ∧ canN A.Y A.r x1 x2) ∧ mA m2 (noA A (tiN A.Y A.E A.r x1 x2)) ∧ v = fC (tiN A.Y A.E A.r x1 x2) x1) ∨ (¬ ((0 ≤ x1 ∧ x1 < A.Y 3) ∧ (0 ≤ x2 ∧ x2 ≤ 3) ∧ canN A.Y A.r x1 x2) ∧ mA m2 A ∧ v = -1)))) := by
  refine br_241 r_x1 r_x2 ?_
  unfold P_241
  have g_m : GX sMd m m := ⟨T_m, fun _ _ _ => rfl, fun _ _ => rfl⟩
  refine CV.mono (mz_216   T_m) (by decide) ?_
  rintro m1 ⟨hx_m1, h_m1⟩
  have g_m1 : GX sMd m m1 := gx_in g_m hx_m1 in_sC_sMd
  refine CK.mono (ct_210   g_m1.1 r_x1) (by decide) ?_
  rintro m6 v6 r_v6 ⟨e_m6, h_m6⟩
  replace e_m6 := e_m6.symm
  subst e_m6
  refine ⟨fun m_28 => GX sMd m m_28 ∧ (((True) ∧ mk m m_28) ∧ (∀ A, okY A.Y → okR A.Y A.r → A.n ≤ 40 → mA m A → ¬ ((0 ≤ x1 ∧ x1 < A.Y 3) ∧ (0 ≤ x2 ∧ x2 ≤ 3) ∧ canN A.Y A.r x1 x2) ∧ mA m_28 A)), ?_, ?_⟩
  · skip
    refine ⟨fun hq => ?_, fun hq => ?_⟩
    · skip
      exact ⟨g_m1, by exact ⟨by exact ⟨by first | trivial | omega, mk_gx hx_m1 rfl (fun _ => rfl)⟩, by first | (have u := c_m22; exact fun A oY oR _ h => ⟨fun w => mt_0 (mA_cp h oY oR (ty_284_18 T_m) h_m1.2).1 w.1 w.2.1 c_m22 (by omega) w.2.2, (mA_cp h oY oR (ty_284_18 T_m) h_m1.2).2⟩) | exact fun A oY oR _ h => ⟨fun w => by have := (mA_cp h oY oR (ty_284_18 T_m) h_m1.2).1.1.1.2.2.2.1; omega, (mA_cp h oY oR (ty_284_18 T_m) h_m1.2).2⟩⟩⟩
    · skip
      refine CK.mono (ct_212   r_x2) (by decide) ?_
      rintro m13 v13 r_v13 ⟨e_m13, h_m13⟩
      replace e_m13 := e_m13.symm
      subst e_m13
      refine ⟨fun hq => ?_, fun hq => ?_⟩
      · skip
        exact ⟨g_m1, by exact ⟨by exact ⟨by first | trivial | omega, mk_gx hx_m1 rfl (fun _ => rfl)⟩, by first | (have u := c_m22; exact fun A oY oR _ h => ⟨fun w => mt_0 (mA_cp h oY oR (ty_284_18 T_m) h_m1.2).1 w.1 w.2.1 c_m22 (by omega) w.2.2, (mA_cp h oY oR (ty_284_18 T_m) h_m1.2).2⟩) | exact fun A oY oR _ h => ⟨fun w => by have := (mA_cp h oY oR (ty_284_18 T_m) h_m1.2).1.1.1.2.2.2.1; omega, (mA_cp h oY oR (ty_284_18 T_m) h_m1.2).2⟩⟩⟩
      · skip
        refine CK.mono (mz_224   g_m1.1 r_x1 r_x2 (MW_D p0 g_m1) (by omega) (by omega)) (by decide) ?_
        rintro m22 v22 r_v22 ⟨e_m22, h_m22⟩
        replace e_m22 := e_m22.symm
        subst e_m22
        obtain ⟨h_m22, c_m22⟩ := h_m22
        refine ⟨fun hq => ?_, fun hq => ?_⟩
        · skip
          refine CV.mono (mz_233   g_m1.1 r_x1 r_x2 (MW_D p0 g_m1) (laws_D p1 g_m1) (by omega) (by omega) (h_m22.2 (by omega))) (by decide) ?_
          rintro m33 ⟨hx_m33, h_m33⟩
          have g_m33 : GX sMd m m33 := gx_in g_m1 hx_m33 in_sR_sMd
          refine CV.mono (mz_240   g_m33.1) (by decide) ?_
          rintro m37 ⟨hx_m37, h_m37⟩
          have g_m37 : GX sMd m m37 := gx_in g_m33 hx_m37 (fun _ _ h => h)
          obtain ⟨h_m37, c_m37⟩ := h_m37
          obtain ⟨h_m37, k_m37⟩ := h_m37
          try have w1 : wr (43 + x1) = 43 + x1 := wr_id (by omega) (by omega)
          refine ⟨⟨by omega, by omega⟩, ?_⟩
          have t2 := tr_322 g_m37.1 (Int.toNat (wr (43 + x1)))
          exact ⟨g_m37, by exact ⟨by exact ⟨by first | trivial | omega | (refine ⟨?_, ?_⟩ <;> omega), by first | exact ((mk_gx hx_m1 rfl (fun _ => rfl)).trans (mk_gx hx_m33 rfl (fun _ => rfl))).trans k_m37 | exact cR_28⟩, by first | (have u := c_m22; exact fun A oY oR n40 h => Or.inl (mt_1 (mA_cp h oY oR (ty_284_18 T_m) h_m1.2) n40 (by omega) (by omega) c_m22 (by omega) (ty_284_18 g_m1.1) (ty_284_18 g_m33.1) hx_m33 h_m33.2 c_m37)) | exact fun A oY oR n40 h => Or.inr ⟨(dR_28 A oY oR n40 h).1, (dR_28 A oY oR n40 h).2, rfl⟩⟩⟩
        · skip
          exact ⟨g_m1, by exact ⟨by exact ⟨by first | trivial | omega, mk_gx hx_m1 rfl (fun _ => rfl)⟩, by first | (have u := c_m22; exact fun A oY oR _ h => ⟨fun w => mt_0 (mA_cp h oY oR (ty_284_18 T_m) h_m1.2).1 w.1 w.2.1 c_m22 (by omega) w.2.2, (mA_cp h oY oR (ty_284_18 T_m) h_m1.2).2⟩) | exact fun A oY oR _ h => ⟨fun w => by have := (mA_cp h oY oR (ty_284_18 T_m) h_m1.2).1.1.1.2.2.2.1; omega, (mA_cp h oY oR (ty_284_18 T_m) h_m1.2).2⟩⟩⟩
  · intro m_28  hR_28
    obtain ⟨g_m_28, hR_28⟩ := hR_28
    obtain ⟨hR_28, dR_28⟩ := hR_28
    obtain ⟨hR_28, cR_28⟩ := hR_28
    exact ⟨g_m_28, by exact ⟨by exact ⟨by first | trivial | omega | (refine ⟨?_, ?_⟩ <;> omega), by first | exact ((mk_gx hx_m1 rfl (fun _ => rfl)).trans (mk_gx hx_m33 rfl (fun _ => rfl))).trans k_m37 | exact cR_28⟩, by first | (have u := c_m22; exact fun A oY oR n40 h => Or.inl (mt_1 (mA_cp h oY oR (ty_284_18 T_m) h_m1.2) n40 (by omega) (by omega) c_m22 (by omega) (ty_284_18 g_m1.1) (ty_284_18 g_m33.1) hx_m33 h_m33.2 c_m37)) | exact fun A oY oR n40 h => Or.inr ⟨(dR_28 A oY oR n40 h).1, (dR_28 A oY oR n40 h).2, rfl⟩⟩⟩
-- TippedCratesModel.minutes(I)I
set_option maxRecDepth 20000 in
theorem mz_244 {m : Mm} {x1 : Int}  (T_m : Ty m) (r_x1 : rg x1) (p0 : MW m) (p1 : lawsM m) : CK 9 244 [.ref 284, iv x1] m (fun m2 v => GX sMd m m2 ∧ (((True) ∧ (mk m m2)) ∧ (∀ A, okY A.Y → okR A.Y A.r → A.n ≤ 40 → mA m A → (¬ (0 ≤ x1 ∧ x1 ≤ 60) ∧ mA m2 A ∧ v = -1) ∨ (x1 = 0 ∧ mA m2 A ∧ v = A.r 49) ∨ ((1 ≤ x1 ∧ x1 ≤ 60) ∧ mA m2 (noA A (goN A.Y A.E (A.Y 4) A.r (Int.toNat x1))) ∧ v = goN A.Y A.E (A.Y 4) A.r (Int.toNat x1) 49)))) := by
  refine br_244 r_x1 ?_
  unfold P_244
  have g_m : GX sMd m m := ⟨T_m, fun _ _ _ => rfl, fun _ _ => rfl⟩
  refine CK.mono (ct_243   r_x1) (by decide) ?_
  rintro m1 v1 r_v1 ⟨e_m1, h_m1⟩
  replace e_m1 := e_m1.symm
  subst e_m1
  refine ⟨fun hq => ?_, fun hq => ?_⟩
  · skip
    refine ⟨fun hq => ?_, fun hq => ?_⟩
    · skip
      refine CV.mono (mz_216   T_m) (by decide) ?_
      rintro m22 ⟨hx_m22, h_m22⟩
      have g_m22 : GX sMd m m22 := gx_in g_m hx_m22 in_sC_sMd
      refine CV.mono (mz_235   g_m22.1 r_x1 (MW_D p0 g_m22) (laws_D p1 g_m22) (by omega)) (by decide) ?_
      rintro m27 ⟨hx_m27, h_m27⟩
      have g_m27 : GX sMd m m27 := gx_in g_m22 hx_m27 in_sR_sMd
      refine CV.mono (mz_240   g_m27.1) (by decide) ?_
      rintro m31 ⟨hx_m31, h_m31⟩
      have g_m31 : GX sMd m m31 := gx_in g_m27 hx_m31 (fun _ _ h => h)
      obtain ⟨h_m31, c_m31⟩ := h_m31
      obtain ⟨h_m31, k_m31⟩ := h_m31
      have t1 := tr_322 g_m31.1 49
      exact ⟨g_m31, by exact ⟨by exact ⟨by first | trivial | omega | (refine ⟨?_, ?_⟩ <;> omega), by first | exact ((mk_gx hx_m22 rfl (fun _ => rfl)).trans (mk_gx hx_m27 rfl (fun _ => rfl))).trans k_m31 | exact mk_r _⟩, by first | (have u := c_m31; exact fun A oY oR n40 h => Or.inr (Or.inr ⟨by omega, mgo_1 (mA_cp h oY oR (ty_284_18 T_m) h_m22.2) n40 h_m22.2 h (ty_284_18 g_m22.1) (ty_284_18 g_m27.1) hx_m27 h_m27.2 c_m31⟩)) | exact fun A oY oR _ h => Or.inr (Or.inl ⟨by omega, h, h.2.1 49 (by omega)⟩) | exact fun A oY oR _ h => Or.inl ⟨by omega, h, rfl⟩⟩⟩
    · skip
      have t2 := tr_322 T_m 49
      exact ⟨g_m, by exact ⟨by exact ⟨by first | trivial | omega | (refine ⟨?_, ?_⟩ <;> omega), by first | exact ((mk_gx hx_m22 rfl (fun _ => rfl)).trans (mk_gx hx_m27 rfl (fun _ => rfl))).trans k_m31 | exact mk_r _⟩, by first | (have u := c_m31; exact fun A oY oR n40 h => Or.inr (Or.inr ⟨by omega, mgo_1 (mA_cp h oY oR (ty_284_18 T_m) h_m22.2) n40 h_m22.2 h (ty_284_18 g_m22.1) (ty_284_18 g_m27.1) hx_m27 h_m27.2 c_m31⟩)) | exact fun A oY oR _ h => Or.inr (Or.inl ⟨by omega, h, h.2.1 49 (by omega)⟩) | exact fun A oY oR _ h => Or.inl ⟨by omega, h, rfl⟩⟩⟩
  · skip
    exact ⟨g_m, by exact ⟨by exact ⟨by first | trivial | omega | (refine ⟨?_, ?_⟩ <;> omega), by first | exact ((mk_gx hx_m22 rfl (fun _ => rfl)).trans (mk_gx hx_m27 rfl (fun _ => rfl))).trans k_m31 | exact mk_r _⟩, by first | (have u := c_m31; exact fun A oY oR n40 h => Or.inr (Or.inr ⟨by omega, mgo_1 (mA_cp h oY oR (ty_284_18 T_m) h_m22.2) n40 h_m22.2 h (ty_284_18 g_m22.1) (ty_284_18 g_m27.1) hx_m27 h_m27.2 c_m31⟩)) | exact fun A oY oR _ h => Or.inr (Or.inl ⟨by omega, h, h.2.1 49 (by omega)⟩) | exact fun A oY oR _ h => Or.inl ⟨by omega, h, rfl⟩⟩⟩
