/-- a flag may be painted so -/
def paP (A : Ab) (x k : Int) : Prop := (0 ≤ x ∧ x < A.Y 0 * A.Y 1) ∧ (0 ≤ k ∧ k ≤ 9) ∧ ¬ A.r (Int.toNat x) = k ∧ ¬ anI (srI (A.Y 2) x) 1 = 1 ∧ ∀ c : Int, 0 ≤ c → c < A.Y 3 → ¬ fC A.r c = x
theorem pf_M {m : Mm} {A : Ab} {x1 x2 v : Int} (h : YM m A.Y A.E A.r ∧ mA m A) (w : paP A x1 x2) (p : (v = 1 ∧ 0 ≤ x1 ∧ x1 < rd m 293 (Int.toNat (rd m 284 18)) * rd m 294 (Int.toNat (rd m 284 18))) ∨ (v = 0 ∧ ¬ (0 ≤ x1 ∧ x1 < rd m 293 (Int.toNat (rd m 284 18)) * rd m 294 (Int.toNat (rd m 284 18))))) (z : v = 0) : False := by
  have e0 := h.1.1.1.1
  have e1 := h.1.1.1.2.1
  rw [e0, e1] at p
  have := w.1
  omega
theorem pq_M {m : Mm} {A : Ab} {x1 x2 : Int} (h : YM m A.Y A.E A.r ∧ mA m A) (w : paP A x1 x2) (e : rd m 323 (Int.toNat x1) = x2) : False := by
  have b := wh_b h.1.2.2.1.1 h.1.2.2.1.2.1
  have := w.1
  exact w.2.2.1 ((h.1.2.1 _ (by omega)).symm.trans e)
theorem ps_M {m : Mm} {A : Ab} {x1 x2 v : Int} (h : YM m A.Y A.E A.r ∧ mA m A) (w : paP A x1 x2) (p : (v = 1 ∧ anI (srI (rd m 284 59) x1) 1 = 1) ∨ (v = 0 ∧ ¬ anI (srI (rd m 284 59) x1) 1 = 1)) (z : ¬ v = 0) : False := by
  rw [h.1.1.1.2.2.1] at p
  exact w.2.2.2.1 (or_1 p z)
theorem pt_M {m : Mm} {A : Ab} {x1 x2 v : Int} (h : YM m A.Y A.E A.r ∧ mA m A) (w : paP A x1 x2) (z : ¬ v < 0) (p : (v < 0 ∧ ∀ o : Int, 0 ≤ o → o < rd m 302 (Int.toNat (rd m 284 18)) → ¬ rd m 323 (Int.toNat (43 + o)) = x1) ∨ ((0 ≤ v ∧ v < rd m 302 (Int.toNat (rd m 284 18))) ∧ rd m 323 (Int.toNat (43 + v)) = x1)) : False := by
  have e3 := h.1.1.1.2.2.2.1
  have y3 := h.1.2.2.1.2.2
  rcases p with q | ⟨q, r⟩
  · omega
  · exact w.2.2.2.2 v q.1 (by omega) ((h.1.2.1 _ (by omega)).symm.trans r)
theorem pa_M {m m53 m55 : Mm} {A : Ab} {x1 x2 v6 v31 v39 : Int} (h : YM m A.Y A.E A.r ∧ mA m A) (n40 : A.n ≤ 40) (p6 : (v6 = 1 ∧ 0 ≤ x1 ∧ x1 < rd m 293 (Int.toNat (rd m 284 18)) * rd m 294 (Int.toNat (rd m 284 18))) ∨ (v6 = 0 ∧ ¬ (0 ≤ x1 ∧ x1 < rd m 293 (Int.toNat (rd m 284 18)) * rd m 294 (Int.toNat (rd m 284 18))))) (z6 : ¬ v6 = 0) (k : 0 ≤ x2 ∧ x2 ≤ 9) (ne : ¬ rd m 323 (Int.toNat x1) = x2) (p31 : (v31 = 1 ∧ anI (srI (rd m 284 59) x1) 1 = 1) ∨ (v31 = 0 ∧ ¬ anI (srI (rd m 284 59) x1) 1 = 1)) (z31 : v31 = 0) (p39 : (v39 < 0 ∧ ∀ o : Int, 0 ≤ o → o < rd m 302 (Int.toNat (rd m 284 18)) → ¬ rd m 323 (Int.toNat (43 + o)) = x1) ∨ ((0 ≤ v39 ∧ v39 < rd m 302 (Int.toNat (rd m 284 18))) ∧ rd m 323 (Int.toNat (43 + v39)) = x1)) (z39 : v39 < 0) (l : 0 ≤ rd m 284 18 ∧ rd m 284 18 ≤ 1) (e : m53 = wt m 323 (Int.toNat x1) x2) (rx : rg x2) (rc : recP m53 m55) : paP A x1 x2 ∧ mA m55 (noA A (ro_u A.r (Int.toNat x1) x2)) ∧ (1 : Int) = 1 := by
  have e0 := h.1.1.1.1
  have e1 := h.1.1.1.2.1
  have e2 := h.1.1.1.2.2.1
  have e3 := h.1.1.1.2.2.2.1
  have y3 := h.1.2.2.1.2.2
  have b := wh_b h.1.2.2.1.1 h.1.2.2.1.2.1
  rw [e0, e1] at p6
  rw [e2] at p31
  have hx : 0 ≤ x1 ∧ x1 < A.Y 0 * A.Y 1 := by omega
  have F : ∀ i j : Nat, ¬ i = 323 → rd m53 i j = rd m i j := fun i j q => by rw [e, rd_wt, if_neg (by omega)]
  refine ⟨⟨hx, k, fun w => ne ((h.1.2.1 _ (by omega)).trans w), or_0 p31 z31, fun c c0 c1 w => ?_⟩, mA_rec (mA_fr h.2 l (fun i j q => F i j (by unfold plR at q; omega))) (by rw [F 284 18 (by omega)]; exact l) (fun j hj => ?_) rc n40, rfl⟩
  · rcases p39 with ⟨-, q⟩ | ⟨q, -⟩
    · exact q c c0 (by omega) ((h.1.2.1 _ (by omega)).trans w)
    · omega
  · rw [e, rd_wt]
    by_cases q : j = Int.toNat x1
    · rw [if_pos ⟨rfl, q⟩, wr_i rx, q, ro_eq]
    · rw [if_neg (fun w => q w.2), ro_ne q]; exact h.1.2.1 j hj
-- TippedCratesModel.isFlag(I)Z
set_option maxRecDepth 20000 in
theorem mz_209 {m : Mm} {x1 : Int}  (T_m : Ty m) (r_x1 : rg x1) (p0 : MW m) : CK 2 209 [.ref 284, iv x1] m (fun m2 v => m2 = m ∧ (((v = 1 ∧ 0 ≤ x1 ∧ x1 ≤ 24) ∨ v = 0) ∧ ((v = 1 ∧ 0 ≤ x1 ∧ x1 < rd m 293 (Int.toNat (rd m 284 18)) * rd m 294 (Int.toNat (rd m 284 18))) ∨ (v = 0 ∧ ¬ (0 ≤ x1 ∧ x1 < rd m 293 (Int.toNat (rd m 284 18)) * rd m 294 (Int.toNat (rd m 284 18))))))) := by
  refine br_209 r_x1 ?_
  unfold P_209
  refine CK.mono (ct_208   T_m p0) (by decide) ?_
  rintro m3 v3 r_v3 ⟨e_m3, h_m3⟩
  replace e_m3 := e_m3.symm
  subst e_m3
  have wv3 : wr (v3 - 1) = v3 - 1 := wr_id (by omega) (by omega)
  try have w1 : wr (v3 - 1) = v3 - 1 := wr_id (by omega) (by omega)
  refine CK.mono (ct_206   r_x1 (by unfold rg; decide) (wr_rg _)) (by decide) ?_
  rintro m8 v8 r_v8 ⟨e_m8, h_m8⟩
  replace e_m8 := e_m8.symm
  subst e_m8
  exact ⟨by omega, ⟨rfl, by exact ⟨by first | trivial | omega | (refine ⟨?_, ?_⟩ <;> omega), by omega⟩⟩⟩
-- TippedCratesModel.crateOn(I)I
set_option maxRecDepth 20000 in
theorem mz_237 {m : Mm} {x1 : Int}  (T_m : Ty m) (r_x1 : rg x1)  : CK 1 237 [.ref 284, iv x1] m (fun m2 v => m2 = m ∧ ((True) ∧ ((v < 0 ∧ ∀ o : Int, 0 ≤ o → o < rd m 302 (Int.toNat (rd m 284 18)) → ¬ rd m 323 (Int.toNat (43 + o)) = x1) ∨ ((0 ≤ v ∧ v < rd m 302 (Int.toNat (rd m 284 18))) ∧ rd m 323 (Int.toNat (43 + v)) = x1)))) := by
  refine br_237 r_x1 ?_
  unfold P_237
  refine ⟨fun x2_2 => (0 ≤ x2_2 ∧ x2_2 ≤ 3) ∧ (∀ o : Int, 0 ≤ o → o < x2_2 → ¬ rd m 323 (Int.toNat (43 + o)) = x1), fun x2_2 => Int.toNat (3 - x2_2), ?_, ?_⟩
  · (exact ⟨by first | omega | (refine ⟨?_, ?_⟩ <;> omega) | trivial, by exact fun o h0 h1 => by omega⟩)
  · intro x2_2 r_x2_2 hI_2
    obtain ⟨hI_2, dI_2⟩ := hI_2
    have t1 := ty_284_18 T_m
    refine ⟨⟨by omega, by omega⟩, ?_⟩
    have t2 := ty_302 T_m (Int.toNat (rd m 284 18))
    refine ⟨fun hq => ?_, fun hq => ?_⟩
    · skip
      exact ⟨rfl, by exact ⟨by first | trivial | omega | (refine ⟨?_, ?_⟩ <;> omega), by first | exact Or.inl ⟨by omega, fun o h0 h1 => dI_2 o h0 (by omega)⟩ | exact Or.inr ⟨by omega, by rw [← show Int.toNat (wr (43 + x2_2)) = Int.toNat (43 + x2_2) by rw [wr_id (x := 43 + x2_2) (by omega) (by omega)]]; assumption⟩⟩⟩
    · skip
      try have w3 : wr (43 + x2_2) = 43 + x2_2 := wr_id (by omega) (by omega)
      refine ⟨⟨by omega, by omega⟩, ?_⟩
      have t4 := tr_323 T_m (Int.toNat (wr (43 + x2_2)))
      refine ⟨fun hq => ?_, fun hq => ?_⟩
      · skip
        try have w5 : wr (x2_2 + 1) = x2_2 + 1 := wr_id (by omega) (by omega)
        intro z2_30 e_z2_30
        have r_z2_30 : rg z2_30 := by rw [e_z2_30]; exact wr_rg _
        exact ⟨by exact ⟨by first | omega | (refine ⟨?_, ?_⟩ <;> omega) | trivial, by exact fun o h0 h1 => by rcases (show o < x2_2 ∨ o = x2_2 by omega) with q | q; exact dI_2 o h0 q; subst q; rw [← show Int.toNat (wr (43 + o)) = Int.toNat (43 + o) by rw [wr_id (x := 43 + o) (by omega) (by omega)]]; assumption⟩, by (try dsimp only); omega⟩
      · skip
        exact ⟨rfl, by exact ⟨by first | trivial | omega | (refine ⟨?_, ?_⟩ <;> omega), by first | exact Or.inl ⟨by omega, fun o h0 h1 => dI_2 o h0 (by omega)⟩ | exact Or.inr ⟨by omega, by rw [← show Int.toNat (wr (43 + x2_2)) = Int.toNat (43 + x2_2) by rw [wr_id (x := 43 + x2_2) (by omega) (by omega)]]; assumption⟩⟩⟩
-- TippedCratesModel.paint(II)Z
set_option maxRecDepth 20000 in
theorem mz_242 {m : Mm} {x1 : Int} {x2 : Int}  (T_m : Ty m) (r_x1 : rg x1) (r_x2 : rg x2) (p0 : MW m) (p1 : lawsM m) : CK 3 242 [.ref 284, iv x1, iv x2] m (fun m2 v => GX sMd m m2 ∧ (((v = 0 ∨ v = 1) ∧ (mk m m2)) ∧ (∀ A, okY A.Y → okR A.Y A.r → A.n ≤ 40 → mA m A → (paP A x1 x2 ∧ mA m2 (noA A (ro_u A.r (Int.toNat x1) x2)) ∧ v = 1) ∨ (¬ paP A x1 x2 ∧ mA m2 A ∧ v = 0)))) := by
  refine br_242 r_x1 r_x2 ?_
  unfold P_242
  have g_m : GX sMd m m := ⟨T_m, fun _ _ _ => rfl, fun _ _ => rfl⟩
  refine CV.mono (mz_216   T_m) (by decide) ?_
  rintro m1 ⟨hx_m1, h_m1⟩
  have g_m1 : GX sMd m m1 := gx_in g_m hx_m1 in_sC_sMd
  refine CK.mono (mz_209   g_m1.1 r_x1 (MW_D p0 g_m1)) (by decide) ?_
  rintro m6 v6 r_v6 ⟨e_m6, h_m6⟩
  replace e_m6 := e_m6.symm
  subst e_m6
  obtain ⟨h_m6, c_m6⟩ := h_m6
  refine ⟨fun m_45 => GX sMd m m_45 ∧ (((True) ∧ mk m m_45) ∧ (∀ A, okY A.Y → okR A.Y A.r → A.n ≤ 40 → mA m A → ¬ paP A x1 x2 ∧ mA m_45 A)), ?_, ?_⟩
  · skip
    refine ⟨fun hq => ?_, fun hq => ?_⟩
    · skip
      exact ⟨g_m1, by exact ⟨by exact ⟨by first | trivial | omega, mk_gx hx_m1 rfl (fun _ => rfl)⟩, by first | (have u := c_m39; exact fun A oY oR _ h => ⟨fun w => pt_M (mA_cp h oY oR (ty_284_18 T_m) h_m1.2) w (by omega) c_m39, (mA_cp h oY oR (ty_284_18 T_m) h_m1.2).2⟩) | (have u := h_m31; exact fun A oY oR _ h => ⟨fun w => ps_M (mA_cp h oY oR (ty_284_18 T_m) h_m1.2) w h_m31 (by omega), (mA_cp h oY oR (ty_284_18 T_m) h_m1.2).2⟩) | (have u := h_m13; exact fun A oY oR _ h => ⟨fun w => by have := w.2.1; omega, (mA_cp h oY oR (ty_284_18 T_m) h_m1.2).2⟩) | exact fun A oY oR _ h => ⟨fun w => pf_M (mA_cp h oY oR (ty_284_18 T_m) h_m1.2) w c_m6 (by omega), (mA_cp h oY oR (ty_284_18 T_m) h_m1.2).2⟩ | (have u := h_m13; exact fun A oY oR _ h => ⟨fun w => pq_M (mA_cp h oY oR (ty_284_18 T_m) h_m1.2) w (by assumption), (mA_cp h oY oR (ty_284_18 T_m) h_m1.2).2⟩)⟩⟩
    · skip
      refine CK.mono (ct_211   r_x2) (by decide) ?_
      rintro m13 v13 r_v13 ⟨e_m13, h_m13⟩
      replace e_m13 := e_m13.symm
      subst e_m13
      refine ⟨fun hq => ?_, fun hq => ?_⟩
      · skip
        exact ⟨g_m1, by exact ⟨by exact ⟨by first | trivial | omega, mk_gx hx_m1 rfl (fun _ => rfl)⟩, by first | (have u := c_m39; exact fun A oY oR _ h => ⟨fun w => pt_M (mA_cp h oY oR (ty_284_18 T_m) h_m1.2) w (by omega) c_m39, (mA_cp h oY oR (ty_284_18 T_m) h_m1.2).2⟩) | (have u := h_m31; exact fun A oY oR _ h => ⟨fun w => ps_M (mA_cp h oY oR (ty_284_18 T_m) h_m1.2) w h_m31 (by omega), (mA_cp h oY oR (ty_284_18 T_m) h_m1.2).2⟩) | (have u := h_m13; exact fun A oY oR _ h => ⟨fun w => by have := w.2.1; omega, (mA_cp h oY oR (ty_284_18 T_m) h_m1.2).2⟩) | exact fun A oY oR _ h => ⟨fun w => pf_M (mA_cp h oY oR (ty_284_18 T_m) h_m1.2) w c_m6 (by omega), (mA_cp h oY oR (ty_284_18 T_m) h_m1.2).2⟩ | (have u := h_m13; exact fun A oY oR _ h => ⟨fun w => pq_M (mA_cp h oY oR (ty_284_18 T_m) h_m1.2) w (by assumption), (mA_cp h oY oR (ty_284_18 T_m) h_m1.2).2⟩)⟩⟩
      · skip
        refine ⟨⟨by omega, by omega⟩, ?_⟩
        have t1 := tr_323 g_m1.1 (Int.toNat x1)
        refine ⟨fun hq => ?_, fun hq => ?_⟩
        · skip
          exact ⟨g_m1, by exact ⟨by exact ⟨by first | trivial | omega, mk_gx hx_m1 rfl (fun _ => rfl)⟩, by first | (have u := c_m39; exact fun A oY oR _ h => ⟨fun w => pt_M (mA_cp h oY oR (ty_284_18 T_m) h_m1.2) w (by omega) c_m39, (mA_cp h oY oR (ty_284_18 T_m) h_m1.2).2⟩) | (have u := h_m31; exact fun A oY oR _ h => ⟨fun w => ps_M (mA_cp h oY oR (ty_284_18 T_m) h_m1.2) w h_m31 (by omega), (mA_cp h oY oR (ty_284_18 T_m) h_m1.2).2⟩) | (have u := h_m13; exact fun A oY oR _ h => ⟨fun w => by have := w.2.1; omega, (mA_cp h oY oR (ty_284_18 T_m) h_m1.2).2⟩) | exact fun A oY oR _ h => ⟨fun w => pf_M (mA_cp h oY oR (ty_284_18 T_m) h_m1.2) w c_m6 (by omega), (mA_cp h oY oR (ty_284_18 T_m) h_m1.2).2⟩ | (have u := h_m13; exact fun A oY oR _ h => ⟨fun w => pq_M (mA_cp h oY oR (ty_284_18 T_m) h_m1.2) w (by assumption), (mA_cp h oY oR (ty_284_18 T_m) h_m1.2).2⟩)⟩⟩
        · skip
          refine CK.mono (mz_213   r_x1) (by decide) ?_
          rintro m31 v31 r_v31 ⟨e_m31, h_m31⟩
          replace e_m31 := e_m31.symm
          subst e_m31
          refine ⟨fun hq => ?_, fun hq => ?_⟩
          · skip
            exact ⟨g_m1, by exact ⟨by exact ⟨by first | trivial | omega, mk_gx hx_m1 rfl (fun _ => rfl)⟩, by first | (have u := c_m39; exact fun A oY oR _ h => ⟨fun w => pt_M (mA_cp h oY oR (ty_284_18 T_m) h_m1.2) w (by omega) c_m39, (mA_cp h oY oR (ty_284_18 T_m) h_m1.2).2⟩) | (have u := h_m31; exact fun A oY oR _ h => ⟨fun w => ps_M (mA_cp h oY oR (ty_284_18 T_m) h_m1.2) w h_m31 (by omega), (mA_cp h oY oR (ty_284_18 T_m) h_m1.2).2⟩) | (have u := h_m13; exact fun A oY oR _ h => ⟨fun w => by have := w.2.1; omega, (mA_cp h oY oR (ty_284_18 T_m) h_m1.2).2⟩) | exact fun A oY oR _ h => ⟨fun w => pf_M (mA_cp h oY oR (ty_284_18 T_m) h_m1.2) w c_m6 (by omega), (mA_cp h oY oR (ty_284_18 T_m) h_m1.2).2⟩ | (have u := h_m13; exact fun A oY oR _ h => ⟨fun w => pq_M (mA_cp h oY oR (ty_284_18 T_m) h_m1.2) w (by assumption), (mA_cp h oY oR (ty_284_18 T_m) h_m1.2).2⟩)⟩⟩
          · skip
            refine CK.mono (mz_237   g_m1.1 r_x1) (by decide) ?_
            rintro m39 v39 r_v39 ⟨e_m39, h_m39⟩
            replace e_m39 := e_m39.symm
            subst e_m39
            obtain ⟨h_m39, c_m39⟩ := h_m39
            refine ⟨fun hq => ?_, fun hq => ?_⟩
            · skip
              refine ⟨⟨by omega, by omega⟩, ?_⟩
              intro m53 e_m53
              have g_m53 : GX sMd m m53 := by rw [e_m53]; exact GX.wt g_m1 (tz_323 g_m1.1 (by first | assumption | omega) (by omega) (by omega)) (Eq.refl true)
              refine CV.mono (mz_240   g_m53.1) (by decide) ?_
              rintro m55 ⟨hx_m55, h_m55⟩
              have g_m55 : GX sMd m m55 := gx_in g_m53 hx_m55 (fun _ _ h => h)
              obtain ⟨h_m55, c_m55⟩ := h_m55
              obtain ⟨h_m55, k_m55⟩ := h_m55
              exact ⟨g_m55, by exact ⟨by exact ⟨by first | trivial | omega | (refine ⟨?_, ?_⟩ <;> omega), by first | exact ((mk_gx hx_m1 rfl (fun _ => rfl)).wt (by omega) e_m53).trans k_m55 | exact cR_45⟩, by first | (have u := c_m55; exact fun A oY oR n40 h => Or.inl (pa_M (mA_cp h oY oR (ty_284_18 T_m) h_m1.2) n40 c_m6 (by omega) (by omega) (by assumption) h_m31 (by omega) c_m39 (by omega) (ty_284_18 g_m1.1) e_m53 r_x2 c_m55)) | exact fun A oY oR n40 h => Or.inr ⟨(dR_45 A oY oR n40 h).1, (dR_45 A oY oR n40 h).2, rfl⟩⟩⟩
            · skip
              exact ⟨g_m1, by exact ⟨by exact ⟨by first | trivial | omega, mk_gx hx_m1 rfl (fun _ => rfl)⟩, by first | (have u := c_m39; exact fun A oY oR _ h => ⟨fun w => pt_M (mA_cp h oY oR (ty_284_18 T_m) h_m1.2) w (by omega) c_m39, (mA_cp h oY oR (ty_284_18 T_m) h_m1.2).2⟩) | (have u := h_m31; exact fun A oY oR _ h => ⟨fun w => ps_M (mA_cp h oY oR (ty_284_18 T_m) h_m1.2) w h_m31 (by omega), (mA_cp h oY oR (ty_284_18 T_m) h_m1.2).2⟩) | (have u := h_m13; exact fun A oY oR _ h => ⟨fun w => by have := w.2.1; omega, (mA_cp h oY oR (ty_284_18 T_m) h_m1.2).2⟩) | exact fun A oY oR _ h => ⟨fun w => pf_M (mA_cp h oY oR (ty_284_18 T_m) h_m1.2) w c_m6 (by omega), (mA_cp h oY oR (ty_284_18 T_m) h_m1.2).2⟩ | (have u := h_m13; exact fun A oY oR _ h => ⟨fun w => pq_M (mA_cp h oY oR (ty_284_18 T_m) h_m1.2) w (by assumption), (mA_cp h oY oR (ty_284_18 T_m) h_m1.2).2⟩)⟩⟩
  · intro m_45  hR_45
    obtain ⟨g_m_45, hR_45⟩ := hR_45
    obtain ⟨hR_45, dR_45⟩ := hR_45
    obtain ⟨hR_45, cR_45⟩ := hR_45
    exact ⟨g_m_45, by exact ⟨by exact ⟨by first | trivial | omega | (refine ⟨?_, ?_⟩ <;> omega), by first | exact ((mk_gx hx_m1 rfl (fun _ => rfl)).wt (by omega) e_m53).trans k_m55 | exact cR_45⟩, by first | (have u := c_m55; exact fun A oY oR n40 h => Or.inl (pa_M (mA_cp h oY oR (ty_284_18 T_m) h_m1.2) n40 c_m6 (by omega) (by omega) (by assumption) h_m31 (by omega) c_m39 (by omega) (ty_284_18 g_m1.1) e_m53 r_x2 c_m55)) | exact fun A oY oR n40 h => Or.inr ⟨(dR_45 A oY oR n40 h).1, (dR_45 A oY oR n40 h).2, rfl⟩⟩⟩
