/-- the rows of 51 -/
theorem t51_r {v : Int} {j : Nat} (h : (ty51 j).1 ≤ v ∧ v ≤ (ty51 j).2) : (j % 51 < 43 → 0 ≤ v ∧ v ≤ 9) ∧ (43 ≤ j % 51 → j % 51 < 46 → 0 ≤ v ∧ v ≤ 24) := by
  unfold ty51 at h
  by_cases h1 : j % 51 < 43
  · rw [if_pos h1] at h
    exact ⟨fun _ => h, fun _ _ => by omega⟩
  · rw [if_neg h1] at h
    refine ⟨fun w => absurd w h1, fun _ h2 => ?_⟩
    rw [if_pos h2] at h
    exact h
theorem t51_w {v : Int} {j : Nat} (hr : rg v) (h1 : j % 51 < 43 → 0 ≤ v ∧ v ≤ 9) (h2 : 43 ≤ j % 51 → j % 51 < 46 → 0 ≤ v ∧ v ≤ 24) : (ty51 j).1 ≤ v ∧ v ≤ (ty51 j).2 := by
  unfold ty51
  by_cases q1 : j % 51 < 43
  · rw [if_pos q1]; exact h1 q1
  · rw [if_neg q1]
    by_cases q2 : j % 51 < 46
    · rw [if_pos q2]; exact h2 (by omega) q2
    · rw [if_neg q2]; exact hr
theorem tr_322 {m : Mm} (h : Ty m) (j : Nat) : (j % 51 < 43 → 0 ≤ rd m 322 j ∧ rd m 322 j ≤ 9) ∧ (43 ≤ j % 51 → j % 51 < 46 → 0 ≤ rd m 322 j ∧ rd m 322 j ≤ 24) := t51_r (ty_322 h j)
theorem tz_322 {m : Mm} {j : Nat} {v : Int} (h : Ty m) (hr : rg v) (h1 : j % 51 < 43 → 0 ≤ v ∧ v ≤ 9) (h2 : 43 ≤ j % 51 → j % 51 < 46 → 0 ≤ v ∧ v ≤ 24) : Ty (wt m 322 j v) := tw_322 h hr (t51_w hr h1 h2)
theorem tr_323 {m : Mm} (h : Ty m) (j : Nat) : (j % 51 < 43 → 0 ≤ rd m 323 j ∧ rd m 323 j ≤ 9) ∧ (43 ≤ j % 51 → j % 51 < 46 → 0 ≤ rd m 323 j ∧ rd m 323 j ≤ 24) := t51_r (ty_323 h j)
theorem tz_323 {m : Mm} {j : Nat} {v : Int} (h : Ty m) (hr : rg v) (h1 : j % 51 < 43 → 0 ≤ v ∧ v ≤ 9) (h2 : 43 ≤ j % 51 → j % 51 < 46 → 0 ≤ v ∧ v ≤ 24) : Ty (wt m 323 j v) := tw_323 h hr (t51_w hr h1 h2)
theorem tr_324 {m : Mm} (h : Ty m) (j : Nat) : (j % 51 < 43 → 0 ≤ rd m 324 j ∧ rd m 324 j ≤ 9) ∧ (43 ≤ j % 51 → j % 51 < 46 → 0 ≤ rd m 324 j ∧ rd m 324 j ≤ 24) := t51_r (ty_324 h j)
theorem tz_324 {m : Mm} {j : Nat} {v : Int} (h : Ty m) (hr : rg v) (h1 : j % 51 < 43 → 0 ≤ v ∧ v ≤ 9) (h2 : 43 ≤ j % 51 → j % 51 < 46 → 0 ≤ v ∧ v ≤ 24) : Ty (wt m 324 j v) := tw_324 h hr (t51_w hr h1 h2)
theorem tr_340 {m : Mm} (h : Ty m) (j : Nat) : (j % 51 < 43 → 0 ≤ rd m 340 j ∧ rd m 340 j ≤ 9) ∧ (43 ≤ j % 51 → j % 51 < 46 → 0 ≤ rd m 340 j ∧ rd m 340 j ≤ 24) := t51_r (ty_340 h j)
theorem tz_340 {m : Mm} {j : Nat} {v : Int} (h : Ty m) (hr : rg v) (h1 : j % 51 < 43 → 0 ≤ v ∧ v ≤ 9) (h2 : 43 ≤ j % 51 → j % 51 < 46 → 0 ≤ v ∧ v ≤ 24) : Ty (wt m 340 j v) := tw_340 h hr (t51_w hr h1 h2)
/-- the yard of the half that lives -/
abbrev MW (m : Mm) : Prop := (2 ≤ rd m 293 (Int.toNat (rd m 284 18)) ∧ rd m 293 (Int.toNat (rd m 284 18)) ≤ 5) ∧ (2 ≤ rd m 294 (Int.toNat (rd m 284 18)) ∧ rd m 294 (Int.toNat (rd m 284 18)) ≤ 5)
theorem MW_G {m0 m : Mm} (h : MW m0) (g : G m0 m) : MW m := by
  unfold MW
  rw [g.2.1 284 18 rfl, g.2.1 293 _ rfl, g.2.1 294 _ rfl]
  exact h
/-- codes that leave one number: heights H -/
def segOk (m : Mm) (x y : Int) : Prop := (0 ≤ x ∧ x ≤ y ∧ y ≤ 840 ∧ y - x ≤ 400) ∧ ∃ H : Nat → Int, H (Int.toNat x) = 0 ∧ H (Int.toNat y) = 1 ∧ ∀ c : Nat, x ≤ c → (c : Int) < y → (rd m 314 c < 2 ∧ H (c + 1) = H c + 1 ∧ (rd m 314 c = 1 → rd m 315 c ≤ 8)) ∨ (2 ≤ rd m 314 c ∧ 2 ≤ H c ∧ H (c + 1) = H c - 1)
theorem segOk_fr {m m2 : Mm} {x y : Int} (h : segOk m x y) (e1 : ∀ c : Nat, x ≤ c → (c : Int) < y → rd m2 314 c = rd m 314 c) (e2 : ∀ c : Nat, x ≤ c → (c : Int) < y → rd m2 315 c = rd m 315 c) : segOk m2 x y := by
  obtain ⟨hb, H, h0, h1, hs⟩ := h
  exact ⟨hb, H, h0, h1, fun c a b => by rw [e1 c a b, e2 c a b]; exact hs c a b⟩
theorem SEGV : True := trivial
/-- the laws of the half that lives -/
def lawsM (m : Mm) : Prop := ∀ k : Int, (0 ≤ k ∧ k ≤ 3) → ∀ b : Nat, rd m 307 (Int.toNat (4 * rd m 284 18 + k)) ≤ b → (b : Int) < rd m 308 (Int.toNat (4 * rd m 284 18 + k)) → (¬ rd m 309 b = 0 → segOk m (rd m 310 b) (rd m 311 b) ∧ segOk m (rd m 311 b) (rd m 312 b)) ∧ segOk m (rd m 312 b) (rd m 313 b)
/-- the row and the lots -/
def sC (i j : Nat) : Bool := Nat.beq i 323 || (Nat.beq i 284 && Nat.beq j 58)
theorem sC_in {i j : Nat} (h : sC i j = true) : i = 323 ∨ (i = 284 ∧ j = 58) := by
  unfold sC at h
  rw [Bool.or_eq_true, Bool.and_eq_true] at h
  rcases h with h | h
  · exact Or.inl (nb_eq h)
  · exact Or.inr ⟨nb_eq h.1, nb_eq h.2⟩
theorem in_sC_scr (i j : Nat) (h : sC i j = true) : scr i j = true := by
  rcases sC_in h with rfl | ⟨rfl, rfl⟩ <;> rfl
/-- variables, pile, broken; with the row, the faces -/
def sV (i j : Nat) : Bool := Nat.beq i 317 || Nat.beq i 318 || (Nat.beq i 284 && Nat.beq j 51)
def sR (i j : Nat) : Bool := sV i j || Nat.beq i 321 || Nat.beq i 323
theorem in_sV_sV (i j : Nat) (h : sV i j = true) : sV i j = true := h
theorem in_sV_sR (i j : Nat) (h : sV i j = true) : sR i j = true := by unfold sR; rw [h]; rfl
theorem sR_in {i j : Nat} (h : sR i j = true) : i = 317 ∨ i = 318 ∨ (i = 284 ∧ j = 51) ∨ i = 321 ∨ i = 323 := by
  unfold sR sV at h
  rw [Bool.or_eq_true, Bool.or_eq_true, Bool.or_eq_true, Bool.or_eq_true, Bool.and_eq_true] at h
  rcases h with (((h | h) | h) | h) | h
  · exact Or.inl (nb_eq h)
  · exact Or.inr (Or.inl (nb_eq h))
  · exact Or.inr (Or.inr (Or.inl ⟨nb_eq h.1, nb_eq h.2⟩))
  · exact Or.inr (Or.inr (Or.inr (Or.inl (nb_eq h))))
  · exact Or.inr (Or.inr (Or.inr (Or.inr (nb_eq h))))
theorem in_sR_scr (i j : Nat) (h : sR i j = true) : scr i j = true := by
  rcases sR_in h with rfl | rfl | ⟨rfl, rfl⟩ | rfl | rfl <;> rfl
theorem in_sV_scr (i j : Nat) (h : sV i j = true) : scr i j = true := in_sR_scr i j (in_sV_sR i j h)
theorem MW_R {m m2 : Mm} (h : MW m) (g : GX sR m m2) : MW m2 := by
  unfold MW
  rw [g.2.1 284 18 rfl, g.2.1 293 _ rfl, g.2.1 294 _ rfl]
  exact h
theorem MW_V {m m2 : Mm} (h : MW m) (g : GX sV m m2) : MW m2 := by
  unfold MW
  rw [g.2.1 284 18 rfl, g.2.1 293 _ rfl, g.2.1 294 _ rfl]
  exact h
theorem seg_V {m m2 : Mm} {x y x2 y2 : Int} (h : segOk m x y) (g : GX sV m m2) (ex : x2 = x) (ey : y2 = y) : segOk m2 x2 y2 := by
  subst ex ey
  exact segOk_fr h (fun c _ _ => g.2.1 314 c rfl) (fun c _ _ => g.2.1 315 c rfl)
theorem laws_fr {m m2 : Mm} (h : lawsM m) (e18 : rd m2 284 18 = rd m 284 18) (e : ∀ i j, (307 ≤ i ∧ i ≤ 315) → rd m2 i j = rd m i j) : lawsM m2 := by
  intro k hk b h1 h2
  rw [e18, e 307 _ (by omega)] at h1
  rw [e18, e 308 _ (by omega)] at h2
  have q := h k hk b h1 h2
  rw [e 309 _ (by omega), e 310 _ (by omega), e 311 _ (by omega), e 312 _ (by omega), e 313 _ (by omega)]
  exact ⟨fun w => ⟨segOk_fr (q.1 w).1 (fun c _ _ => e 314 c (by omega)) (fun c _ _ => e 315 c (by omega)), segOk_fr (q.1 w).2 (fun c _ _ => e 314 c (by omega)) (fun c _ _ => e 315 c (by omega))⟩, segOk_fr q.2 (fun c _ _ => e 314 c (by omega)) (fun c _ _ => e 315 c (by omega))⟩
theorem laws_R {m m2 : Mm} (h : lawsM m) (g : GX sR m m2) : lawsM m2 := laws_fr h (g.2.1 284 18 rfl) (fun i j hi => g.2.1 i j (by
  cases q : sR i j with
  | false => rfl
  | true => have := sR_in q; omega))
theorem laws_V {m m2 : Mm} (h : lawsM m) (g : GX sV m m2) : lawsM m2 := laws_fr h (g.2.1 284 18 rfl) (fun i j hi => g.2.1 i j (by
  cases q : sV i j with
  | false => rfl
  | true => have := sR_in (in_sV_sR i j q); omega))
theorem laws_G {m m2 : Mm} (h : lawsM m) (g : G m m2) : lawsM m2 := laws_fr h (g.2.1 284 18 rfl) (fun i j hi => g.2.1 i j (by
  have : i = 307 ∨ i = 308 ∨ i = 309 ∨ i = 310 ∨ i = 311 ∨ i = 312 ∨ i = 313 ∨ i = 314 ∨ i = 315 := by omega
  rcases this with rfl | rfl | rfl | rfl | rfl | rfl | rfl | rfl | rfl <;> rfl))
/-- the next flag a way, or none -/
def tXI (w f way : Int) : Int := f % w + (if way = 0 then 1 else if way = 2 then -1 else 0)
def tYI (w f way : Int) : Int := f / w + (if way = 1 then 1 else if way = 3 then -1 else 0)
def fbyI (w h f way : Int) : Int := if 0 ≤ tXI w f way ∧ tXI w f way ≤ w - 1 ∧ 0 ≤ tYI w f way ∧ tYI w f way ≤ h - 1 then w * tYI w f way + tXI w f way else -1
theorem fby_val (w h : Int) {f way x y : Int} (hx : (x = f % w + 1 ∧ way = 0) ∨ (x = f % w - 1 ∧ way = 2) ∨ (x = f % w ∧ (way = 1 ∨ way = 3))) (hy : (y = f / w + 1 ∧ way = 1) ∨ (y = f / w - 1 ∧ way = 3) ∨ (y = f / w ∧ (way = 0 ∨ way = 2))) : fbyI w h f way = if 0 ≤ x ∧ x ≤ w - 1 ∧ 0 ≤ y ∧ y ≤ h - 1 then w * y + x else -1 := by
  have ex : tXI w f way = x := by
    unfold tXI
    rcases hx with ⟨rfl, rfl⟩ | ⟨rfl, rfl⟩ | ⟨rfl, rfl | rfl⟩
    · rfl
    · simp; omega
    · simp
    · simp
  have ey : tYI w f way = y := by
    unfold tYI
    rcases hy with ⟨rfl, rfl⟩ | ⟨rfl, rfl⟩ | ⟨rfl, rfl | rfl⟩
    · rfl
    · simp; omega
    · simp
    · simp
  unfold fbyI
  rw [ex, ey]
-- TippedCratesModel.in(III)Z
set_option maxRecDepth 20000 in
theorem ct_206 {m : Mm} {x0 : Int} {x1 : Int} {x2 : Int}   (r_x0 : rg x0) (r_x1 : rg x1) (r_x2 : rg x2)  : CK 1 206 [iv x0, iv x1, iv x2] m (fun m2 v => m2 = m ∧ ((v = 1 ∧ x1 ≤ x0 ∧ x0 ≤ x2) ∨ (v = 0 ∧ (x0 < x1 ∨ x2 < x0)))) := by
  refine br_206 r_x0 r_x1 r_x2 ?_
  unfold P_206
  refine ⟨fun s0_15 => (s0_15 = 1 ∧ x1 ≤ x0 ∧ x0 ≤ x2) ∨ (s0_15 = 0 ∧ (x0 < x1 ∨ x2 < x0)), ?_, ?_⟩
  · skip
    refine ⟨x0 < x1 ∨ x2 < x0, ?_, ?_⟩
    · skip
      refine ⟨fun hq => ?_, fun hq => ?_⟩
      · skip
        (first | trivial | omega | (refine ⟨?_, ?_⟩ <;> omega))
      · skip
        refine ⟨fun hq => ?_, fun hq => ?_⟩
        · skip
          (first | trivial | omega | (refine ⟨?_, ?_⟩ <;> omega))
        · skip
          (first | trivial | omega | (refine ⟨?_, ?_⟩ <;> omega))
    · intro   hR_14
      (first | trivial | omega | (refine ⟨?_, ?_⟩ <;> omega))
  · intro s0_15 r_s0_15 hR_15
    exact ⟨by omega, ⟨rfl, by first | trivial | omega | (refine ⟨?_, ?_⟩ <;> omega)⟩⟩
-- TippedCratesModel.within(III)I
set_option maxRecDepth 20000 in
theorem ct_207 {m : Mm} {x0 : Int} {x1 : Int} {x2 : Int}   (r_x0 : rg x0) (r_x1 : rg x1) (r_x2 : rg x2) (p0 : x1 ≤ x2) : CK 1 207 [iv x0, iv x1, iv x2] m (fun m2 v => m2 = m ∧ (x1 ≤ v ∧ v ≤ x2)) := by
  refine br_207 r_x0 r_x1 r_x2 ?_
  unfold P_207
  refine ⟨fun s0_19 => x1 ≤ s0_19 ∧ s0_19 ≤ x2, ?_, ?_⟩
  · skip
    refine ⟨fun hq => ?_, fun hq => ?_⟩
    · skip
      refine ⟨fun hq => ?_, fun hq => ?_⟩
      · skip
        (first | trivial | omega | (refine ⟨?_, ?_⟩ <;> omega))
      · skip
        (first | trivial | omega | (refine ⟨?_, ?_⟩ <;> omega))
    · skip
      (first | trivial | omega | (refine ⟨?_, ?_⟩ <;> omega))
  · intro s0_19 r_s0_19 hR_19
    exact ⟨rfl, by first | trivial | omega | (refine ⟨?_, ?_⟩ <;> omega)⟩
-- TippedCratesModel.flags()I
set_option maxRecDepth 20000 in
theorem ct_208 {m : Mm}   (T_m : Ty m)  (p0 : MW m) : CK 1 208 [.ref 284] m (fun m2 v => m2 = m ∧ (v = rd m 293 (Int.toNat (rd m 284 18)) * rd m 294 (Int.toNat (rd m 284 18)) ∧ 4 ≤ v ∧ v ≤ 25)) := by
  refine br_208  ?_
  unfold P_208
  have wb := wh_b p0.1 p0.2
  have t1 := ty_284_18 T_m
  refine ⟨⟨by omega, by omega⟩, ?_⟩
  refine ⟨⟨by omega, by omega⟩, ?_⟩
  have t2 := ty_293 T_m (Int.toNat (rd m 284 18))
  have t3 := ty_294 T_m (Int.toNat (rd m 284 18))
  try have w4 : wr ((rd m 293 (Int.toNat (rd m 284 18))) * (rd m 294 (Int.toNat (rd m 284 18)))) = (rd m 293 (Int.toNat (rd m 284 18))) * (rd m 294 (Int.toNat (rd m 284 18))) := wr_id (by omega) (by omega)
  exact ⟨rfl, by exact ⟨by omega, by omega, by omega⟩⟩
-- TippedCratesModel.isFlag(I)Z
set_option maxRecDepth 20000 in
theorem ct_209 {m : Mm} {x1 : Int}  (T_m : Ty m) (r_x1 : rg x1) (p0 : MW m) : CK 2 209 [.ref 284, iv x1] m (fun m2 v => m2 = m ∧ ((v = 1 ∧ 0 ≤ x1 ∧ x1 ≤ 24) ∨ v = 0)) := by
  refine br_209 r_x1 ?_
  unfold P_209
  refine CK.mono (ct_208   T_m p0) (by decide) ?_
  rintro m3 v3 r_v3 ⟨e_m3, h_m3⟩
  replace e_m3 := e_m3.symm
  subst e_m3
  try have w1 : wr (v3 - 1) = v3 - 1 := wr_id (by omega) (by omega)
  refine CK.mono (ct_206   r_x1 (by unfold rg; decide) (wr_rg _)) (by decide) ?_
  rintro m8 v8 r_v8 ⟨e_m8, h_m8⟩
  replace e_m8 := e_m8.symm
  subst e_m8
  exact ⟨by omega, ⟨rfl, by first | trivial | omega | (refine ⟨?_, ?_⟩ <;> omega)⟩⟩
-- TippedCratesModel.isCrate(I)Z
set_option maxRecDepth 20000 in
theorem ct_210 {m : Mm} {x1 : Int}  (T_m : Ty m) (r_x1 : rg x1)  : CK 2 210 [.ref 284, iv x1] m (fun m2 v => m2 = m ∧ ((v = 1 ∧ 0 ≤ x1 ∧ x1 ≤ rd m 302 (Int.toNat (rd m 284 18)) - 1 ∧ x1 ≤ 2) ∨ (v = 0 ∧ (x1 < 0 ∨ rd m 302 (Int.toNat (rd m 284 18)) - 1 < x1)))) := by
  refine br_210 r_x1 ?_
  unfold P_210
  have t1 := ty_284_18 T_m
  refine ⟨⟨by omega, by omega⟩, ?_⟩
  have t2 := ty_302 T_m (Int.toNat (rd m 284 18))
  try have w3 : wr ((rd m 302 (Int.toNat (rd m 284 18))) - 1) = (rd m 302 (Int.toNat (rd m 284 18))) - 1 := wr_id (by omega) (by omega)
  refine CK.mono (ct_206   r_x1 (by unfold rg; decide) (wr_rg _)) (by decide) ?_
  rintro m13 v13 r_v13 ⟨e_m13, h_m13⟩
  replace e_m13 := e_m13.symm
  subst e_m13
  exact ⟨by omega, ⟨rfl, by first | trivial | omega | (refine ⟨?_, ?_⟩ <;> omega)⟩⟩
-- TippedCratesModel.isMark(I)Z
set_option maxRecDepth 20000 in
theorem ct_211 {m : Mm} {x0 : Int}   (r_x0 : rg x0)  : CK 2 211 [iv x0] m (fun m2 v => m2 = m ∧ ((v = 1 ∧ 0 ≤ x0 ∧ x0 ≤ 9) ∨ (v = 0 ∧ (x0 < 0 ∨ 9 < x0)))) := by
  refine br_211 r_x0 ?_
  unfold P_211
  refine CK.mono (ct_206   r_x0 (by unfold rg; decide) (by unfold rg; decide)) (by decide) ?_
  rintro m4 v4 r_v4 ⟨e_m4, h_m4⟩
  replace e_m4 := e_m4.symm
  subst e_m4
  exact ⟨by omega, ⟨rfl, by first | trivial | omega | (refine ⟨?_, ?_⟩ <;> omega)⟩⟩
-- TippedCratesModel.isWay(I)Z
set_option maxRecDepth 20000 in
theorem ct_212 {m : Mm} {x0 : Int}   (r_x0 : rg x0)  : CK 2 212 [iv x0] m (fun m2 v => m2 = m ∧ ((v = 1 ∧ 0 ≤ x0 ∧ x0 ≤ 3) ∨ (v = 0 ∧ (x0 < 0 ∨ 3 < x0)))) := by
  refine br_212 r_x0 ?_
  unfold P_212
  refine CK.mono (ct_206   r_x0 (by unfold rg; decide) (by unfold rg; decide)) (by decide) ?_
  rintro m3 v3 r_v3 ⟨e_m3, h_m3⟩
  replace e_m3 := e_m3.symm
  subst e_m3
  exact ⟨by omega, ⟨rfl, by first | trivial | omega | (refine ⟨?_, ?_⟩ <;> omega)⟩⟩
-- TippedCratesModel.isShut(I)Z
set_option maxRecDepth 20000 in
theorem ct_213 {m : Mm} {x1 : Int}   (r_x1 : rg x1)  : CK 1 213 [.ref 284, iv x1] m (fun m2 v => m2 = m ∧ (v = 0 ∨ v = 1)) := by
  refine br_213 r_x1 ?_
  unfold P_213
  refine ⟨fun s0_17 => (s0_17 = 0 ∨ s0_17 = 1), ?_, ?_⟩
  · skip
    refine ⟨fun hq => ?_, fun hq => ?_⟩
    · skip
      (first | trivial | omega | (refine ⟨?_, ?_⟩ <;> omega))
    · skip
      (first | trivial | omega | (refine ⟨?_, ?_⟩ <;> omega))
  · intro s0_17 r_s0_17 hR_17
    exact ⟨by omega, ⟨rfl, by first | trivial | omega | (refine ⟨?_, ?_⟩ <;> omega)⟩⟩
-- TippedCratesModel.mixed(II)I
set_option maxRecDepth 20000 in
theorem ct_217 {m : Mm} {x0 : Int} {x1 : Int}   (r_x0 : rg x0) (r_x1 : rg x1)  : CK 1 217 [iv x0, iv x1] m (fun m2 v => m2 = m ∧ (v = mixI x0 x1)) := by
  refine br_217 r_x0 r_x1 ?_
  unfold P_217
  try have w1 : wr ((xoI x0 x1) * 1103515245) = (xoI x0 x1) * 1103515245 := wr_id (by omega) (by omega)
  try have w2 : wr ((wr ((xoI x0 x1) * 1103515245)) + 12345) = (wr ((xoI x0 x1) * 1103515245)) + 12345 := wr_id (by omega) (by omega)
  intro z2_11 e_z2_11
  have r_z2_11 : rg z2_11 := by rw [e_z2_11]; exact (wr_rg _)
  exact ⟨rfl, by (rw [e_z2_11]; rfl)⟩
-- TippedCratesModel.lotOf(II)I
set_option maxRecDepth 20000 in
theorem ct_218 {m : Mm} {x1 : Int} {x2 : Int}  (T_m : Ty m) (r_x1 : rg x1) (r_x2 : rg x2) (p0 : 1 ≤ x2 ∧ x2 ≤ 100) : CK 2 218 [.ref 284, iv x1, iv x2] m (fun m2 v => m2 = m ∧ (v = lotI x2 (rd m 284 58) x1 ∧ 0 ≤ v ∧ v < x2)) := by
  refine br_218 r_x1 r_x2 ?_
  unfold P_218
  refine CK.mono (ct_217   (rd_rg _ _ _) (by unfold rg; decide)) (by decide) ?_
  rintro m7 v7 r_v7 ⟨e_m7, h_m7⟩
  replace e_m7 := e_m7.symm
  subst e_m7
  refine CK.mono (ct_217   r_v7 r_x1) (by decide) ?_
  rintro m11 v11 r_v11 ⟨e_m11, h_m11⟩
  replace e_m11 := e_m11.symm
  subst e_m11
  refine ⟨by omega, ?_⟩
  exact ⟨rfl, by (rw [h_m11, h_m7]; exact ⟨rfl, lot_b p0⟩)⟩
-- TippedCratesModel.toX(II)I
set_option maxRecDepth 20000 in
theorem ct_219 {m : Mm} {x1 : Int} {x2 : Int}  (T_m : Ty m) (r_x1 : rg x1) (r_x2 : rg x2) (p0 : MW m) (p1 : 0 ≤ x1 ∧ x1 ≤ 24) (p2 : 0 ≤ x2 ∧ x2 ≤ 3) : CK 1 219 [.ref 284, iv x1, iv x2] m (fun m2 v => m2 = m ∧ ((v = x1 % rd m 293 (Int.toNat (rd m 284 18)) + 1 ∧ x2 = 0) ∨ (v = x1 % rd m 293 (Int.toNat (rd m 284 18)) - 1 ∧ x2 = 2) ∨ (v = x1 % rd m 293 (Int.toNat (rd m 284 18)) ∧ (x2 = 1 ∨ x2 = 3)))) := by
  refine br_219 r_x1 r_x2 ?_
  unfold P_219
  have q1 := Int.emod_nonneg x1 (b := rd m 293 (Int.toNat (rd m 284 18))) (by omega)
  have q2 := Int.emod_lt_of_pos x1 (b := rd m 293 (Int.toNat (rd m 284 18))) (by omega)
  have q3 : rmI x1 (rd m 293 (Int.toNat (rd m 284 18))) = x1 % (rd m 293 (Int.toNat (rd m 284 18))) := rm_eq (by omega) (by omega) (by omega) (by omega)
  have q4 : dvI x1 (rd m 293 (Int.toNat (rd m 284 18))) = x1 / (rd m 293 (Int.toNat (rd m 284 18))) := dv_eq (by omega) (by omega) (by omega) (by omega)
  have q5 : 0 ≤ x1 / (rd m 293 (Int.toNat (rd m 284 18))) := Int.ediv_nonneg (by omega) (by omega)
  have q6 : x1 / (rd m 293 (Int.toNat (rd m 284 18))) ≤ x1 := Int.ediv_le_self _ (by omega)
  have t1 := ty_284_18 T_m
  refine ⟨⟨by omega, by omega⟩, ?_⟩
  have t2 := ty_293 T_m (Int.toNat (rd m 284 18))
  refine ⟨by omega, ?_⟩
  refine ⟨fun s1_29 => (s1_29 = 1 ∧ x2 = 0) ∨ (s1_29 = -1 ∧ x2 = 2) ∨ (s1_29 = 0 ∧ (x2 = 1 ∨ x2 = 3)), ?_, ?_⟩
  · skip
    refine ⟨fun hq => ?_, fun hq => ?_⟩
    · skip
      refine ⟨fun hq => ?_, fun hq => ?_⟩
      · skip
        (first | trivial | omega | (refine ⟨?_, ?_⟩ <;> omega))
      · skip
        (first | trivial | omega | (refine ⟨?_, ?_⟩ <;> omega))
    · skip
      (first | trivial | omega | (refine ⟨?_, ?_⟩ <;> omega))
  · intro s1_29 r_s1_29 hR_29
    try have w3 : wr ((rmI x1 (rd m 293 (Int.toNat (rd m 284 18)))) + s1_29) = (rmI x1 (rd m 293 (Int.toNat (rd m 284 18)))) + s1_29 := wr_id (by omega) (by omega)
    exact ⟨rfl, by first | trivial | omega | (refine ⟨?_, ?_⟩ <;> omega)⟩
-- TippedCratesModel.toY(II)I
set_option maxRecDepth 20000 in
theorem ct_220 {m : Mm} {x1 : Int} {x2 : Int}  (T_m : Ty m) (r_x1 : rg x1) (r_x2 : rg x2) (p0 : MW m) (p1 : 0 ≤ x1 ∧ x1 ≤ 24) (p2 : 0 ≤ x2 ∧ x2 ≤ 3) : CK 1 220 [.ref 284, iv x1, iv x2] m (fun m2 v => m2 = m ∧ ((v = x1 / rd m 293 (Int.toNat (rd m 284 18)) + 1 ∧ x2 = 1) ∨ (v = x1 / rd m 293 (Int.toNat (rd m 284 18)) - 1 ∧ x2 = 3) ∨ (v = x1 / rd m 293 (Int.toNat (rd m 284 18)) ∧ (x2 = 0 ∨ x2 = 2)))) := by
  refine br_220 r_x1 r_x2 ?_
  unfold P_220
  have q1 := Int.emod_nonneg x1 (b := rd m 293 (Int.toNat (rd m 284 18))) (by omega)
  have q2 := Int.emod_lt_of_pos x1 (b := rd m 293 (Int.toNat (rd m 284 18))) (by omega)
  have q3 : rmI x1 (rd m 293 (Int.toNat (rd m 284 18))) = x1 % (rd m 293 (Int.toNat (rd m 284 18))) := rm_eq (by omega) (by omega) (by omega) (by omega)
  have q4 : dvI x1 (rd m 293 (Int.toNat (rd m 284 18))) = x1 / (rd m 293 (Int.toNat (rd m 284 18))) := dv_eq (by omega) (by omega) (by omega) (by omega)
  have q5 : 0 ≤ x1 / (rd m 293 (Int.toNat (rd m 284 18))) := Int.ediv_nonneg (by omega) (by omega)
  have q6 : x1 / (rd m 293 (Int.toNat (rd m 284 18))) ≤ x1 := Int.ediv_le_self _ (by omega)
  have t1 := ty_284_18 T_m
  refine ⟨⟨by omega, by omega⟩, ?_⟩
  have t2 := ty_293 T_m (Int.toNat (rd m 284 18))
  refine ⟨by omega, ?_⟩
  refine ⟨fun s1_30 => (s1_30 = 1 ∧ x2 = 1) ∨ (s1_30 = -1 ∧ x2 = 3) ∨ (s1_30 = 0 ∧ (x2 = 0 ∨ x2 = 2)), ?_, ?_⟩
  · skip
    refine ⟨fun hq => ?_, fun hq => ?_⟩
    · skip
      refine ⟨fun hq => ?_, fun hq => ?_⟩
      · skip
        (first | trivial | omega | (refine ⟨?_, ?_⟩ <;> omega))
      · skip
        (first | trivial | omega | (refine ⟨?_, ?_⟩ <;> omega))
    · skip
      (first | trivial | omega | (refine ⟨?_, ?_⟩ <;> omega))
  · intro s1_30 r_s1_30 hR_30
    try have w3 : wr ((dvI x1 (rd m 293 (Int.toNat (rd m 284 18)))) + s1_30) = (dvI x1 (rd m 293 (Int.toNat (rd m 284 18)))) + s1_30 := wr_id (by omega) (by omega)
    exact ⟨rfl, by first | trivial | omega | (refine ⟨?_, ?_⟩ <;> omega)⟩
-- TippedCratesModel.flagBy(II)I
set_option maxRecDepth 20000 in
theorem ct_221 {m : Mm} {x1 : Int} {x2 : Int}  (T_m : Ty m) (r_x1 : rg x1) (r_x2 : rg x2) (p0 : MW m) (p1 : 0 ≤ x1 ∧ x1 ≤ 24) (p2 : 0 ≤ x2 ∧ x2 ≤ 3) : CK 2 221 [.ref 284, iv x1, iv x2] m (fun m2 v => m2 = m ∧ (v = fbyI (rd m 293 (Int.toNat (rd m 284 18))) (rd m 294 (Int.toNat (rd m 284 18))) x1 x2 ∧ -1 ≤ v ∧ v ≤ 24)) := by
  refine br_221 r_x1 r_x2 ?_
  unfold P_221
  refine CK.mono (ct_219   T_m r_x1 r_x2 p0 (by omega) (by omega)) (by decide) ?_
  rintro m3 v3 r_v3 ⟨e_m3, h_m3⟩
  replace e_m3 := e_m3.symm
  subst e_m3
  refine CK.mono (ct_220   T_m r_x1 r_x2 p0 (by omega) (by omega)) (by decide) ?_
  rintro m10 v10 r_v10 ⟨e_m10, h_m10⟩
  replace e_m10 := e_m10.symm
  subst e_m10
  have t1 := ty_284_18 T_m
  refine ⟨⟨by omega, by omega⟩, ?_⟩
  have t2 := ty_293 T_m (Int.toNat (rd m 284 18))
  try have w3 : wr ((rd m 293 (Int.toNat (rd m 284 18))) - 1) = (rd m 293 (Int.toNat (rd m 284 18))) - 1 := wr_id (by omega) (by omega)
  refine CK.mono (ct_206   r_v3 (by unfold rg; decide) (wr_rg _)) (by decide) ?_
  rintro m28 v28 r_v28 ⟨e_m28, h_m28⟩
  replace e_m28 := e_m28.symm
  subst e_m28
  refine ⟨fun s0_72 m_72 => m_72 = m ∧ (s0_72 = fbyI (rd m 293 (Int.toNat (rd m 284 18))) (rd m 294 (Int.toNat (rd m 284 18))) x1 x2 ∧ -1 ≤ s0_72 ∧ s0_72 ≤ 24), ?_, ?_⟩
  · skip
    refine ⟨fun m_71 => m_71 = m ∧ (¬ (0 ≤ v3 ∧ v3 ≤ rd m 293 (Int.toNat (rd m 284 18)) - 1 ∧ 0 ≤ v10 ∧ v10 ≤ rd m 294 (Int.toNat (rd m 284 18)) - 1)), ?_, ?_⟩
    · skip
      refine ⟨fun hq => ?_, fun hq => ?_⟩
      · skip
        exact ⟨rfl, by first | trivial | omega | (refine ⟨?_, ?_⟩ <;> omega)⟩
      · skip
        refine ⟨⟨by omega, by omega⟩, ?_⟩
        have t4 := ty_294 T_m (Int.toNat (rd m 284 18))
        try have w5 : wr ((rd m 294 (Int.toNat (rd m 284 18))) - 1) = (rd m 294 (Int.toNat (rd m 284 18))) - 1 := wr_id (by omega) (by omega)
        refine CK.mono (ct_206   r_v10 (by unfold rg; decide) (wr_rg _)) (by decide) ?_
        rintro m48 v48 r_v48 ⟨e_m48, h_m48⟩
        replace e_m48 := e_m48.symm
        subst e_m48
        refine ⟨fun hq => ?_, fun hq => ?_⟩
        · skip
          exact ⟨rfl, by first | trivial | omega | (refine ⟨?_, ?_⟩ <;> omega)⟩
        · skip
          refine ⟨⟨by omega, by omega⟩, ?_⟩
          try have w6 : wr ((rd m 293 (Int.toNat (rd m 284 18))) * v10) = (rd m 293 (Int.toNat (rd m 284 18))) * v10 := wr_id (by omega) (by omega)
          try have w7 : wr ((wr ((rd m 293 (Int.toNat (rd m 284 18))) * v10)) + v3) = (wr ((rd m 293 (Int.toNat (rd m 284 18))) * v10)) + v3 := wr_id (by omega) (by omega)
          try have fb := fl_b p0.1 p0.2 (x := v3) (y := v10) (by omega) (by omega)
          have fv := fby_val (rd m 293 (Int.toNat (rd m 284 18))) (rd m 294 (Int.toNat (rd m 284 18))) h_m3 h_m10
          exact ⟨rfl, by first | (rw [fv, if_neg hR_71]; exact ⟨rfl, by omega, by omega⟩) | (rw [fv, if_pos (by omega)]; exact ⟨by omega, by omega, by omega⟩)⟩
    · intro m_71  hR_71
      obtain ⟨e_m_71, hR_71⟩ := hR_71
      replace e_m_71 := e_m_71.symm
      subst e_m_71
      try have fb := fl_b p0.1 p0.2 (x := v3) (y := v10) (by omega) (by omega)
      have fv := fby_val (rd m 293 (Int.toNat (rd m 284 18))) (rd m 294 (Int.toNat (rd m 284 18))) h_m3 h_m10
      exact ⟨rfl, by first | (rw [fv, if_neg hR_71]; exact ⟨rfl, by omega, by omega⟩) | (rw [fv, if_pos (by omega)]; exact ⟨by omega, by omega, by omega⟩)⟩
  · intro s0_72 m_72 r_s0_72 hR_72
    obtain ⟨e_m_72, hR_72⟩ := hR_72
    replace e_m_72 := e_m_72.symm
    subst e_m_72
    exact ⟨rfl, by first | trivial | omega | (refine ⟨?_, ?_⟩ <;> omega)⟩
-- TippedCratesModel.isTaken(II)Z
set_option maxRecDepth 20000 in
theorem ct_222 {m : Mm} {x1 : Int} {x2 : Int}  (T_m : Ty m) (r_x1 : rg x1) (r_x2 : rg x2)  : CK 1 222 [.ref 284, iv x1, iv x2] m (fun m2 v => m2 = m ∧ (v = 0 ∨ v = 1)) := by
  refine br_222 r_x1 r_x2 ?_
  unfold P_222
  refine ⟨fun x3_2 => 0 ≤ x3_2 ∧ x3_2 ≤ 3, fun x3_2 => Int.toNat (3 - x3_2), ?_, ?_⟩
  · (first | omega | (refine ⟨?_, ?_⟩ <;> omega) | trivial)
  · intro x3_2 r_x3_2 hI_2
    have t1 := ty_284_18 T_m
    refine ⟨⟨by omega, by omega⟩, ?_⟩
    have t2 := ty_302 T_m (Int.toNat (rd m 284 18))
    refine ⟨fun hq => ?_, fun hq => ?_⟩
    · skip
      exact ⟨rfl, by first | trivial | omega | (refine ⟨?_, ?_⟩ <;> omega)⟩
    · skip
      refine ⟨True, ?_, ?_⟩
      · skip
        refine ⟨fun hq => ?_, fun hq => ?_⟩
        · skip
          (first | trivial | omega | (refine ⟨?_, ?_⟩ <;> omega))
        · skip
          try have w3 : wr (43 + x3_2) = 43 + x3_2 := wr_id (by omega) (by omega)
          refine ⟨⟨by omega, by omega⟩, ?_⟩
          have t4 := tr_323 T_m (Int.toNat (wr (43 + x3_2)))
          refine ⟨fun hq => ?_, fun hq => ?_⟩
          · skip
            (first | trivial | omega | (refine ⟨?_, ?_⟩ <;> omega))
          · skip
            exact ⟨rfl, by first | trivial | omega | (refine ⟨?_, ?_⟩ <;> omega)⟩
      · intro   hR_35
        try have w5 : wr (x3_2 + 1) = x3_2 + 1 := wr_id (by omega) (by omega)
        intro z3_35 e_z3_35
        have r_z3_35 : rg z3_35 := by rw [e_z3_35]; exact wr_rg _
        exact ⟨by first | omega | (refine ⟨?_, ?_⟩ <;> omega) | trivial, by (try dsimp only); omega⟩
-- TippedCratesModel.canFrom(III)Z
set_option maxRecDepth 20000 in
theorem ct_223 {m : Mm} {x1 : Int} {x2 : Int} {x3 : Int}  (T_m : Ty m) (r_x1 : rg x1) (r_x2 : rg x2) (r_x3 : rg x3) (p0 : MW m) (p1 : 0 ≤ x2 ∧ x2 ≤ 24) (p2 : 0 ≤ x3 ∧ x3 ≤ 3) : CK 3 223 [.ref 284, iv x1, iv x2, iv x3] m (fun m2 v => m2 = m ∧ ((v = 0 ∨ v = 1) ∧ (v = 1 → 0 ≤ fbyI (rd m 293 (Int.toNat (rd m 284 18))) (rd m 294 (Int.toNat (rd m 284 18))) x2 x3))) := by
  refine br_223 r_x1 r_x2 r_x3 ?_
  unfold P_223
  refine CK.mono (ct_221   T_m r_x2 r_x3 p0 (by omega) (by omega)) (by decide) ?_
  rintro m3 v3 r_v3 ⟨e_m3, h_m3⟩
  replace e_m3 := e_m3.symm
  subst e_m3
  refine ⟨fun s0_37 m_37 => m_37 = m ∧ ((s0_37 = 0 ∨ s0_37 = 1) ∧ (s0_37 = 1 → 0 ≤ fbyI (rd m 293 (Int.toNat (rd m 284 18))) (rd m 294 (Int.toNat (rd m 284 18))) x2 x3)), ?_, ?_⟩
  · skip
    refine ⟨fun m_36 => m_36 = m ∧ (True), ?_, ?_⟩
    · skip
      refine ⟨fun hq => ?_, fun hq => ?_⟩
      · skip
        exact ⟨rfl, by first | trivial | omega | (refine ⟨?_, ?_⟩ <;> omega)⟩
      · skip
        refine CK.mono (ct_213   r_v3) (by decide) ?_
        rintro m16 v16 r_v16 ⟨e_m16, h_m16⟩
        replace e_m16 := e_m16.symm
        subst e_m16
        refine ⟨fun hq => ?_, fun hq => ?_⟩
        · skip
          exact ⟨rfl, by first | trivial | omega | (refine ⟨?_, ?_⟩ <;> omega)⟩
        · skip
          refine CK.mono (ct_222   T_m r_x1 r_v3) (by decide) ?_
          rintro m26 v26 r_v26 ⟨e_m26, h_m26⟩
          replace e_m26 := e_m26.symm
          subst e_m26
          refine ⟨fun hq => ?_, fun hq => ?_⟩
          · skip
            exact ⟨rfl, by first | trivial | omega | (refine ⟨?_, ?_⟩ <;> omega)⟩
          · skip
            exact ⟨rfl, by first | trivial | omega | (refine ⟨?_, ?_⟩ <;> omega)⟩
    · intro m_36  hR_36
      obtain ⟨e_m_36, hR_36⟩ := hR_36
      replace e_m_36 := e_m_36.symm
      subst e_m_36
      exact ⟨rfl, by first | trivial | omega | (refine ⟨?_, ?_⟩ <;> omega)⟩
  · intro s0_37 m_37 r_s0_37 hR_37
    obtain ⟨e_m_37, hR_37⟩ := hR_37
    replace e_m_37 := e_m_37.symm
    subst e_m_37
    exact ⟨by omega, ⟨rfl, by first | trivial | omega | (refine ⟨?_, ?_⟩ <;> omega)⟩⟩
-- TippedCratesModel.canTip(II)Z
set_option maxRecDepth 20000 in
theorem ct_224 {m : Mm} {x1 : Int} {x2 : Int}  (T_m : Ty m) (r_x1 : rg x1) (r_x2 : rg x2) (p0 : MW m) (p1 : 0 ≤ x1 ∧ x1 ≤ 2) (p2 : 0 ≤ x2 ∧ x2 ≤ 3) : CK 4 224 [.ref 284, iv x1, iv x2] m (fun m2 v => m2 = m ∧ ((v = 0 ∨ v = 1) ∧ (v = 1 → 0 ≤ fbyI (rd m 293 (Int.toNat (rd m 284 18))) (rd m 294 (Int.toNat (rd m 284 18))) (rd m 323 (Int.toNat (43 + x1))) x2))) := by
  refine br_224 r_x1 r_x2 ?_
  unfold P_224
  try have w1 : wr (43 + x1) = 43 + x1 := wr_id (by omega) (by omega)
  refine ⟨⟨by omega, by omega⟩, ?_⟩
  have t2 := tr_323 T_m (Int.toNat (wr (43 + x1)))
  refine CK.mono (ct_223   T_m r_x1 (rd_rg _ _ _) r_x2 p0 (by omega) (by omega)) (by decide) ?_
  rintro m12 v12 r_v12 ⟨e_m12, h_m12⟩
  replace e_m12 := e_m12.symm
  subst e_m12
  have e43 : rd m 323 (Int.toNat (wr (43 + x1))) = rd m 323 (Int.toNat (43 + x1)) := congrArg (rd m 323) (by omega)
  rw [e43] at h_m12
  exact ⟨by omega, ⟨rfl, by exact h_m12⟩⟩
-- TippedCratesModel.markAt(III)I
set_option maxRecDepth 20000 in
theorem ct_227 {m : Mm} {x1 : Int} {x2 : Int} {x3 : Int}  (T_m : Ty m) (r_x1 : rg x1) (r_x2 : rg x2) (r_x3 : rg x3) (p0 : 0 ≤ x1 ∧ x1 ≤ 2) (p1 : 0 ≤ x2 ∧ x2 ≤ 23) (p2 : 0 ≤ x3 ∧ x3 ≤ 5) : CK 1 227 [.ref 284, iv x1, iv x2, iv x3] m (fun m2 v => m2 = m ∧ (0 ≤ v ∧ v ≤ 9)) := by
  refine br_227 r_x1 r_x2 r_x3 ?_
  unfold P_227
  try have w1 : wr (6 * x2) = 6 * x2 := wr_id (by omega) (by omega)
  try have w2 : wr ((wr (6 * x2)) + x3) = (wr (6 * x2)) + x3 := wr_id (by omega) (by omega)
  refine ⟨⟨by omega, by omega⟩, ?_⟩
  try have w3 : wr (6 * x1) = 6 * x1 := wr_id (by omega) (by omega)
  try have w4 : wr (25 + (wr (6 * x1))) = 25 + (wr (6 * x1)) := wr_id (by omega) (by omega)
  have t5 := ty_319 T_m (Int.toNat (wr ((wr (6 * x2)) + x3)))
  try have w6 : wr ((wr (25 + (wr (6 * x1)))) + (rd m 319 (Int.toNat (wr ((wr (6 * x2)) + x3))))) = (wr (25 + (wr (6 * x1)))) + (rd m 319 (Int.toNat (wr ((wr (6 * x2)) + x3)))) := wr_id (by omega) (by omega)
  refine ⟨⟨by omega, by omega⟩, ?_⟩
  have t7 := tr_323 T_m (Int.toNat (wr ((wr (25 + (wr (6 * x1)))) + (rd m 319 (Int.toNat (wr ((wr (6 * x2)) + x3)))))))
  exact ⟨rfl, by first | trivial | omega | (refine ⟨?_, ?_⟩ <;> omega)⟩
-- TippedCratesModel.copies()V
set_option maxRecDepth 20000 in
theorem ct_216 {m : Mm}   (T_m : Ty m)   : CV 1 216 [.ref 284] m (fun m2 => GX sC m m2 ∧ (True)) := by
  refine br_216  ?_
  unfold P_216
  have g_m : GX sC m m := ⟨T_m, fun _ _ _ => rfl, fun _ _ => rfl⟩
  refine ⟨fun x1_2 m_2 => GX sC m m_2 ∧ (0 ≤ x1_2 ∧ x1_2 ≤ 51), fun x1_2 m_2 => Int.toNat (51 - x1_2), ?_, ?_⟩
  · exact ⟨g_m, by first | omega | (refine ⟨?_, ?_⟩ <;> omega) | trivial⟩
  · intro x1_2 m_2 r_x1_2 hI_2
    obtain ⟨g_m_2, hI_2⟩ := hI_2
    refine ⟨fun hq => ?_, fun hq => ?_⟩
    · skip
      have t1 := ty_284_18 g_m_2.1
      refine ⟨⟨by omega, by omega⟩, ?_⟩
      have t2 := ty_306 g_m_2.1 (Int.toNat (rd m_2 284 18))
      intro m36 e_m36
      have g_m36 : GX sC m m36 := by rw [e_m36]; exact GX.wt g_m_2 (tw_284_58 g_m_2.1 (rd_rg _ _ _)) (Eq.refl true)
      exact ⟨g_m36, by first | trivial | omega | (refine ⟨?_, ?_⟩ <;> omega)⟩
    · skip
      refine ⟨⟨by omega, by omega⟩, ?_⟩
      refine ⟨⟨by omega, by omega⟩, ?_⟩
      have t3 := tr_322 g_m_2.1 (Int.toNat x1_2)
      intro m19 e_m19
      have g_m19 : GX sC m m19 := by rw [e_m19]; exact GX.wt g_m_2 (tz_323 g_m_2.1 (rd_rg _ _ _) (by omega) (by omega)) (Eq.refl true)
      try have w4 : wr (x1_2 + 1) = x1_2 + 1 := wr_id (by omega) (by omega)
      intro z1_20 e_z1_20
      have r_z1_20 : rg z1_20 := by rw [e_z1_20]; exact wr_rg _
      exact ⟨⟨g_m19, by first | omega | (refine ⟨?_, ?_⟩ <;> omega) | trivial⟩, by (try dsimp only); omega⟩
-- TippedCratesModel.views(IIII)V
set_option maxRecDepth 20000 in
theorem ct_226 {m : Mm} {x1 : Int} {x2 : Int} {x3 : Int} {x4 : Int}  (T_m : Ty m) (r_x1 : rg x1) (r_x2 : rg x2) (r_x3 : rg x3) (r_x4 : rg x4) (p0 : MW m) (p1 : 0 ≤ x1 ∧ x1 ≤ 2) (p2 : 0 ≤ x2 ∧ x2 ≤ 24) (p3 : 0 ≤ x3 ∧ x3 ≤ 23) (p4 : 0 ≤ x4 ∧ x4 ≤ 3) : CV 3 226 [.ref 284, iv x1, iv x2, iv x3, iv x4] m (fun m2 => GX sV m m2 ∧ (True)) := by
  refine br_226 r_x1 r_x2 r_x3 r_x4 ?_
  unfold P_226
  have g_m : GX sV m m := ⟨T_m, fun _ _ _ => rfl, fun _ _ => rfl⟩
  refine CK.mono (ct_221   T_m r_x2 r_x4 p0 (by omega) (by omega)) (by decide) ?_
  rintro m4 v4 r_v4 ⟨e_m4, h_m4⟩
  replace e_m4 := e_m4.symm
  subst e_m4
  try have w1 : wr (4 * x3) = 4 * x3 := wr_id (by omega) (by omega)
  try have w2 : wr ((wr (4 * x3)) + x4) = (wr (4 * x3)) + x4 := wr_id (by omega) (by omega)
  refine ⟨⟨by omega, by omega⟩, ?_⟩
  have t3 := ty_320 T_m (Int.toNat (wr ((wr (4 * x3)) + x4)))
  intro z6_20 e_z6_20
  have r_z6_20 : rg z6_20 := by rw [e_z6_20]; exact (rd_rg _ _ _)
  refine CK.mono (ct_219   T_m r_x2 r_x4 p0 (by omega) (by omega)) (by decide) ?_
  rintro m31 v31 r_v31 ⟨e_m31, h_m31⟩
  replace e_m31 := e_m31.symm
  subst e_m31
  intro m34 e_m34
  have g_m34 : GX sV m m34 := by rw [e_m34]; exact GX.wt g_m (tw_317 T_m (by first | assumption | omega)) (Eq.refl true)
  refine CK.mono (ct_220   g_m34.1 r_x2 r_x4 (MW_V p0 g_m34) (by omega) (by omega)) (by decide) ?_
  rintro m44 v44 r_v44 ⟨e_m44, h_m44⟩
  replace e_m44 := e_m44.symm
  subst e_m44
  intro m47 e_m47
  have g_m47 : GX sV m m47 := by rw [e_m47]; exact GX.wt g_m34 (tw_317 g_m34.1 (by first | assumption | omega)) (Eq.refl true)
  refine ⟨fun s2_69 => True, ?_, ?_⟩
  · skip
    refine ⟨fun hq => ?_, fun hq => ?_⟩
    · skip
      refine ⟨⟨by omega, by omega⟩, ?_⟩
      have t4 := tr_323 g_m47.1 (Int.toNat v4)
      (first | trivial | omega | (refine ⟨?_, ?_⟩ <;> omega))
    · skip
      (first | trivial | omega | (refine ⟨?_, ?_⟩ <;> omega))
  · intro s2_69 r_s2_69 hR_69
    intro m69 e_m69
    have g_m69 : GX sV m m69 := by rw [e_m69]; exact GX.wt g_m47 (tw_317 g_m47.1 (by first | assumption | omega)) (Eq.refl true)
    refine CK.mono (ct_227   g_m69.1 r_x1 r_z6_20 (by unfold rg; decide) (by omega) (by omega) (by omega)) (by decide) ?_
    rintro m80 v80 r_v80 ⟨e_m80, h_m80⟩
    replace e_m80 := e_m80.symm
    subst e_m80
    intro m83 e_m83
    have g_m83 : GX sV m m83 := by rw [e_m83]; exact GX.wt g_m69 (tw_317 g_m69.1 (by first | assumption | omega)) (Eq.refl true)
    refine CK.mono (ct_227   g_m83.1 r_x1 r_z6_20 (by unfold rg; decide) (by omega) (by omega) (by omega)) (by decide) ?_
    rintro m94 v94 r_v94 ⟨e_m94, h_m94⟩
    replace e_m94 := e_m94.symm
    subst e_m94
    intro m97 e_m97
    have g_m97 : GX sV m m97 := by rw [e_m97]; exact GX.wt g_m83 (tw_317 g_m83.1 (by first | assumption | omega)) (Eq.refl true)
    try have w5 : wr (46 + x1) = 46 + x1 := wr_id (by omega) (by omega)
    refine ⟨⟨by omega, by omega⟩, ?_⟩
    have t6 := tr_323 g_m97.1 (Int.toNat (wr (46 + x1)))
    intro m112 e_m112
    have g_m112 : GX sV m m112 := by rw [e_m112]; exact GX.wt g_m97 (tw_317 g_m97.1 (rd_rg _ _ _)) (Eq.refl true)
    have t7 := tr_323 g_m112.1 49
    intro m126 e_m126
    have g_m126 : GX sV m m126 := by rw [e_m126]; exact GX.wt g_m112 (tw_317 g_m112.1 (rd_rg _ _ _)) (Eq.refl true)
    intro m134 e_m134
    have g_m134 : GX sV m m134 := by rw [e_m134]; exact GX.wt g_m126 (tw_317 g_m126.1 (by first | assumption | omega)) (Eq.refl true)
    intro m143 e_m143
    have g_m143 : GX sV m m143 := by rw [e_m143]; exact GX.wt g_m134 (tw_317 g_m134.1 (by first | assumption | omega)) (Eq.refl true)
    exact ⟨g_m143, by first | trivial | omega | (refine ⟨?_, ?_⟩ <;> omega)⟩
-- TippedCratesModel.termOf(II)I
set_option maxRecDepth 20000 in
theorem ct_201 {m : Mm} {x1 : Int} {x2 : Int}  (T_m : Ty m) (r_x1 : rg x1) (r_x2 : rg x2) (p0 : segOk m x1 x2) : CK 1 201 [.ref 284, iv x1, iv x2] m (fun m2 v => GX sV m m2 ∧ (True)) := by
  refine br_201 r_x1 r_x2 ?_
  unfold P_201
  have g_m : GX sV m m := ⟨T_m, fun _ _ _ => rfl, fun _ _ => rfl⟩
  obtain ⟨hb, H, h0, h1, hs⟩ := p0
  refine ⟨fun x3_5 x4_5 m_5 => GX sV m m_5 ∧ ((x1 ≤ x4_5 ∧ x4_5 ≤ x2) ∧ x3_5 = H (Int.toNat x4_5) ∧ 0 ≤ x3_5 ∧ x3_5 ≤ x4_5 - x1), fun x3_5 x4_5 m_5 => Int.toNat (x2 - x4_5), ?_, ?_⟩
  · exact ⟨g_m, by first | omega | (refine ⟨?_, ?_⟩ <;> omega) | trivial⟩
  · intro x3_5 x4_5 m_5 r_x3_5 r_x4_5 hI_5
    obtain ⟨g_m_5, hI_5⟩ := hI_5
    have hc := hs (Int.toNat x4_5)
    have f14 : rd m_5 314 (Int.toNat x4_5) = rd m 314 (Int.toNat x4_5) := g_m_5.2.1 314 _ rfl
    have f15 : rd m_5 315 (Int.toNat x4_5) = rd m 315 (Int.toNat x4_5) := g_m_5.2.1 315 _ rfl
    have e1 : x4_5 < x2 → Int.toNat (x4_5 + 1) = Int.toNat x4_5 + 1 := fun _ => by omega
    refine ⟨fun hq => ?_, fun hq => ?_⟩
    · skip
      exact ⟨g_m_5, by first | trivial | omega | (refine ⟨?_, ?_⟩ <;> omega)⟩
    · skip
      refine ⟨⟨by omega, by omega⟩, ?_⟩
      have t2 := ty_314 g_m_5.1 (Int.toNat x4_5)
      intro z5_18 e_z5_18
      have r_z5_18 : rg z5_18 := by rw [e_z5_18]; exact (rd_rg _ _ _)
      refine ⟨fun y3_159 m_159 => GX sV m m_159 ∧ (y3_159 = H (Int.toNat x4_5 + 1) ∧ 0 ≤ y3_159 ∧ y3_159 ≤ x4_5 + 1 - x1), ?_, ?_⟩
      · skip
        refine ⟨fun hq => ?_, fun hq => ?_⟩
        · skip
          try have w3 : wr (x3_5 + (-1)) = x3_5 + (-1) := wr_id (by omega) (by omega)
          intro z3_65 e_z3_65
          have r_z3_65 : rg z3_65 := by rw [e_z3_65]; exact wr_rg _
          try have w4 : wr (z3_65 - 1) = z3_65 - 1 := wr_id (by omega) (by omega)
          refine ⟨⟨by omega, by omega⟩, ?_⟩
          intro z6_76 e_z6_76
          have r_z6_76 : rg z6_76 := by rw [e_z6_76]; exact (rd_rg _ _ _)
          refine ⟨⟨by omega, by omega⟩, ?_⟩
          intro z7_84 e_z7_84
          have r_z7_84 : rg z7_84 := by rw [e_z7_84]; exact (rd_rg _ _ _)
          refine ⟨¬ z5_18 = 5 ∨ ¬ z7_84 = 0, ?_, ?_⟩
          · skip
            refine ⟨fun hq => ?_, fun hq => ?_⟩
            · skip
              (first | trivial | omega | (refine ⟨?_, ?_⟩ <;> omega))
            · skip
              refine ⟨fun hq => ?_, fun hq => ?_⟩
              · skip
                (first | trivial | omega | (refine ⟨?_, ?_⟩ <;> omega))
              · skip
                intro m99 e_m99
                have g_m99 : GX sV m m99 := by rw [e_m99]; exact GX.wt g_m_5 (tw_284_51 g_m_5.1 (by first | assumption | omega)) (Eq.refl true)
                exact ⟨g_m99, by first | trivial | omega | (refine ⟨?_, ?_⟩ <;> omega)⟩
          · intro   hR_104
            refine ⟨fun s2_158 => True, ?_, ?_⟩
            · skip
              refine ⟨fun hq => ?_, fun hq => ?_⟩
              · skip
                refine ⟨fun hq => ?_, fun hq => ?_⟩
                · skip
                  refine ⟨fun hq => ?_, fun hq => ?_⟩
                  · skip
                    refine ⟨by omega, ?_⟩
                    (first | trivial | omega | (refine ⟨?_, ?_⟩ <;> omega))
                  · skip
                    try have w7 : wr (z6_76 * z7_84) = z6_76 * z7_84 := wr_id (by omega) (by omega)
                    (first | trivial | omega | (refine ⟨?_, ?_⟩ <;> omega))
                · skip
                  try have w8 : wr (z6_76 - z7_84) = z6_76 - z7_84 := wr_id (by omega) (by omega)
                  (first | trivial | omega | (refine ⟨?_, ?_⟩ <;> omega))
              · skip
                try have w9 : wr (z6_76 + z7_84) = z6_76 + z7_84 := wr_id (by omega) (by omega)
                (first | trivial | omega | (refine ⟨?_, ?_⟩ <;> omega))
            · intro s2_158 r_s2_158 hR_158
              refine ⟨⟨by omega, by omega⟩, ?_⟩
              intro m158 e_m158
              have g_m158 : GX sV m m158 := by rw [e_m158]; exact GX.wt g_m_5 (tw_318 g_m_5.1 (by first | assumption | omega)) (Eq.refl true)
              exact ⟨g_m158, by first | trivial | omega | (refine ⟨?_, ?_⟩ <;> omega)⟩
        · skip
          refine ⟨fun s2_58 => True, ?_, ?_⟩
          · skip
            refine ⟨fun hq => ?_, fun hq => ?_⟩
            · skip
              refine ⟨⟨by omega, by omega⟩, ?_⟩
              have t10 := ty_315 g_m_5.1 (Int.toNat x4_5)
              refine ⟨⟨by omega, by omega⟩, ?_⟩
              (first | trivial | omega | (refine ⟨?_, ?_⟩ <;> omega))
            · skip
              refine ⟨⟨by omega, by omega⟩, ?_⟩
              have t12 := ty_315 g_m_5.1 (Int.toNat x4_5)
              (first | trivial | omega | (refine ⟨?_, ?_⟩ <;> omega))
          · intro s2_58 r_s2_58 hR_58
            refine ⟨⟨by omega, by omega⟩, ?_⟩
            intro m58 e_m58
            have g_m58 : GX sV m m58 := by rw [e_m58]; exact GX.wt g_m_5 (tw_318 g_m_5.1 (by first | assumption | omega)) (Eq.refl true)
            try have w13 : wr (x3_5 + 1) = x3_5 + 1 := wr_id (by omega) (by omega)
            intro z3_59 e_z3_59
            have r_z3_59 : rg z3_59 := by rw [e_z3_59]; exact wr_rg _
            exact ⟨g_m58, by first | trivial | omega | (refine ⟨?_, ?_⟩ <;> omega)⟩
      · intro y3_159 m_159 r_y3_159 hR_159
        obtain ⟨g_m_159, hR_159⟩ := hR_159
        try have w14 : wr (x4_5 + 1) = x4_5 + 1 := wr_id (by omega) (by omega)
        intro z4_159 e_z4_159
        have r_z4_159 : rg z4_159 := by rw [e_z4_159]; exact wr_rg _
        exact ⟨⟨g_m_159, by exact ⟨by omega, by rw [e_z4_159, wr_id (by omega) (by omega), e1 (by omega)]; exact hR_159.1, by omega, by omega⟩⟩, by (try dsimp only); omega⟩
-- TippedCratesModel.lawTells(II)I
set_option maxRecDepth 20000 in
theorem ct_225 {m : Mm} {x1 : Int} {x2 : Int}  (T_m : Ty m) (r_x1 : rg x1) (r_x2 : rg x2) (p0 : 0 ≤ x1 ∧ x1 ≤ 3) (p1 : lawsM m) : CK 2 225 [.ref 284, iv x1, iv x2] m (fun m2 v => GX sV m m2 ∧ (True)) := by
  refine br_225 r_x1 r_x2 ?_
  unfold P_225
  have g_m : GX sV m m := ⟨T_m, fun _ _ _ => rfl, fun _ _ => rfl⟩
  have tl := ty_284_18 T_m
  have t1 := ty_284_18 T_m
  try have w2 : wr (4 * (rd m 284 18)) = 4 * (rd m 284 18) := wr_id (by omega) (by omega)
  try have w3 : wr ((wr (4 * (rd m 284 18))) + x1) = (wr (4 * (rd m 284 18))) + x1 := wr_id (by omega) (by omega)
  intro z3_8 e_z3_8
  have r_z3_8 : rg z3_8 := by rw [e_z3_8]; exact (wr_rg _)
  refine ⟨⟨by omega, by omega⟩, ?_⟩
  refine ⟨⟨by omega, by omega⟩, ?_⟩
  have t4 := ty_307 T_m (Int.toNat z3_8)
  have t5 := ty_308 T_m (Int.toNat z3_8)
  refine ⟨fun hq => ?_, fun hq => ?_⟩
  · skip
    intro m28 e_m28
    have g_m28 : GX sV m m28 := by rw [e_m28]; exact GX.wt g_m (tw_284_51 T_m (by first | assumption | omega)) (Eq.refl true)
    have a28 : rd m28 307 (Int.toNat z3_8) = rd m 307 (Int.toNat z3_8) := by rw [e_m28, rd_wt, if_neg (by omega)]
    refine ⟨⟨by omega, by omega⟩, ?_⟩
    have t6 := ty_307 g_m28.1 (Int.toNat z3_8)
    intro z4_37 e_z4_37
    have r_z4_37 : rg z4_37 := by rw [e_z4_37]; exact (rd_rg _ _ _)
    refine ⟨fun x4_39 m_39 => GX sV m m_39 ∧ (x4_39 ≤ 260 ∧ rd m 307 (Int.toNat z3_8) ≤ x4_39), fun x4_39 m_39 => Int.toNat (260 - x4_39), ?_, ?_⟩
    · exact ⟨g_m28, by first | omega | (refine ⟨?_, ?_⟩ <;> omega) | trivial⟩
    · intro x4_39 m_39 r_x4_39 hI_39
      obtain ⟨g_m_39, hI_39⟩ := hI_39
      have a8 : rd m_39 308 (Int.toNat z3_8) = rd m 308 (Int.toNat z3_8) := g_m_39.2.1 308 _ rfl
      have a9 : rd m_39 309 (Int.toNat x4_39) = rd m 309 (Int.toNat x4_39) := g_m_39.2.1 309 _ rfl
      have lw := p1 x1 p0 (Int.toNat x4_39)
      rw [show Int.toNat (4 * rd m 284 18 + x1) = Int.toNat z3_8 by omega] at lw
      refine ⟨⟨by omega, by omega⟩, ?_⟩
      have t7 := ty_308 g_m_39.1 (Int.toNat z3_8)
      refine ⟨fun hq => ?_, fun hq => ?_⟩
      · skip
        exact ⟨g_m_39, by first | trivial | omega | (refine ⟨?_, ?_⟩ <;> omega)⟩
      · skip
        refine ⟨⟨by omega, by omega⟩, ?_⟩
        refine ⟨fun m_119 => GX sV m m_119 ∧ (True), ?_, ?_⟩
        · skip
          refine ⟨fun hq => ?_, fun hq => ?_⟩
          · skip
            exact ⟨g_m_39, by first | trivial | omega | (refine ⟨?_, ?_⟩ <;> omega)⟩
          · skip
            refine ⟨⟨by omega, by omega⟩, ?_⟩
            refine ⟨⟨by omega, by omega⟩, ?_⟩
            have t9 := ty_310 g_m_39.1 (Int.toNat x4_39)
            have t10 := ty_311 g_m_39.1 (Int.toNat x4_39)
            refine CK.mono (ct_201   g_m_39.1 (rd_rg _ _ _) (rd_rg _ _ _) (seg_V ((lw (by omega) (by omega)).1 (by omega)).1 g_m_39 (g_m_39.2.1 310 _ rfl) (g_m_39.2.1 311 _ rfl))) (by decide) ?_
            rintro m75 v75 r_v75 ⟨hx_m75, h_m75⟩
            have g_m75 : GX sV m m75 := gx_in g_m_39 hx_m75 in_sV_sV
            refine ⟨⟨by omega, by omega⟩, ?_⟩
            refine ⟨⟨by omega, by omega⟩, ?_⟩
            have t11 := ty_311 g_m75.1 (Int.toNat x4_39)
            have t12 := ty_312 g_m75.1 (Int.toNat x4_39)
            refine CK.mono (ct_201   g_m75.1 (rd_rg _ _ _) (rd_rg _ _ _) (seg_V ((lw (by omega) (by omega)).1 (by omega)).2 g_m75 (g_m75.2.1 311 _ rfl) (g_m75.2.1 312 _ rfl))) (by decide) ?_
            rintro m95 v95 r_v95 ⟨hx_m95, h_m95⟩
            have g_m95 : GX sV m m95 := gx_in g_m75 hx_m95 in_sV_sV
            refine ⟨fun hq => ?_, fun hq => ?_⟩
            · skip
              refine ⟨fun hq => ?_, fun hq => ?_⟩
              · skip
                exact ⟨g_m95, by first | trivial | omega | (refine ⟨?_, ?_⟩ <;> omega)⟩
              · skip
                try have w14 : wr (x4_39 + 1) = x4_39 + 1 := wr_id (by omega) (by omega)
                intro z4_153 e_z4_153
                have r_z4_153 : rg z4_153 := by rw [e_z4_153]; exact wr_rg _
                exact ⟨⟨g_m95, by first | omega | (refine ⟨?_, ?_⟩ <;> omega) | trivial⟩, by (try dsimp only); omega⟩
            · skip
              exact ⟨g_m95, by first | trivial | omega | (refine ⟨?_, ?_⟩ <;> omega)⟩
        · intro m_119  hR_119
          obtain ⟨g_m_119, hR_119⟩ := hR_119
          refine ⟨⟨by omega, by omega⟩, ?_⟩
          refine ⟨⟨by omega, by omega⟩, ?_⟩
          have t15 := ty_312 g_m_119.1 (Int.toNat x4_39)
          have t16 := ty_313 g_m_119.1 (Int.toNat x4_39)
          refine CK.mono (ct_201   g_m_119.1 (rd_rg _ _ _) (rd_rg _ _ _) (seg_V (lw (by omega) (by omega)).2 g_m_119 (g_m_119.2.1 312 _ rfl) (g_m_119.2.1 313 _ rfl))) (by decide) ?_
          rintro m134 v134 r_v134 ⟨hx_m134, h_m134⟩
          have g_m134 : GX sV m m134 := gx_in g_m_119 hx_m134 in_sV_sV
          refine ⟨fun s0_152 => True, ?_, ?_⟩
          · skip
            refine ⟨fun hq => ?_, fun hq => ?_⟩
            · skip
              (first | trivial | omega | (refine ⟨?_, ?_⟩ <;> omega))
            · skip
              (first | trivial | omega | (refine ⟨?_, ?_⟩ <;> omega))
          · intro s0_152 r_s0_152 hR_152
            exact ⟨g_m134, by first | trivial | omega | (refine ⟨?_, ?_⟩ <;> omega)⟩
  · skip
    exact ⟨g_m, by first | trivial | omega | (refine ⟨?_, ?_⟩ <;> omega)⟩
-- TippedCratesModel.costsAt(IIII)I
set_option maxRecDepth 20000 in
theorem ct_228 {m : Mm} {x1 : Int} {x2 : Int} {x3 : Int} {x4 : Int}  (T_m : Ty m) (r_x1 : rg x1) (r_x2 : rg x2) (r_x3 : rg x3) (r_x4 : rg x4) (p0 : MW m) (p1 : lawsM m) (p2 : 0 ≤ x1 ∧ x1 ≤ 2) (p3 : 0 ≤ x2 ∧ x2 ≤ 24) (p4 : 0 ≤ x3 ∧ x3 ≤ 23) (p5 : 0 ≤ x4 ∧ x4 ≤ 3) : CK 4 228 [.ref 284, iv x1, iv x2, iv x3, iv x4] m (fun m2 v => GX sV m m2 ∧ (0 ≤ v ∧ v ≤ 99)) := by
  refine br_228 r_x1 r_x2 r_x3 r_x4 ?_
  unfold P_228
  have g_m : GX sV m m := ⟨T_m, fun _ _ _ => rfl, fun _ _ => rfl⟩
  refine CV.mono (ct_226   T_m r_x1 r_x2 r_x3 r_x4 p0 (by omega) (by omega) (by omega) (by omega)) (by decide) ?_
  rintro m6 ⟨hx_m6, h_m6⟩
  have g_m6 : GX sV m m6 := gx_in g_m hx_m6 in_sV_sV
  refine CK.mono (ct_225   g_m6.1 (by unfold rg; decide) (by unfold rg; decide) (by omega) (laws_V p1 g_m6)) (by decide) ?_
  rintro m12 v12 r_v12 ⟨hx_m12, h_m12⟩
  have g_m12 : GX sV m m12 := gx_in g_m6 hx_m12 in_sV_sV
  refine CK.mono (ct_207   r_v12 (by unfold rg; decide) (by unfold rg; decide) (by omega)) (by decide) ?_
  rintro m18 v18 r_v18 ⟨e_m18, h_m18⟩
  replace e_m18 := e_m18.symm
  subst e_m18
  exact ⟨g_m12, by first | trivial | omega | (refine ⟨?_, ?_⟩ <;> omega)⟩
-- TippedCratesModel.costsOf(II)I
set_option maxRecDepth 20000 in
theorem ct_229 {m : Mm} {x1 : Int} {x2 : Int}  (T_m : Ty m) (r_x1 : rg x1) (r_x2 : rg x2) (p0 : MW m) (p1 : lawsM m) (p2 : 0 ≤ x1 ∧ x1 ≤ 2) (p3 : 0 ≤ x2 ∧ x2 ≤ 3) : CK 5 229 [.ref 284, iv x1, iv x2] m (fun m2 v => GX sV m m2 ∧ (0 ≤ v ∧ v ≤ 99)) := by
  refine br_229 r_x1 r_x2 ?_
  unfold P_229
  have g_m : GX sV m m := ⟨T_m, fun _ _ _ => rfl, fun _ _ => rfl⟩
  try have w1 : wr (43 + x1) = 43 + x1 := wr_id (by omega) (by omega)
  refine ⟨⟨by omega, by omega⟩, ?_⟩
  have t2 := tr_323 T_m (Int.toNat (wr (43 + x1)))
  refine CK.mono (ct_228   T_m r_x1 (rd_rg _ _ _) (by unfold rg; decide) r_x2 p0 p1 (by omega) (by omega) (by omega) (by omega)) (by decide) ?_
  rintro m13 v13 r_v13 ⟨hx_m13, h_m13⟩
  have g_m13 : GX sV m m13 := gx_in g_m hx_m13 in_sV_sV
  exact ⟨g_m13, by first | trivial | omega | (refine ⟨?_, ?_⟩ <;> omega)⟩
-- TippedCratesModel.doesPrint(II)Z
set_option maxRecDepth 20000 in
theorem ct_230 {m : Mm} {x1 : Int} {x2 : Int}  (T_m : Ty m) (r_x1 : rg x1) (r_x2 : rg x2) (p0 : MW m) (p1 : lawsM m) (p2 : 0 ≤ x1 ∧ x1 ≤ 2) (p3 : 0 ≤ x2 ∧ x2 ≤ 3) : CK 4 230 [.ref 284, iv x1, iv x2] m (fun m2 v => GX sV m m2 ∧ (v = 0 ∨ v = 1)) := by
  refine br_230 r_x1 r_x2 ?_
  unfold P_230
  have g_m : GX sV m m := ⟨T_m, fun _ _ _ => rfl, fun _ _ => rfl⟩
  try have w1 : wr (43 + x1) = 43 + x1 := wr_id (by omega) (by omega)
  refine ⟨⟨by omega, by omega⟩, ?_⟩
  have t2 := tr_323 T_m (Int.toNat (wr (43 + x1)))
  refine CV.mono (ct_226   T_m r_x1 (rd_rg _ _ _) (by unfold rg; decide) r_x2 p0 (by omega) (by omega) (by omega) (by omega)) (by decide) ?_
  rintro m13 ⟨hx_m13, h_m13⟩
  have g_m13 : GX sV m m13 := gx_in g_m hx_m13 in_sV_sV
  refine CK.mono (ct_225   g_m13.1 (by unfold rg; decide) (by unfold rg; decide) (by omega) (laws_V p1 g_m13)) (by decide) ?_
  rintro m19 v19 r_v19 ⟨hx_m19, h_m19⟩
  have g_m19 : GX sV m m19 := gx_in g_m13 hx_m19 in_sV_sV
  refine ⟨fun s0_30 => (s0_30 = 0 ∨ s0_30 = 1), ?_, ?_⟩
  · skip
    refine ⟨fun hq => ?_, fun hq => ?_⟩
    · skip
      (first | trivial | omega | (refine ⟨?_, ?_⟩ <;> omega))
    · skip
      (first | trivial | omega | (refine ⟨?_, ?_⟩ <;> omega))
  · intro s0_30 r_s0_30 hR_30
    exact ⟨by omega, ⟨g_m19, by first | trivial | omega | (refine ⟨?_, ?_⟩ <;> omega)⟩⟩
-- TippedCratesModel.doesTake(II)Z
set_option maxRecDepth 20000 in
theorem ct_231 {m : Mm} {x1 : Int} {x2 : Int}  (T_m : Ty m) (r_x1 : rg x1) (r_x2 : rg x2) (p0 : MW m) (p1 : lawsM m) (p2 : 0 ≤ x1 ∧ x1 ≤ 2) (p3 : 0 ≤ x2 ∧ x2 ≤ 3) : CK 4 231 [.ref 284, iv x1, iv x2] m (fun m2 v => GX sV m m2 ∧ (v = 0 ∨ v = 1)) := by
  refine br_231 r_x1 r_x2 ?_
  unfold P_231
  have g_m : GX sV m m := ⟨T_m, fun _ _ _ => rfl, fun _ _ => rfl⟩
  try have w1 : wr (43 + x1) = 43 + x1 := wr_id (by omega) (by omega)
  refine ⟨⟨by omega, by omega⟩, ?_⟩
  have t2 := tr_323 T_m (Int.toNat (wr (43 + x1)))
  refine CV.mono (ct_226   T_m r_x1 (rd_rg _ _ _) (by unfold rg; decide) r_x2 p0 (by omega) (by omega) (by omega) (by omega)) (by decide) ?_
  rintro m13 ⟨hx_m13, h_m13⟩
  have g_m13 : GX sV m m13 := gx_in g_m hx_m13 in_sV_sV
  refine CK.mono (ct_225   g_m13.1 (by unfold rg; decide) (by unfold rg; decide) (by omega) (laws_V p1 g_m13)) (by decide) ?_
  rintro m19 v19 r_v19 ⟨hx_m19, h_m19⟩
  have g_m19 : GX sV m m19 := gx_in g_m13 hx_m19 in_sV_sV
  refine ⟨fun s0_30 => (s0_30 = 0 ∨ s0_30 = 1), ?_, ?_⟩
  · skip
    refine ⟨fun hq => ?_, fun hq => ?_⟩
    · skip
      (first | trivial | omega | (refine ⟨?_, ?_⟩ <;> omega))
    · skip
      (first | trivial | omega | (refine ⟨?_, ?_⟩ <;> omega))
  · intro s0_30 r_s0_30 hR_30
    exact ⟨by omega, ⟨g_m19, by first | trivial | omega | (refine ⟨?_, ?_⟩ <;> omega)⟩⟩
-- TippedCratesModel.slipsOf(II)I
set_option maxRecDepth 20000 in
theorem ct_232 {m : Mm} {x1 : Int} {x2 : Int}  (T_m : Ty m) (r_x1 : rg x1) (r_x2 : rg x2) (p0 : MW m) (p1 : lawsM m) (p2 : 0 ≤ x1 ∧ x1 ≤ 2) (p3 : 0 ≤ x2 ∧ x2 ≤ 3) : CK 4 232 [.ref 284, iv x1, iv x2] m (fun m2 v => GX sV m m2 ∧ (0 ≤ v ∧ v ≤ 100)) := by
  refine br_232 r_x1 r_x2 ?_
  unfold P_232
  have g_m : GX sV m m := ⟨T_m, fun _ _ _ => rfl, fun _ _ => rfl⟩
  try have w1 : wr (43 + x1) = 43 + x1 := wr_id (by omega) (by omega)
  refine ⟨⟨by omega, by omega⟩, ?_⟩
  have t2 := tr_323 T_m (Int.toNat (wr (43 + x1)))
  refine CV.mono (ct_226   T_m r_x1 (rd_rg _ _ _) (by unfold rg; decide) r_x2 p0 (by omega) (by omega) (by omega) (by omega)) (by decide) ?_
  rintro m13 ⟨hx_m13, h_m13⟩
  have g_m13 : GX sV m m13 := gx_in g_m hx_m13 in_sV_sV
  refine CK.mono (ct_225   g_m13.1 (by unfold rg; decide) (by unfold rg; decide) (by omega) (laws_V p1 g_m13)) (by decide) ?_
  rintro m19 v19 r_v19 ⟨hx_m19, h_m19⟩
  have g_m19 : GX sV m m19 := gx_in g_m13 hx_m19 in_sV_sV
  refine CK.mono (ct_207   r_v19 (by unfold rg; decide) (by unfold rg; decide) (by omega)) (by decide) ?_
  rintro m25 v25 r_v25 ⟨e_m25, h_m25⟩
  replace e_m25 := e_m25.symm
  subst e_m25
  exact ⟨g_m19, by first | trivial | omega | (refine ⟨?_, ?_⟩ <;> omega)⟩
-- TippedCratesModel.fromBy(II)I
set_option maxRecDepth 20000 in
theorem ct_202 {m : Mm} {x0 : Int} {x1 : Int}   (r_x0 : rg x0) (r_x1 : rg x1) (p0 : 0 ≤ x1 ∧ x1 ≤ 5) : CK 1 202 [iv x0, iv x1] m (fun m2 v => m2 = m ∧ (0 ≤ v ∧ v ≤ 5)) := by
  refine br_202 r_x0 r_x1 ?_
  unfold P_202
  refine ⟨fun hq => ?_, fun hq => ?_, fun hq => ?_, fun hq => ?_⟩
  · skip
    refine ⟨fun s0_64 => 0 ≤ s0_64 ∧ s0_64 ≤ 5, ?_, ?_⟩
    · skip
      refine ⟨fun hq => ?_, fun hq => ?_⟩
      · skip
        refine ⟨fun hq => ?_, fun hq => ?_⟩
        · skip
          refine ⟨fun hq => ?_, fun hq => ?_⟩
          · skip
            refine ⟨fun hq => ?_, fun hq => ?_⟩
            · skip
              (first | trivial | omega | (refine ⟨?_, ?_⟩ <;> omega))
            · skip
              (first | trivial | omega | (refine ⟨?_, ?_⟩ <;> omega))
          · skip
            (first | trivial | omega | (refine ⟨?_, ?_⟩ <;> omega))
        · skip
          (first | trivial | omega | (refine ⟨?_, ?_⟩ <;> omega))
      · skip
        (first | trivial | omega | (refine ⟨?_, ?_⟩ <;> omega))
    · intro s0_64 r_s0_64 hR_64
      exact ⟨rfl, by first | trivial | omega | (refine ⟨?_, ?_⟩ <;> omega)⟩
  · skip
    refine ⟨fun s0_101 => 0 ≤ s0_101 ∧ s0_101 ≤ 5, ?_, ?_⟩
    · skip
      refine ⟨fun hq => ?_, fun hq => ?_⟩
      · skip
        refine ⟨fun hq => ?_, fun hq => ?_⟩
        · skip
          refine ⟨fun hq => ?_, fun hq => ?_⟩
          · skip
            refine ⟨fun hq => ?_, fun hq => ?_⟩
            · skip
              (first | trivial | omega | (refine ⟨?_, ?_⟩ <;> omega))
            · skip
              (first | trivial | omega | (refine ⟨?_, ?_⟩ <;> omega))
          · skip
            (first | trivial | omega | (refine ⟨?_, ?_⟩ <;> omega))
        · skip
          (first | trivial | omega | (refine ⟨?_, ?_⟩ <;> omega))
      · skip
        (first | trivial | omega | (refine ⟨?_, ?_⟩ <;> omega))
    · intro s0_101 r_s0_101 hR_101
      exact ⟨rfl, by first | trivial | omega | (refine ⟨?_, ?_⟩ <;> omega)⟩
  · skip
    refine ⟨fun s0_138 => 0 ≤ s0_138 ∧ s0_138 ≤ 5, ?_, ?_⟩
    · skip
      refine ⟨fun hq => ?_, fun hq => ?_⟩
      · skip
        refine ⟨fun hq => ?_, fun hq => ?_⟩
        · skip
          refine ⟨fun hq => ?_, fun hq => ?_⟩
          · skip
            refine ⟨fun hq => ?_, fun hq => ?_⟩
            · skip
              (first | trivial | omega | (refine ⟨?_, ?_⟩ <;> omega))
            · skip
              (first | trivial | omega | (refine ⟨?_, ?_⟩ <;> omega))
          · skip
            (first | trivial | omega | (refine ⟨?_, ?_⟩ <;> omega))
        · skip
          (first | trivial | omega | (refine ⟨?_, ?_⟩ <;> omega))
      · skip
        (first | trivial | omega | (refine ⟨?_, ?_⟩ <;> omega))
    · intro s0_138 r_s0_138 hR_138
      exact ⟨rfl, by first | trivial | omega | (refine ⟨?_, ?_⟩ <;> omega)⟩
  · skip
    refine ⟨fun s0_175 => 0 ≤ s0_175 ∧ s0_175 ≤ 5, ?_, ?_⟩
    · skip
      refine ⟨fun hq => ?_, fun hq => ?_⟩
      · skip
        refine ⟨fun hq => ?_, fun hq => ?_⟩
        · skip
          refine ⟨fun hq => ?_, fun hq => ?_⟩
          · skip
            refine ⟨fun hq => ?_, fun hq => ?_⟩
            · skip
              (first | trivial | omega | (refine ⟨?_, ?_⟩ <;> omega))
            · skip
              (first | trivial | omega | (refine ⟨?_, ?_⟩ <;> omega))
          · skip
            (first | trivial | omega | (refine ⟨?_, ?_⟩ <;> omega))
        · skip
          (first | trivial | omega | (refine ⟨?_, ?_⟩ <;> omega))
      · skip
        (first | trivial | omega | (refine ⟨?_, ?_⟩ <;> omega))
    · intro s0_175 r_s0_175 hR_175
      exact ⟨rfl, by first | trivial | omega | (refine ⟨?_, ?_⟩ <;> omega)⟩
-- TippedCratesModel.tips(II)V
set_option maxRecDepth 20000 in
theorem ct_233 {m : Mm} {x1 : Int} {x2 : Int}  (T_m : Ty m) (r_x1 : rg x1) (r_x2 : rg x2) (p0 : MW m) (p1 : lawsM m) (p2 : 0 ≤ x1 ∧ x1 ≤ 2) (p3 : 0 ≤ x2 ∧ x2 ≤ 3) (p4 : 0 ≤ fbyI (rd m 293 (Int.toNat (rd m 284 18))) (rd m 294 (Int.toNat (rd m 284 18))) (rd m 323 (Int.toNat (43 + x1))) x2) : CV 6 233 [.ref 284, iv x1, iv x2] m (fun m2 => GX sR m m2 ∧ (True)) := by
  refine br_233 r_x1 r_x2 ?_
  unfold P_233
  have g_m : GX sR m m := ⟨T_m, fun _ _ _ => rfl, fun _ _ => rfl⟩
  refine CK.mono (ct_229   T_m r_x1 r_x2 p0 p1 (by omega) (by omega)) (by decide) ?_
  rintro m3 v3 r_v3 ⟨hx_m3, h_m3⟩
  have g_m3 : GX sR m m3 := gx_in g_m hx_m3 in_sV_sR
  have k3 : rd m3 323 (Int.toNat (43 + x1)) = rd m 323 (Int.toNat (43 + x1)) := hx_m3.2.1 323 _ rfl
  refine CK.mono (ct_230   g_m3.1 r_x1 r_x2 (MW_R p0 g_m3) (laws_R p1 g_m3) (by omega) (by omega)) (by decide) ?_
  rintro m10 v10 r_v10 ⟨hx_m10, h_m10⟩
  have g_m10 : GX sR m m10 := gx_in g_m3 hx_m10 in_sV_sR
  have k10 : rd m10 323 (Int.toNat (43 + x1)) = rd m 323 (Int.toNat (43 + x1)) := (hx_m10.2.1 323 _ rfl).trans k3
  refine CK.mono (ct_231   g_m10.1 r_x1 r_x2 (MW_R p0 g_m10) (laws_R p1 g_m10) (by omega) (by omega)) (by decide) ?_
  rintro m18 v18 r_v18 ⟨hx_m18, h_m18⟩
  have g_m18 : GX sR m m18 := gx_in g_m10 hx_m18 in_sV_sR
  have k18 : rd m18 323 (Int.toNat (43 + x1)) = rd m 323 (Int.toNat (43 + x1)) := (hx_m18.2.1 323 _ rfl).trans k10
  refine ⟨fun x6_26 m_26 => GX sR m m_26 ∧ ((0 ≤ x6_26 ∧ x6_26 ≤ 6) ∧ rd m_26 323 (Int.toNat (43 + x1)) = rd m 323 (Int.toNat (43 + x1))), fun x6_26 m_26 => Int.toNat (6 - x6_26), ?_, ?_⟩
  · exact ⟨g_m18, by exact ⟨by omega, k18⟩⟩
  · intro x6_26 m_26 r_x6_26 hI_26
    obtain ⟨g_m_26, hI_26⟩ := hI_26
    refine ⟨fun hq => ?_, fun hq => ?_⟩
    · skip
      refine ⟨fun x6_68 m_68 => GX sR m m_68 ∧ ((0 ≤ x6_68 ∧ x6_68 ≤ 6) ∧ rd m_68 323 (Int.toNat (43 + x1)) = rd m 323 (Int.toNat (43 + x1))), fun x6_68 m_68 => Int.toNat (6 - x6_68), ?_, ?_⟩
      · exact ⟨g_m_26, by exact ⟨by omega, hI_26.2⟩⟩
      · intro x6_68 m_68 r_x6_68 hI_68
        obtain ⟨g_m_68, hI_68⟩ := hI_68
        refine ⟨fun hq => ?_, fun hq => ?_⟩
        · skip
          try have w1 : wr (43 + x1) = 43 + x1 := wr_id (by omega) (by omega)
          refine ⟨⟨by omega, by omega⟩, ?_⟩
          have t2 := tr_323 g_m_68.1 (Int.toNat (wr (43 + x1)))
          refine CK.mono (ct_221   g_m_68.1 (rd_rg _ _ _) r_x2 (MW_R p0 g_m_68) (by omega) (by omega)) (by decide) ?_
          rintro m114 v114 r_v114 ⟨e_m114, h_m114⟩
          replace e_m114 := e_m114.symm
          subst e_m114
          rw [show rd m_68 323 (Int.toNat (wr (43 + x1))) = rd m 323 (Int.toNat (43 + x1)) from (congrArg (rd m_68 323) (by omega)).trans hI_68.2, g_m_68.2.1 284 18 rfl, g_m_68.2.1 293 _ rfl, g_m_68.2.1 294 _ rfl] at h_m114
          refine ⟨⟨by omega, by omega⟩, ?_⟩
          intro m129 e_m129
          have g_m129 : GX sR m m129 := by rw [e_m129]; exact GX.wt g_m_68 (tz_323 g_m_68.1 (by first | assumption | omega) (by omega) (by omega)) (Eq.refl true)
          try have w3 : wr (46 + x1) = 46 + x1 := wr_id (by omega) (by omega)
          refine ⟨⟨by omega, by omega⟩, ?_⟩
          refine ⟨⟨by omega, by omega⟩, ?_⟩
          have t4 := tr_323 g_m129.1 (Int.toNat (wr (46 + x1)))
          try have w5 : wr ((rd m129 323 (Int.toNat (wr (46 + x1)))) + 1) = (rd m129 323 (Int.toNat (wr (46 + x1)))) + 1 := wr_id (by omega) (by omega)
          intro m142 e_m142
          have g_m142 : GX sR m m142 := by rw [e_m142]; exact GX.wt g_m129 (tz_323 g_m129.1 (wr_rg _) (by omega) (by omega)) (Eq.refl true)
          have t6 := tr_323 g_m142.1 50
          try have w7 : wr ((rd m142 323 50) + v3) = (rd m142 323 50) + v3 := wr_id (by omega) (by omega)
          intro m153 e_m153
          have g_m153 : GX sR m m153 := by rw [e_m153]; exact GX.wt g_m142 (tz_323 g_m142.1 (wr_rg _) (by omega) (by omega)) (Eq.refl true)
          refine ⟨fun m_205 => GX sR m m_205 ∧ (True), ?_, ?_⟩
          · skip
            refine ⟨fun hq => ?_, fun hq => ?_⟩
            · skip
              refine ⟨fun hq => ?_, fun hq => ?_⟩
              · skip
                exact ⟨g_m153, by first | trivial | omega | (refine ⟨?_, ?_⟩ <;> omega)⟩
              · skip
                refine ⟨⟨by omega, by omega⟩, ?_⟩
                try have w8 : wr (6 * x1) = 6 * x1 := wr_id (by omega) (by omega)
                try have w9 : wr (26 + (wr (6 * x1))) = 26 + (wr (6 * x1)) := wr_id (by omega) (by omega)
                refine ⟨⟨by omega, by omega⟩, ?_⟩
                have t10 := tr_323 g_m153.1 (Int.toNat v114)
                intro m204 e_m204
                have g_m204 : GX sR m m204 := by rw [e_m204]; exact GX.wt g_m153 (tz_323 g_m153.1 (rd_rg _ _ _) (by omega) (by omega)) (Eq.refl true)
                exact ⟨g_m204, by first | trivial | omega | (refine ⟨?_, ?_⟩ <;> omega)⟩
            · skip
              try have w11 : wr (6 * x1) = 6 * x1 := wr_id (by omega) (by omega)
              try have w12 : wr (26 + (wr (6 * x1))) = 26 + (wr (6 * x1)) := wr_id (by omega) (by omega)
              refine ⟨⟨by omega, by omega⟩, ?_⟩
              refine ⟨⟨by omega, by omega⟩, ?_⟩
              have t13 := tr_323 g_m153.1 (Int.toNat (wr (26 + (wr (6 * x1)))))
              intro m177 e_m177
              have g_m177 : GX sR m m177 := by rw [e_m177]; exact GX.wt g_m153 (tz_323 g_m153.1 (rd_rg _ _ _) (fun _ => (tr_323 g_m153.1 _).1 (by rw [Nat.mod_eq_of_lt (by omega)]; omega)) (fun h1 h2 => by omega)) (Eq.refl true)
              exact ⟨g_m177, by first | trivial | omega | (refine ⟨?_, ?_⟩ <;> omega)⟩
          · intro m_205  hR_205
            obtain ⟨g_m_205, hR_205⟩ := hR_205
            exact ⟨g_m_205, by first | trivial | omega | (refine ⟨?_, ?_⟩ <;> omega)⟩
        · skip
          refine ⟨⟨by omega, by omega⟩, ?_⟩
          try have w14 : wr (6 * x1) = 6 * x1 := wr_id (by omega) (by omega)
          try have w15 : wr (25 + (wr (6 * x1))) = 25 + (wr (6 * x1)) := wr_id (by omega) (by omega)
          try have w16 : wr ((wr (25 + (wr (6 * x1)))) + x6_68) = (wr (25 + (wr (6 * x1)))) + x6_68 := wr_id (by omega) (by omega)
          refine ⟨⟨by omega, by omega⟩, ?_⟩
          have t17 := ty_321 g_m_68.1 (Int.toNat x6_68)
          intro m96 e_m96
          have g_m96 : GX sR m m96 := by rw [e_m96]; exact GX.wt g_m_68 (tz_323 g_m_68.1 (rd_rg _ _ _) (by omega) (by omega)) (Eq.refl true)
          have k96 : rd m96 323 (Int.toNat (43 + x1)) = rd m 323 (Int.toNat (43 + x1)) := by rw [e_m96, rd_wt, if_neg (by omega)]; exact hI_68.2
          try have w18 : wr (x6_68 + 1) = x6_68 + 1 := wr_id (by omega) (by omega)
          intro z6_97 e_z6_97
          have r_z6_97 : rg z6_97 := by rw [e_z6_97]; exact wr_rg _
          exact ⟨⟨g_m96, by exact ⟨by omega, k96⟩⟩, by (try dsimp only); omega⟩
    · skip
      refine CK.mono (ct_202   r_x2 r_x6_26 (by omega)) (by decide) ?_
      rintro m53 v53 r_v53 ⟨e_m53, h_m53⟩
      replace e_m53 := e_m53.symm
      subst e_m53
      try have w19 : wr (6 * x1) = 6 * x1 := wr_id (by omega) (by omega)
      try have w20 : wr (25 + (wr (6 * x1))) = 25 + (wr (6 * x1)) := wr_id (by omega) (by omega)
      try have w21 : wr ((wr (25 + (wr (6 * x1)))) + v53) = (wr (25 + (wr (6 * x1)))) + v53 := wr_id (by omega) (by omega)
      refine ⟨⟨by omega, by omega⟩, ?_⟩
      refine ⟨⟨by omega, by omega⟩, ?_⟩
      have t22 := tr_323 g_m_26.1 (Int.toNat (wr ((wr (25 + (wr (6 * x1)))) + v53)))
      intro m58 e_m58
      have g_m58 : GX sR m m58 := by rw [e_m58]; exact GX.wt g_m_26 (tw_321 g_m_26.1 ⟨by omega, by omega⟩) (Eq.refl true)
      have k58 : rd m58 323 (Int.toNat (43 + x1)) = rd m 323 (Int.toNat (43 + x1)) := by rw [e_m58, rd_wt, if_neg (by omega)]; exact hI_26.2
      try have w23 : wr (x6_26 + 1) = x6_26 + 1 := wr_id (by omega) (by omega)
      intro z6_59 e_z6_59
      have r_z6_59 : rg z6_59 := by rw [e_z6_59]; exact wr_rg _
      exact ⟨⟨g_m58, by exact ⟨by omega, k58⟩⟩, by (try dsimp only); omega⟩
-- TippedCratesModel.minuteGoes()V
set_option maxRecDepth 20000 in
theorem ct_234 {m : Mm}   (T_m : Ty m)  (p0 : MW m) (p1 : lawsM m) : CV 7 234 [.ref 284] m (fun m2 => GX sR m m2 ∧ (True)) := by
  refine br_234  ?_
  unfold P_234
  have g_m : GX sR m m := ⟨T_m, fun _ _ _ => rfl, fun _ _ => rfl⟩
  have tc := ty_302 T_m (Int.toNat (rd m 284 18))
  refine ⟨fun x1_2 m_2 => GX sR m m_2 ∧ (0 ≤ x1_2 ∧ x1_2 ≤ 3), fun x1_2 m_2 => Int.toNat (3 - x1_2), ?_, ?_⟩
  · exact ⟨g_m, by first | omega | (refine ⟨?_, ?_⟩ <;> omega) | trivial⟩
  · intro x1_2 m_2 r_x1_2 hI_2
    obtain ⟨g_m_2, hI_2⟩ := hI_2
    have t1 := ty_284_18 g_m_2.1
    refine ⟨⟨by omega, by omega⟩, ?_⟩
    have t2 := ty_302 g_m_2.1 (Int.toNat (rd m_2 284 18))
    refine ⟨fun hq => ?_, fun hq => ?_⟩
    · skip
      have t3 := tr_323 g_m_2.1 49
      try have w4 : wr ((rd m_2 323 49) + 1) = (rd m_2 323 49) + 1 := wr_id (by omega) (by omega)
      intro m120 e_m120
      have g_m120 : GX sR m m120 := by rw [e_m120]; exact GX.wt g_m_2 (tz_323 g_m_2.1 (wr_rg _) (by omega) (by omega)) (Eq.refl true)
      exact ⟨g_m120, by first | trivial | omega | (refine ⟨?_, ?_⟩ <;> omega)⟩
    · skip
      have t5 := tr_323 g_m_2.1 49
      try have w6 : wr (8 * (rd m_2 323 49)) = 8 * (rd m_2 323 49) := wr_id (by omega) (by omega)
      try have w7 : wr ((wr (8 * (rd m_2 323 49))) + x1_2) = (wr (8 * (rd m_2 323 49))) + x1_2 := wr_id (by omega) (by omega)
      refine CK.mono (ct_218   g_m_2.1 (wr_rg _) (by unfold rg; decide) (by omega)) (by decide) ?_
      rintro m29 v29 r_v29 ⟨e_m29, h_m29⟩
      replace e_m29 := e_m29.symm
      subst e_m29
      obtain ⟨-, hb29⟩ := h_m29
      refine CK.mono (ct_224   g_m_2.1 r_x1_2 r_v29 (MW_R p0 g_m_2) (by omega) (by omega)) (by decide) ?_
      rintro m36 v36 r_v36 ⟨e_m36, h_m36⟩
      replace e_m36 := e_m36.symm
      subst e_m36
      refine ⟨fun m_48 => GX sR m m_48 ∧ (True), ?_, ?_⟩
      · skip
        refine ⟨fun hq => ?_, fun hq => ?_⟩
        · skip
          exact ⟨g_m_2, by first | trivial | omega | (refine ⟨?_, ?_⟩ <;> omega)⟩
        · skip
          refine CV.mono (ct_233   g_m_2.1 r_x1_2 r_v29 (MW_R p0 g_m_2) (laws_R p1 g_m_2) (by omega) (by omega) (h_m36.2 (by omega))) (by decide) ?_
          rintro m45 ⟨hx_m45, h_m45⟩
          have g_m45 : GX sR m m45 := gx_in g_m_2 hx_m45 (fun _ _ h => h)
          exact ⟨g_m45, by first | trivial | omega | (refine ⟨?_, ?_⟩ <;> omega)⟩
      · intro m_48  hR_48
        obtain ⟨g_m_48, hR_48⟩ := hR_48
        have t8 := tr_323 g_m_48.1 49
        try have w9 : wr (8 * (rd m_48 323 49)) = 8 * (rd m_48 323 49) := wr_id (by omega) (by omega)
        try have w10 : wr (100000 + (wr (8 * (rd m_48 323 49)))) = 100000 + (wr (8 * (rd m_48 323 49))) := wr_id (by omega) (by omega)
        try have w11 : wr ((wr (100000 + (wr (8 * (rd m_48 323 49))))) + x1_2) = (wr (100000 + (wr (8 * (rd m_48 323 49))))) + x1_2 := wr_id (by omega) (by omega)
        refine CK.mono (ct_218   g_m_48.1 (wr_rg _) (by unfold rg; decide) (by omega)) (by decide) ?_
        rintro m67 v67 r_v67 ⟨e_m67, h_m67⟩
        replace e_m67 := e_m67.symm
        subst e_m67
        obtain ⟨-, hb67⟩ := h_m67
        refine CK.mono (ct_232   g_m_48.1 r_x1_2 r_v29 (MW_R p0 g_m_48) (laws_R p1 g_m_48) (by omega) (by omega)) (by decide) ?_
        rintro m73 v73 r_v73 ⟨hx_m73, h_m73⟩
        have g_m73 : GX sR m m73 := gx_in g_m_48 hx_m73 in_sV_sR
        refine ⟨fun s0_84 => (s0_84 = 0 ∨ s0_84 = 1), ?_, ?_⟩
        · skip
          refine ⟨fun hq => ?_, fun hq => ?_⟩
          · skip
            (first | trivial | omega | (refine ⟨?_, ?_⟩ <;> omega))
          · skip
            (first | trivial | omega | (refine ⟨?_, ?_⟩ <;> omega))
        · intro s0_84 r_s0_84 hR_84
          refine ⟨fun m_104 => GX sR m m_104 ∧ (True), ?_, ?_⟩
          · skip
            refine ⟨fun hq => ?_, fun hq => ?_⟩
            · skip
              exact ⟨g_m73, by first | trivial | omega | (refine ⟨?_, ?_⟩ <;> omega)⟩
            · skip
              refine CK.mono (ct_224   g_m73.1 r_x1_2 r_v29 (MW_R p0 g_m73) (by omega) (by omega)) (by decide) ?_
              rintro m92 v92 r_v92 ⟨e_m92, h_m92⟩
              replace e_m92 := e_m92.symm
              subst e_m92
              refine ⟨fun hq => ?_, fun hq => ?_⟩
              · skip
                exact ⟨g_m73, by first | trivial | omega | (refine ⟨?_, ?_⟩ <;> omega)⟩
              · skip
                refine CV.mono (ct_233   g_m73.1 r_x1_2 r_v29 (MW_R p0 g_m73) (laws_R p1 g_m73) (by omega) (by omega) (h_m92.2 (by omega))) (by decide) ?_
                rintro m101 ⟨hx_m101, h_m101⟩
                have g_m101 : GX sR m m101 := gx_in g_m73 hx_m101 (fun _ _ h => h)
                exact ⟨g_m101, by first | trivial | omega | (refine ⟨?_, ?_⟩ <;> omega)⟩
          · intro m_104  hR_104
            obtain ⟨g_m_104, hR_104⟩ := hR_104
            try have w12 : wr (x1_2 + 1) = x1_2 + 1 := wr_id (by omega) (by omega)
            intro z1_104 e_z1_104
            have r_z1_104 : rg z1_104 := by rw [e_z1_104]; exact wr_rg _
            exact ⟨⟨g_m_104, by first | omega | (refine ⟨?_, ?_⟩ <;> omega) | trivial⟩, by (try dsimp only); omega⟩
-- TippedCratesModel.goes(I)V
set_option maxRecDepth 20000 in
theorem ct_235 {m : Mm} {x1 : Int}  (T_m : Ty m) (r_x1 : rg x1) (p0 : MW m) (p1 : lawsM m) (p2 : x1 ≤ 60) : CV 8 235 [.ref 284, iv x1] m (fun m2 => GX sR m m2 ∧ (True)) := by
  refine br_235 r_x1 ?_
  unfold P_235
  have g_m : GX sR m m := ⟨T_m, fun _ _ _ => rfl, fun _ _ => rfl⟩
  refine ⟨fun x2_2 m_2 => GX sR m m_2 ∧ (0 ≤ x2_2 ∧ x2_2 ≤ 61), fun x2_2 m_2 => Int.toNat (61 - x2_2), ?_, ?_⟩
  · exact ⟨g_m, by first | omega | (refine ⟨?_, ?_⟩ <;> omega) | trivial⟩
  · intro x2_2 m_2 r_x2_2 hI_2
    obtain ⟨g_m_2, hI_2⟩ := hI_2
    refine ⟨fun hq => ?_, fun hq => ?_⟩
    · skip
      exact ⟨g_m_2, by first | trivial | omega | (refine ⟨?_, ?_⟩ <;> omega)⟩
    · skip
      refine CV.mono (ct_234   g_m_2.1 (MW_R p0 g_m_2) (laws_R p1 g_m_2)) (by decide) ?_
      rintro m8 ⟨hx_m8, h_m8⟩
      have g_m8 : GX sR m m8 := gx_in g_m_2 hx_m8 (fun _ _ h => h)
      try have w1 : wr (x2_2 + 1) = x2_2 + 1 := wr_id (by omega) (by omega)
      intro z2_11 e_z2_11
      have r_z2_11 : rg z2_11 := by rw [e_z2_11]; exact wr_rg _
      exact ⟨⟨g_m8, by first | omega | (refine ⟨?_, ?_⟩ <;> omega) | trivial⟩, by (try dsimp only); omega⟩
