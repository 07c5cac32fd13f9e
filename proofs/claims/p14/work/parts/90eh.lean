/-- what is on a flag: the first crate, or -2 -/
def crP (A : Ab) (x v : Int) : Prop := (0 ≤ v ∧ v < A.Y 3 ∧ fC A.r v = x ∧ ∀ c : Int, 0 ≤ c → c < v → ¬ fC A.r c = x) ∨ (v = -2 ∧ ∀ c : Int, 0 ≤ c → c < A.Y 3 → ¬ fC A.r c = x)
def flgP (A : Ab) (x1 x2 v : Int) : Prop := (¬ (0 ≤ x1 ∧ x1 < A.Y 0 * A.Y 1) ∧ v = -1) ∨ ((0 ≤ x1 ∧ x1 < A.Y 0 * A.Y 1) ∧ ((x2 = 0 ∧ v = A.r (Int.toNat x1)) ∨ (x2 = 1 ∧ ((v = 1 ∧ anI (srI (A.Y 2) x1) 1 = 1) ∨ (v = 0 ∧ ¬ anI (srI (A.Y 2) x1) 1 = 1))) ∨ (x2 = 2 ∧ crP A x1 v) ∨ ((x2 < 0 ∨ 2 < x2) ∧ v = -1)))
theorem crP_u {A : Ab} {x v w : Int} (h : crP A x v) (k : crP A x w) : v = w := by
  rcases h with ⟨a, b, c, d⟩ | ⟨a, b⟩ <;> rcases k with ⟨e, f, g, i⟩ | ⟨e, f⟩
  · rcases Int.lt_trichotomy v w with q | q | q
    · exact absurd c (i v a q)
    · exact q
    · exact absurd g (d w e q)
  · exact absurd c (f v a b)
  · exact absurd g (b w e f)
  · omega
theorem flgP_u {A : Ab} {x1 x2 v w : Int} (h : flgP A x1 x2 v) (k : flgP A x1 x2 w) : v = w := by
  rcases h with ⟨a, b⟩ | ⟨a, h⟩ <;> rcases k with ⟨c, d⟩ | ⟨c, k⟩
  · omega
  · exact absurd c a
  · exact absurd a c
  · rcases h with ⟨p, h⟩ | ⟨p, h⟩ | ⟨p, h⟩ | ⟨p, h⟩ <;> rcases k with ⟨q, k⟩ | ⟨q, k⟩ | ⟨q, k⟩ | ⟨q, k⟩ <;> first | (exfalso; omega) | omega | exact crP_u h k
abbrev pFl (m : Mm) (v x1 : Int) : Prop := (v = 1 ∧ 0 ≤ x1 ∧ x1 ≤ rd m 7 0 * rd m 7 1 - 1) ∨ (v = 0 ∧ (x1 < 0 ∨ rd m 7 0 * rd m 7 1 - 1 < x1))
theorem fl_Cx {m : Mm} {A : Ab} {x1 v : Int} (h : cA m A) (p : pFl m v x1) (z : ¬ v = 0) : 0 ≤ x1 ∧ x1 < A.Y 0 * A.Y 1 := by
  unfold pFl at p
  rw [h.1.1.1, h.1.1.2.1] at p
  omega
theorem fl_Cf {m : Mm} {A : Ab} {x1 x2 v : Int} (h : cA m A) (p : pFl m v x1) (z : v = 0) : flgP A x1 x2 (-1) := by
  unfold pFl at p
  rw [h.1.1.1, h.1.1.2.1] at p
  exact Or.inl ⟨by omega, rfl⟩
theorem fl_Cn {m : Mm} {A : Ab} {x1 x2 v : Int} (h : cA m A) (p : pFl m v x1) (z : ¬ v = 0) (k : x2 < 0 ∨ 2 < x2) : flgP A x1 x2 (-1) := Or.inr ⟨fl_Cx h p z, Or.inr (Or.inr (Or.inr ⟨k, rfl⟩))⟩
theorem fl_C0 {m : Mm} {A : Ab} {x1 x2 v : Int} (h : cA m A) (p : pFl m v x1) (z : ¬ v = 0) (k : x2 = 0) : flgP A x1 x2 (rd m 275 (Int.toNat x1)) := by
  have b := wh_b h.2.1.1 h.2.1.2.1
  have hx := fl_Cx h p z
  exact Or.inr ⟨hx, Or.inl ⟨k, h.2.2.1.2.2.1 _ (by omega)⟩⟩
theorem fl_C1 {m : Mm} {A : Ab} {x1 x2 v w s : Int} (h : cA m A) (p : pFl m v x1) (z : ¬ v = 0) (k : x2 = 1) (q : (w = 1 ∧ anI (srI (rd m 7 4) x1) 1 = 1) ∨ (w = 0 ∧ ¬ anI (srI (rd m 7 4) x1) 1 = 1)) (e : (s = 1 ∧ ¬ w = 0) ∨ (s = 0 ∧ w = 0)) : flgP A x1 x2 s := by
  rw [h.1.1.2.2.1] at q
  exact Or.inr ⟨fl_Cx h p z, Or.inr (Or.inl ⟨k, by omega⟩)⟩
theorem fl_C2 {m : Mm} {A : Ab} {x1 x2 v w s : Int} (h : cA m A) (p : pFl m v x1) (z : ¬ v = 0) (k : x2 = 2) (q : (0 ≤ w ∧ w < rd m 274 4 ∧ rd m 276 (Int.toNat w) = x1 ∧ (∀ c : Nat, (c : Int) < w → ¬ rd m 276 c = x1)) ∨ (w = -1 ∧ (∀ c : Nat, (c : Int) < rd m 274 4 → ¬ rd m 276 c = x1))) (e : (s = w ∧ ¬ w = -1) ∨ (s = -2 ∧ w = -1)) : flgP A x1 x2 s := by
  have F := h.2.2.1.2.2.2.1
  rw [h.2.2.1.2.1] at q
  refine Or.inr ⟨fl_Cx h p z, Or.inr (Or.inr (Or.inl ⟨k, ?_⟩))⟩
  rcases q with ⟨a, b, c, d⟩ | ⟨a, b⟩
  · have es : s = w := by omega
    rw [es]
    exact Or.inl ⟨a, b, (F w a b).symm.trans c, fun o h0 h1 y => d (Int.toNat o) (by omega) ((F o h0 (by omega)).trans y)⟩
  · exact Or.inr ⟨by omega, fun o h0 h1 y => b (Int.toNat o) (by omega) ((F o h0 h1).trans y)⟩
-- TippedCrates.flag(II)I
set_option maxRecDepth 20000 in
theorem ey_126 {m : Mm} {x1 : Int} {x2 : Int}  (T_m : Ty m) (r_x1 : rg x1) (r_x2 : rg x2)  : CK 3 126 [.ref 0, iv x1, iv x2] m (fun m2 v => m2 = m ∧ ((True) ∧ (∀ A, cA m A → flgP A x1 x2 v))) := by
  refine br_126 r_x1 r_x2 ?_
  unfold P_126
  have wb := wh_b (ty_7_0 T_m) (ty_7_1 T_m)
  refine CK.mono (ct_163   T_m r_x1) (by decide) ?_
  rintro m2 v2 r_v2 ⟨e_m2, h_m2⟩
  replace e_m2 := e_m2.symm
  subst e_m2
  refine ⟨fun hq => ?_, fun hq => ?_⟩
  · skip
    refine ⟨fun hq => ?_, fun hq => ?_, fun hq => ?_, fun hq => ?_⟩
    · skip
      refine ⟨⟨by omega, by omega⟩, ?_⟩
      have t1 := ty_sM T_m st_274 (Int.toNat x1)
      exact ⟨rfl, by exact ⟨by first | trivial | omega | (refine ⟨?_, ?_⟩ <;> omega), by first | (have u := hR_62; exact fun A h => fl_C1 h h_m2 (by omega) (by omega) h_m51 hR_62) | (have u := hR_83; exact fun A h => fl_C2 h h_m2 (by omega) (by omega) h_m68 hR_83) | exact fun A h => fl_C0 h h_m2 (by omega) (by omega) | exact fun A h => fl_Cn h h_m2 (by omega) (by omega) | exact fun A h => fl_Cf h h_m2 (by omega)⟩⟩
    · skip
      refine CK.mono (ct_31   r_x1) (by decide) ?_
      rintro m51 v51 r_v51 ⟨e_m51, h_m51⟩
      replace e_m51 := e_m51.symm
      subst e_m51
      refine ⟨fun s0_62 => (s0_62 = 1 ∧ ¬ v51 = 0) ∨ (s0_62 = 0 ∧ v51 = 0), ?_, ?_⟩
      · skip
        refine ⟨fun hq => ?_, fun hq => ?_⟩
        · skip
          (first | exact Or.inl ⟨rfl, by omega⟩ | exact Or.inr ⟨rfl, by omega⟩)
        · skip
          (first | exact Or.inl ⟨rfl, by omega⟩ | exact Or.inr ⟨rfl, by omega⟩)
      · intro s0_62 r_s0_62 hR_62
        exact ⟨rfl, by exact ⟨by first | trivial | omega | (refine ⟨?_, ?_⟩ <;> omega), by first | (have u := hR_62; exact fun A h => fl_C1 h h_m2 (by omega) (by omega) h_m51 hR_62) | (have u := hR_83; exact fun A h => fl_C2 h h_m2 (by omega) (by omega) h_m68 hR_83) | exact fun A h => fl_C0 h h_m2 (by omega) (by omega) | exact fun A h => fl_Cn h h_m2 (by omega) (by omega) | exact fun A h => fl_Cf h h_m2 (by omega)⟩⟩
    · skip
      refine CK.mono (ct_77   T_m st_274 r_x1) (by decide) ?_
      rintro m68 v68 r_v68 ⟨e_m68, h_m68⟩
      replace e_m68 := e_m68.symm
      subst e_m68
      refine ⟨fun s0_83 => (s0_83 = v68 ∧ ¬ v68 = -1) ∨ (s0_83 = -2 ∧ v68 = -1), ?_, ?_⟩
      · skip
        refine ⟨fun hq => ?_, fun hq => ?_⟩
        · skip
          (first | exact Or.inl ⟨rfl, by omega⟩ | exact Or.inr ⟨rfl, by omega⟩)
        · skip
          (first | exact Or.inl ⟨rfl, by omega⟩ | exact Or.inr ⟨rfl, by omega⟩)
      · intro s0_83 r_s0_83 hR_83
        exact ⟨rfl, by exact ⟨by first | trivial | omega | (refine ⟨?_, ?_⟩ <;> omega), by first | (have u := hR_62; exact fun A h => fl_C1 h h_m2 (by omega) (by omega) h_m51 hR_62) | (have u := hR_83; exact fun A h => fl_C2 h h_m2 (by omega) (by omega) h_m68 hR_83) | exact fun A h => fl_C0 h h_m2 (by omega) (by omega) | exact fun A h => fl_Cn h h_m2 (by omega) (by omega) | exact fun A h => fl_Cf h h_m2 (by omega)⟩⟩
    · skip
      exact ⟨rfl, by exact ⟨by first | trivial | omega | (refine ⟨?_, ?_⟩ <;> omega), by first | (have u := hR_62; exact fun A h => fl_C1 h h_m2 (by omega) (by omega) h_m51 hR_62) | (have u := hR_83; exact fun A h => fl_C2 h h_m2 (by omega) (by omega) h_m68 hR_83) | exact fun A h => fl_C0 h h_m2 (by omega) (by omega) | exact fun A h => fl_Cn h h_m2 (by omega) (by omega) | exact fun A h => fl_Cf h h_m2 (by omega)⟩⟩
  · skip
    exact ⟨rfl, by exact ⟨by first | trivial | omega | (refine ⟨?_, ?_⟩ <;> omega), by first | (have u := hR_62; exact fun A h => fl_C1 h h_m2 (by omega) (by omega) h_m51 hR_62) | (have u := hR_83; exact fun A h => fl_C2 h h_m2 (by omega) (by omega) h_m68 hR_83) | exact fun A h => fl_C0 h h_m2 (by omega) (by omega) | exact fun A h => fl_Cn h h_m2 (by omega) (by omega) | exact fun A h => fl_Cf h h_m2 (by omega)⟩⟩
-- TippedCratesModel.crateOn(I)I
set_option maxRecDepth 20000 in
theorem mw_237 {m : Mm} {x1 : Int}  (T_m : Ty m) (r_x1 : rg x1)  : CK 1 237 [.ref 284, iv x1] m (fun m2 v => m2 = m ∧ (((True) ∧ ((v < 0 ∧ ∀ o : Int, 0 ≤ o → o < rd m 302 (Int.toNat (rd m 284 18)) → ¬ rd m 323 (Int.toNat (43 + o)) = x1) ∨ ((0 ≤ v ∧ v < rd m 302 (Int.toNat (rd m 284 18))) ∧ rd m 323 (Int.toNat (43 + v)) = x1))) ∧ ((v < 0 → v = -2) ∧ (0 ≤ v → ∀ o : Int, 0 ≤ o → o < v → ¬ rd m 323 (Int.toNat (43 + o)) = x1)))) := by
  refine br_237 r_x1 ?_
  unfold P_237
  refine ⟨fun x2_2 => (0 ≤ x2_2 ∧ x2_2 ≤ 3) ∧ (∀ o : Int, 0 ≤ o → o < x2_2 → ¬ rd m 323 (Int.toNat (43 + o)) = x1), fun x2_2 => Int.toNat (3 - x2_2), ?_, ?_⟩
  · (exact ⟨by first | omega | (refine ⟨?_, ?_⟩ <;> omega) | trivial, by exact fun o h0 h1 => by omega⟩)
  · intro x2_2 r_x2_2 hI_2
    obtain ⟨hI_2, dI_2⟩ := hI_2
    have t1 := ty_284_18 T_m
    refine ⟨⟨by omega, by omega⟩, ?_⟩
    have t2 := ty_302 T_m (Int.toNat (rd m 284 18))
    refine ⟨fun hq => ?_, fun hq => ?_⟩
    · skip
      exact ⟨rfl, by exact ⟨by exact ⟨by first | trivial | omega | (refine ⟨?_, ?_⟩ <;> omega), by first | exact Or.inl ⟨by omega, fun o h0 h1 => dI_2 o h0 (by omega)⟩ | exact Or.inr ⟨by omega, by rw [← show Int.toNat (wr (43 + x2_2)) = Int.toNat (43 + x2_2) by rw [wr_id (x := 43 + x2_2) (by omega) (by omega)]]; assumption⟩⟩, by first | exact ⟨fun _ => rfl, fun w => by omega⟩ | exact ⟨fun w => by omega, fun _ => dI_2⟩⟩⟩
    · skip
      try have w3 : wr (43 + x2_2) = 43 + x2_2 := wr_id (by omega) (by omega)
      refine ⟨⟨by omega, by omega⟩, ?_⟩
      have t4 := tr_323 T_m (Int.toNat (wr (43 + x2_2)))
      refine ⟨fun hq => ?_, fun hq => ?_⟩
      · skip
        try have w5 : wr (x2_2 + 1) = x2_2 + 1 := wr_id (by omega) (by omega)
        intro z2_30 e_z2_30
        have r_z2_30 : rg z2_30 := by rw [e_z2_30]; exact wr_rg _
        exact ⟨by exact ⟨by first | omega | (refine ⟨?_, ?_⟩ <;> omega) | trivial, by exact fun o h0 h1 => by rcases (show o < x2_2 ∨ o = x2_2 by omega) with q | q; exact dI_2 o h0 q; subst q; rw [← show Int.toNat (wr (43 + o)) = Int.toNat (43 + o) by rw [wr_id (x := 43 + o) (by omega) (by omega)]]; assumption⟩, by (try dsimp only); omega⟩
      · skip
        exact ⟨rfl, by exact ⟨by exact ⟨by first | trivial | omega | (refine ⟨?_, ?_⟩ <;> omega), by first | exact Or.inl ⟨by omega, fun o h0 h1 => dI_2 o h0 (by omega)⟩ | exact Or.inr ⟨by omega, by rw [← show Int.toNat (wr (43 + x2_2)) = Int.toNat (43 + x2_2) by rw [wr_id (x := 43 + x2_2) (by omega) (by omega)]]; assumption⟩⟩, by first | exact ⟨fun _ => rfl, fun w => by omega⟩ | exact ⟨fun w => by omega, fun _ => dI_2⟩⟩⟩
