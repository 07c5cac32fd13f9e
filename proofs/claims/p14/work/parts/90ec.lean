theorem cu_un {m m8 : Mm} {v : Int} {A : Ab} (h : cA m A) (T : Ty m) (g : GX (sPt 274) m m8) (p : (v = 0 ∧ rd m 55 0 = 0 ∧ m8 = m) ∨ (v = 1 ∧ 0 < rd m 55 0 ∧ rd m8 55 0 = rd m 55 0 - 1 ∧ rd m8 55 4 = (if 0 < rd m 55 4 then rd m 55 4 - 1 else 39) ∧ stEq m8 274 m (59 + 5 * Int.toNat (if 0 < rd m 55 4 then rd m 55 4 - 1 else 39)))) : (v = 0 ∧ A.n = 0 ∧ cA m8 A) ∨ (v = 1 ∧ ¬ A.n = 0 ∧ cA m8 (unB A)) := by
  have n := h.2.2.2.1.1
  rcases p with ⟨a, b, rfl⟩ | ⟨a, b, c⟩
  · exact Or.inl ⟨a, by omega, h⟩
  · exact Or.inr ⟨a, by omega, cA_un h (ty_55_4 T) b c (fun i j q p1 p2 => g.2.1 i j (sPt_no p1 (by omega)))⟩
theorem cu_r0 {m m18 : Mm} {v : Int} {s : Nat} {A : Ab} (h : cA m A) (p : (v = 0 ∧ rd m 58 s = 0 ∧ m18 = m) ∨ (v = 1 ∧ ¬ rd m 58 s = 0 ∧ rd m18 55 0 = 0 ∧ rd m18 55 4 = rd m 55 4 ∧ stEq m18 274 m (259 + 5 * s))) (z : v = 0) : cA m18 A := by
  rcases p with ⟨-, -, rfl⟩ | ⟨a, -⟩
  · exact h
  · omega
theorem cu_r1 {m m18 : Mm} {v x1 : Int} {A : Ab} (h : cA m A) (hx : 0 ≤ x1 ∧ x1 ≤ 2) (g : GX (sPt 274) m m18) (p : (v = 0 ∧ rd m 58 (Int.toNat x1) = 0 ∧ m18 = m) ∨ (v = 1 ∧ ¬ rd m 58 (Int.toNat x1) = 0 ∧ rd m18 55 0 = 0 ∧ rd m18 55 4 = rd m 55 4 ∧ stEq m18 274 m (259 + 5 * Int.toNat x1))) (z : ¬ v = 0) : (1 : Int) = 1 ∧ (0 ≤ x1 ∧ x1 ≤ 2) ∧ ¬ rd m 58 (Int.toNat x1) = 0 ∧ cA m18 (reA A (Int.toNat x1)) := by
  rcases p with ⟨a, -⟩ | ⟨-, b, c, -, e⟩
  · omega
  · exact ⟨rfl, hx, b, cA_re h (by omega) b c e (fun i j q p1 p2 => g.2.1 i j (sPt_no p1 (by omega)))⟩
theorem lsE_P {m m2 : Mm} (h : ∃ E, LSd m 11 E) (g : GX sPn m m2) : ∃ E, LSd m2 11 E := by
  obtain ⟨E, h⟩ := h
  exact ⟨E, ls_fr h (g.2.1 11 4 rfl) (fun j => g.2.1 13 j rfl) (fun j => g.2.1 14 j rfl)⟩
theorem cu_t0 {m : Mm} {A : Ab} {x1 x2 v : Int} (h : cA m A) (hx : 0 ≤ x1 ∧ x1 < A.Y 3) (hk : 0 ≤ x2 ∧ x2 ≤ 3) (p : (v = 1 ∧ canT m 274 x1 x2) ∨ (v = 0 ∧ ¬ canT m 274 x1 x2)) (z : v = 0) (c : canN A.Y A.r x1 x2) : False := by
  have cc := can_C (m := m) (a := 274) (Y := A.Y) (r := A.r) (E := A.E) ⟨h.1, h.2.2.1.2, h.2.1, h.2.2.1.1⟩ (x2 := x1) (by rw [h.2.2.1.2.1]; exact hx) (x3 := x2) hk
  exact or_0 p z (cc.mpr c)
theorem cu_t1 {m m41 m54 : Mm} {A : Ab} {x1 x2 v : Int} (h : cA m A) (hx : 0 ≤ x1 ∧ x1 ≤ rd m 7 3 - 1) (hk : 0 ≤ x2 ∧ x2 ≤ 3) (p : (v = 1 ∧ canT m 274 x1 x2) ∨ (v = 0 ∧ ¬ canT m 274 x1 x2)) (z : ¬ v = 0) (T : Ty m) (_g : GX sPn m m41) (n : stEq m41 (59 + 5 * Int.toNat (rd m 55 4)) m 274 ∧ rd m41 55 4 = (if rd m 55 4 + 1 < 40 then rd m 55 4 + 1 else 0) ∧ rd m41 55 0 = min (rd m 55 0 + 1) 40 ∧ ∀ i j, ¬ i = 55 → ¬ (59 + 5 * Int.toNat (rd m 55 4) ≤ i ∧ i ≤ 63 + 5 * Int.toNat (rd m 55 4)) → rd m41 i j = rd m i j) (g54 : GX (sT 274) m41 m54) (q : ∀ Y E r, plC m41 Y E → stC m41 274 Y r → okY Y → okR Y r → ¬ nxN Y (fC r x1) x2 = -1 → stC m54 274 Y (tiN Y E r x1 x2)) : ((0 ≤ x1 ∧ x1 < A.Y 3) ∧ (0 ≤ x2 ∧ x2 ≤ 3) ∧ canN A.Y A.r x1 x2) ∧ cA m54 (noA A (tiN A.Y A.E A.r x1 x2)) ∧ rd m54 276 (Int.toNat x1) = fC (tiN A.Y A.E A.r x1 x2) x1 := by
  have hx3 : 0 ≤ x1 ∧ x1 < A.Y 3 := by have := h.1.1.2.2.2.1; omega
  have cc := (can_C (m := m) (a := 274) (Y := A.Y) (r := A.r) (E := A.E) ⟨h.1, h.2.2.1.2, h.2.1, h.2.2.1.1⟩ (x2 := x1) (by rw [h.2.2.1.2.1]; exact hx3) (x3 := x2) hk).mp (or_1 p z)
  have h41 := cA_note h (ty_55_4 T) n
  have s54 : stC m54 274 A.Y (tiN A.Y A.E A.r x1 x2) := q A.Y A.E A.r h41.1 h41.2.2.1.2 h.2.1 h.2.2.1.1 cc.1
  have c54 := cA_now h41 (okR_ti h.2.1 h.2.2.1.1 hx3 hk cc.1) s54 (fun i j q w => g54.2.1 i j (sT_no (by unfold cAr at q; omega) (by unfold cAr at q; omega) (by omega)))
  exact ⟨⟨hx3, hk, cc⟩, c54, s54.2.2.1 x1 hx3.1 hx3.2⟩
-- TippedCrates.undo()Z
set_option maxRecDepth 20000 in
theorem ey_132 {m0 m : Mm}   (g_m : CIX m0 m)   : CK 3 132 [.ref 0] m (fun m2 v => CIX m0 m2 ∧ (((rd m2 1 0 = rd m 1 0) ∧ (kp m m2)) ∧ (∀ A, cA m A → (v = 0 ∧ A.n = 0 ∧ cA m2 A) ∨ (v = 1 ∧ ¬ A.n = 0 ∧ cA m2 (unB A))))) := by
  refine br_132  ?_
  unfold P_132
  refine CK.mono (ct_22   g_m.1 st_274) (by decide) ?_
  rintro m8 v8 r_v8 ⟨hx_m8, h_m8⟩
  have g_m8 : CIX m0 m8 := CI_back g_m hx_m8 h_m8
  have s8 : rd m8 1 0 = rd m 1 0 := hx_m8.2.1 1 0 rfl
  exact ⟨by omega, ⟨g_m8, by exact ⟨by exact ⟨by first | trivial | omega | (refine ⟨?_, ?_⟩ <;> omega), by exact (kp_gx hx_m8 (fun j => sPt_no (by omega) (by omega)) (fun j => sPt_no (by omega) (by omega)) (sPt_no (by omega) (by omega)) (sPt_no (by omega) (by omega)) (sPt_no (by omega) (by omega)))⟩, by exact fun A h => cu_un h g_m.1 hx_m8 h_m8⟩⟩⟩
-- TippedCrates.hold(I)Z
set_option maxRecDepth 20000 in
theorem ey_155 {m0 m : Mm} {x1 : Int}  (g_m : CIX m0 m) (r_x1 : rg x1)  : CK 3 155 [.ref 0, iv x1] m (fun m2 v => CIX m0 m2 ∧ (((rd m2 1 0 = rd m 1 0 ∧ ((v = 1 ∧ 0 ≤ x1 ∧ x1 ≤ 2) ∨ (v = 0 ∧ (x1 < 0 ∨ 2 < x1)))) ∧ (kq m m2 ∧ (((0 ≤ x1 ∧ x1 ≤ 2) ∧ rd m2 58 (Int.toNat x1) = 1 ∧ ∀ j : Nat, ¬ j = Int.toNat x1 → rd m2 58 j = rd m 58 j) ∨ ((x1 < 0 ∨ 2 < x1) ∧ ∀ j, rd m2 58 j = rd m 58 j)))) ∧ (∀ A, cA m A → ((0 ≤ x1 ∧ x1 ≤ 2) → cA m2 (hoA A (Int.toNat x1))) ∧ (¬ (0 ≤ x1 ∧ x1 ≤ 2) → cA m2 A)))) := by
  refine br_155 r_x1 ?_
  unfold P_155
  refine CK.mono (ct_166   r_x1 (by unfold rg; decide) (by unfold rg; decide)) (by decide) ?_
  rintro m3 v3 r_v3 ⟨e_m3, h_m3⟩
  replace e_m3 := e_m3.symm
  subst e_m3
  refine ⟨fun hq => ?_, fun hq => ?_⟩
  · skip
    refine CV.mono (ct_23   g_m.1 st_274 r_x1 (by omega)) (by decide) ?_
    rintro m20 ⟨hx_m20, h_m20⟩
    have g_m20 : CIX m0 m20 := CI_keep g_m hx_m20 h_m20 ⟨by omega, by omega⟩
    have s20 : rd m20 1 0 = rd m 1 0 := hx_m20.2.1 1 0 rfl
    exact ⟨g_m20, by exact ⟨by exact ⟨by first | trivial | omega | (refine ⟨?_, ?_⟩ <;> omega), by first | exact ⟨kq_gx hx_m20 (fun j => rfl) rfl rfl rfl, Or.inl ⟨by omega, h_m20.2.1, h_m20.2.2.2⟩⟩ | exact ⟨kq_r _, Or.inr ⟨by omega, fun _ => rfl⟩⟩⟩, by first | (have u := h_m20; exact fun A h => ⟨fun _ => cA_ho h (by omega) h_m20, fun w => by omega⟩) | exact fun A h => ⟨fun w => by omega, fun _ => h⟩⟩⟩
  · skip
    exact ⟨g_m, by exact ⟨by exact ⟨by first | trivial | omega | (refine ⟨?_, ?_⟩ <;> omega), by first | exact ⟨kq_gx hx_m20 (fun j => rfl) rfl rfl rfl, Or.inl ⟨by omega, h_m20.2.1, h_m20.2.2.2⟩⟩ | exact ⟨kq_r _, Or.inr ⟨by omega, fun _ => rfl⟩⟩⟩, by first | (have u := h_m20; exact fun A h => ⟨fun _ => cA_ho h (by omega) h_m20, fun w => by omega⟩) | exact fun A h => ⟨fun w => by omega, fun _ => h⟩⟩⟩
-- TippedCrates.restore(I)Z
set_option maxRecDepth 20000 in
theorem ey_156 {m0 m : Mm} {x1 : Int}  (g_m : CIX m0 m) (r_x1 : rg x1)  : CK 3 156 [.ref 0, iv x1] m (fun m2 v => CIX m0 m2 ∧ (((rd m2 1 0 = rd m 1 0) ∧ (kp m m2 ∧ ((v = 1 ∧ (0 ≤ x1 ∧ x1 ≤ 2) ∧ ¬ rd m 58 (Int.toNat x1) = 0) ∨ (v = 0 ∧ ((x1 < 0 ∨ 2 < x1) ∨ rd m 58 (Int.toNat x1) = 0))))) ∧ (∀ A, cA m A → (v = 0 ∧ cA m2 A) ∨ (v = 1 ∧ (0 ≤ x1 ∧ x1 ≤ 2) ∧ ¬ rd m 58 (Int.toNat x1) = 0 ∧ cA m2 (reA A (Int.toNat x1)))))) := by
  refine br_156 r_x1 ?_
  unfold P_156
  refine CK.mono (ct_166   r_x1 (by unfold rg; decide) (by unfold rg; decide)) (by decide) ?_
  rintro m3 v3 r_v3 ⟨e_m3, h_m3⟩
  replace e_m3 := e_m3.symm
  subst e_m3
  refine ⟨fun s0_29 m_29 => CIX m0 m_29 ∧ ((((s0_29 = 0 ∨ s0_29 = 1) ∧ rd m_29 1 0 = rd m 1 0) ∧ (kp m m_29 ∧ ((s0_29 = 1 ∧ (0 ≤ x1 ∧ x1 ≤ 2) ∧ ¬ rd m 58 (Int.toNat x1) = 0) ∨ (s0_29 = 0 ∧ ((x1 < 0 ∨ 2 < x1) ∨ rd m 58 (Int.toNat x1) = 0))))) ∧ (∀ A, cA m A → (s0_29 = 0 ∧ cA m_29 A) ∨ (s0_29 = 1 ∧ (0 ≤ x1 ∧ x1 ≤ 2) ∧ ¬ rd m 58 (Int.toNat x1) = 0 ∧ cA m_29 (reA A (Int.toNat x1))))), ?_, ?_⟩
  · skip
    refine ⟨fun m_28 => CIX m0 m_28 ∧ (((rd m_28 1 0 = rd m 1 0) ∧ (kp m m_28 ∧ ((x1 < 0 ∨ 2 < x1) ∨ rd m 58 (Int.toNat x1) = 0))) ∧ (∀ A, cA m A → cA m_28 A)), ?_, ?_⟩
    · skip
      refine ⟨fun hq => ?_, fun hq => ?_⟩
      · skip
        exact ⟨g_m, by exact ⟨by exact ⟨by first | trivial | omega | (refine ⟨?_, ?_⟩ <;> omega), by first | exact ⟨(kp_gx hx_m18 (fun j => sPt_no (by omega) (by omega)) (fun j => sPt_no (by omega) (by omega)) (sPt_no (by omega) (by omega)) (sPt_no (by omega) (by omega)) (sPt_no (by omega) (by omega))), by omega⟩ | exact ⟨kp_r _, by omega⟩⟩, by first | (have u := h_m18; exact fun A h => cu_r0 h h_m18 (by omega)) | exact fun A h => h⟩⟩
      · skip
        refine CK.mono (ct_24   g_m.1 st_274 r_x1 (by omega)) (by decide) ?_
        rintro m18 v18 r_v18 ⟨hx_m18, h_m18⟩
        have g_m18 : CIX m0 m18 := CI_goon g_m hx_m18 h_m18 ⟨by omega, by omega⟩
        have s18 : rd m18 1 0 = rd m 1 0 := hx_m18.2.1 1 0 rfl
        refine ⟨fun hq => ?_, fun hq => ?_⟩
        · skip
          exact ⟨g_m18, by exact ⟨by exact ⟨by first | trivial | omega | (refine ⟨?_, ?_⟩ <;> omega), by first | exact ⟨(kp_gx hx_m18 (fun j => sPt_no (by omega) (by omega)) (fun j => sPt_no (by omega) (by omega)) (sPt_no (by omega) (by omega)) (sPt_no (by omega) (by omega)) (sPt_no (by omega) (by omega))), by omega⟩ | exact ⟨kp_r _, by omega⟩⟩, by first | (have u := h_m18; exact fun A h => cu_r0 h h_m18 (by omega)) | exact fun A h => h⟩⟩
        · skip
          exact ⟨g_m18, by exact ⟨by exact ⟨by first | trivial | omega | (refine ⟨?_, ?_⟩ <;> omega), by first | exact ⟨(kp_gx hx_m18 (fun j => sPt_no (by omega) (by omega)) (fun j => sPt_no (by omega) (by omega)) (sPt_no (by omega) (by omega)) (sPt_no (by omega) (by omega)) (sPt_no (by omega) (by omega))), Or.inl ⟨rfl, by omega, by omega⟩⟩ | exact ⟨cR_28.1, Or.inr ⟨rfl, cR_28.2⟩⟩⟩, by first | (have u := h_m18; exact fun A h => Or.inr (cu_r1 h (by omega) hx_m18 h_m18 (by omega))) | exact fun A h => Or.inl ⟨rfl, dR_28 A h⟩⟩⟩
    · intro m_28  hR_28
      obtain ⟨g_m_28, hR_28⟩ := hR_28
      obtain ⟨hR_28, dR_28⟩ := hR_28
      obtain ⟨hR_28, cR_28⟩ := hR_28
      exact ⟨g_m_28, by exact ⟨by exact ⟨by first | trivial | omega | (refine ⟨?_, ?_⟩ <;> omega), by first | exact ⟨(kp_gx hx_m18 (fun j => sPt_no (by omega) (by omega)) (fun j => sPt_no (by omega) (by omega)) (sPt_no (by omega) (by omega)) (sPt_no (by omega) (by omega)) (sPt_no (by omega) (by omega))), Or.inl ⟨rfl, by omega, by omega⟩⟩ | exact ⟨cR_28.1, Or.inr ⟨rfl, cR_28.2⟩⟩⟩, by first | (have u := h_m18; exact fun A h => Or.inr (cu_r1 h (by omega) hx_m18 h_m18 (by omega))) | exact fun A h => Or.inl ⟨rfl, dR_28 A h⟩⟩⟩
  · intro s0_29 m_29 r_s0_29 hR_29
    obtain ⟨g_m_29, hR_29⟩ := hR_29
    obtain ⟨hR_29, dR_29⟩ := hR_29
    obtain ⟨hR_29, cR_29⟩ := hR_29
    exact ⟨by omega, ⟨g_m_29, by exact ⟨by exact ⟨by first | trivial | omega | (refine ⟨?_, ?_⟩ <;> omega), by exact cR_29⟩, by exact dR_29⟩⟩⟩
-- TippedCrates.tip(II)I
set_option maxRecDepth 20000 in
theorem ey_129 {m0 m : Mm} {x1 : Int} {x2 : Int}  (g_m : CIX m0 m) (r_x1 : rg x1) (r_x2 : rg x2) (p0 : ∃ E, LSd m 11 E) : CK 5 129 [.ref 0, iv x1, iv x2] m (fun m2 v => CIX m0 m2 ∧ (((rd m2 1 0 = rd m 1 0) ∧ (kp m m2)) ∧ (∀ A, cA m A → (((0 ≤ x1 ∧ x1 < A.Y 3) ∧ (0 ≤ x2 ∧ x2 ≤ 3) ∧ canN A.Y A.r x1 x2) ∧ cA m2 (noA A (tiN A.Y A.E A.r x1 x2)) ∧ v = fC (tiN A.Y A.E A.r x1 x2) x1) ∨ (¬ ((0 ≤ x1 ∧ x1 < A.Y 3) ∧ (0 ≤ x2 ∧ x2 ≤ 3) ∧ canN A.Y A.r x1 x2) ∧ cA m2 A ∧ v = -1)))) := by
  refine br_129 r_x1 r_x2 ?_
  unfold P_129
  have ok := g_m.2.1.2.1
  have okn := ok.1
  have t73 := ty_7_3 g_m.1
  refine CK.mono (ct_162   g_m.1 r_x1) (by decide) ?_
  rintro m2 v2 r_v2 ⟨e_m2, h_m2⟩
  replace e_m2 := e_m2.symm
  subst e_m2
  refine ⟨fun m_31 => CIX m0 m_31 ∧ (((rd m_31 1 0 = rd m 1 0) ∧ (kp m m_31)) ∧ (∀ A, cA m A → ¬ ((0 ≤ x1 ∧ x1 < A.Y 3) ∧ (0 ≤ x2 ∧ x2 ≤ 3) ∧ canN A.Y A.r x1 x2) ∧ cA m_31 A)), ?_, ?_⟩
  · skip
    refine ⟨fun hq => ?_, fun hq => ?_⟩
    · skip
      exact ⟨g_m, by exact ⟨by exact ⟨by first | trivial | omega | (refine ⟨?_, ?_⟩ <;> omega), by exact kp_r _⟩, by first | (have u := h_m25; exact fun A h => ⟨fun w => cu_t0 h w.1 w.2.1 h_m25 (by omega) w.2.2, h⟩) | exact fun A h => ⟨fun w => by have := h.1.1.2.2.2.1; omega, h⟩⟩⟩
    · skip
      refine CK.mono (ct_165   r_x2) (by decide) ?_
      rintro m9 v9 r_v9 ⟨e_m9, h_m9⟩
      replace e_m9 := e_m9.symm
      subst e_m9
      refine ⟨fun hq => ?_, fun hq => ?_⟩
      · skip
        exact ⟨g_m, by exact ⟨by exact ⟨by first | trivial | omega | (refine ⟨?_, ?_⟩ <;> omega), by exact kp_r _⟩, by first | (have u := h_m25; exact fun A h => ⟨fun w => cu_t0 h w.1 w.2.1 h_m25 (by omega) w.2.2, h⟩) | exact fun A h => ⟨fun w => by have := h.1.1.2.2.2.1; omega, h⟩⟩⟩
      · skip
        have fl := ok.2.1 (Int.toNat x1) (by omega)
        refine CK.mono (ct_1   g_m.1 st_274 r_x1 r_x2 (by omega) (by omega) fl) (by decide) ?_
        rintro m25 v25 r_v25 ⟨e_m25, h_m25⟩
        replace e_m25 := e_m25.symm
        subst e_m25
        refine ⟨fun hq => ?_, fun hq => ?_⟩
        · skip
          refine CV.mono (ct_21   g_m.1 st_274) (by decide) ?_
          rintro m41 ⟨hx_m41, h_m41⟩
          have g_m41 : CIX m0 m41 := CI_note g_m hx_m41 h_m41
          have c41 : rd m41 274 4 = rd m 274 4 := hx_m41.2.1 274 4 rfl
          have s41 : rd m41 1 0 = rd m 1 0 := hx_m41.2.1 1 0 rfl
          refine CV.mono (ey_7   g_m41.1 st_274 r_x1 r_x2 g_m41.2.1.2.1.2 (by omega) (by omega) g_m41.2.1.1.1 (lsE_P p0 hx_m41)) (by decide) ?_
          rintro m54 ⟨hx_m54, h_m54⟩
          have g_m54 : CIX m0 m54 := CI_sT g_m41 hx_m54 h_m54.1
          have s54 : rd m54 1 0 = rd m41 1 0 := hx_m54.2.1 1 0 (sT_no (by omega) (by omega) (by omega))
          have kp54 : kp m m54 := (kp_gx hx_m41 (fun j => rfl) (fun j => rfl) rfl rfl rfl).trans (kp_gx hx_m54 (fun j => sT_no (by omega) (by omega) (by omega)) (fun j => sT_no (by omega) (by omega) (by omega)) (sT_no (by omega) (by omega) (by omega)) (sT_no (by omega) (by omega) (by omega)) (sT_no (by omega) (by omega) (by omega)))
          refine ⟨⟨by omega, by omega⟩, ?_⟩
          have t1 := ty_sF g_m54.1 st_274 (Int.toNat x1)
          exact ⟨g_m54, by exact ⟨by exact ⟨by first | trivial | omega | (refine ⟨?_, ?_⟩ <;> omega), by first | exact kp54 | exact cR_31⟩, by first | (have u := h_m25; exact fun A h => Or.inl (cu_t1 h (by omega) (by omega) h_m25 (by omega) g_m.1 hx_m41 h_m41 hx_m54 h_m54.2)) | exact fun A h => Or.inr ⟨(dR_31 A h).1, (dR_31 A h).2, rfl⟩⟩⟩
        · skip
          exact ⟨g_m, by exact ⟨by exact ⟨by first | trivial | omega | (refine ⟨?_, ?_⟩ <;> omega), by exact kp_r _⟩, by first | (have u := h_m25; exact fun A h => ⟨fun w => cu_t0 h w.1 w.2.1 h_m25 (by omega) w.2.2, h⟩) | exact fun A h => ⟨fun w => by have := h.1.1.2.2.2.1; omega, h⟩⟩⟩
  · intro m_31  hR_31
    obtain ⟨g_m_31, hR_31⟩ := hR_31
    obtain ⟨hR_31, dR_31⟩ := hR_31
    obtain ⟨hR_31, cR_31⟩ := hR_31
    exact ⟨g_m_31, by exact ⟨by exact ⟨by first | trivial | omega | (refine ⟨?_, ?_⟩ <;> omega), by first | exact kp54 | exact cR_31⟩, by first | (have u := h_m25; exact fun A h => Or.inl (cu_t1 h (by omega) (by omega) h_m25 (by omega) g_m.1 hx_m41 h_m41 hx_m54 h_m54.2)) | exact fun A h => Or.inr ⟨(dR_31 A h).1, (dR_31 A h).2, rfl⟩⟩⟩
