theorem cu_g {m m24 m43 : Mm} {A : Ab} {x1 : Int} (h : cA m A) (T : Ty m) (n : stEq m24 (59 + 5 * Int.toNat (rd m 55 4)) m 274 ∧ rd m24 55 4 = (if rd m 55 4 + 1 < 40 then rd m 55 4 + 1 else 0) ∧ rd m24 55 0 = min (rd m 55 0 + 1) 40 ∧ ∀ i j, ¬ i = 55 → ¬ (59 + 5 * Int.toNat (rd m 55 4) ≤ i ∧ i ≤ 63 + 5 * Int.toNat (rd m 55 4)) → rd m24 i j = rd m i j) (g43 : GX (sT 274) m24 m43) (q : ∀ Y E r, YS m24 274 Y E r → YS m43 274 Y E (goN Y E (rd m24 7 2) r (Int.toNat x1))) : cA m43 (noA A (goN A.Y A.E (A.Y 4) A.r (Int.toNat x1))) := by
  have h24 := cA_note h (ty_55_4 T) n
  have y := q A.Y A.E A.r ⟨h24.1, h24.2.2.1.2, h.2.1, h.2.2.1.1⟩
  have e4 : rd m24 7 2 = A.Y 4 := h24.1.1.2.2.2.2
  rw [e4] at y
  exact cA_now h24 y.2.2.2 y.2.1 (fun i j q w => g43.2.1 i j (sT_no (by unfold cAr at q; omega) (by unfold cAr at q; omega) (by omega)))
theorem cu_g2 {m m46 : Mm} {A : Ab} {x1 : Int} (h : cA m A) (c : (x1 = 0 ∧ ∀ A, cA m A → cA m46 A) ∨ ((1 ≤ x1 ∧ x1 ≤ 60) ∧ ∀ A, cA m A → cA m46 (noA A (goN A.Y A.E (A.Y 4) A.r (Int.toNat x1))))) : (¬ (0 ≤ x1 ∧ x1 ≤ 60) ∧ cA m46 A ∧ rd m46 274 5 = -1) ∨ (x1 = 0 ∧ cA m46 A ∧ rd m46 274 5 = A.r 49) ∨ ((1 ≤ x1 ∧ x1 ≤ 60) ∧ cA m46 (noA A (goN A.Y A.E (A.Y 4) A.r (Int.toNat x1))) ∧ rd m46 274 5 = goN A.Y A.E (A.Y 4) A.r (Int.toNat x1) 49) := by
  rcases c with ⟨a, b⟩ | ⟨a, b⟩
  · exact Or.inr (Or.inl ⟨a, b A h, (b A h).2.2.1.2.2.2.2.2.2.1⟩)
  · exact Or.inr (Or.inr ⟨a, b A h, (b A h).2.2.1.2.2.2.2.2.2.1⟩)
-- TippedCrates.minutes(I)I
set_option maxRecDepth 20000 in
theorem ey_131 {m0 m : Mm} {x1 : Int}  (g_m : CIX m0 m) (r_x1 : rg x1) (p0 : ∃ E, LSd m 11 E) : CK 7 131 [.ref 0, iv x1] m (fun m2 v => CIX m0 m2 ∧ (((rd m2 1 0 = rd m 1 0) ∧ (kp m m2)) ∧ (∀ A, cA m A → (¬ (0 ≤ x1 ∧ x1 ≤ 60) ∧ cA m2 A ∧ v = -1) ∨ (x1 = 0 ∧ cA m2 A ∧ v = A.r 49) ∨ ((1 ≤ x1 ∧ x1 ≤ 60) ∧ cA m2 (noA A (goN A.Y A.E (A.Y 4) A.r (Int.toNat x1))) ∧ v = goN A.Y A.E (A.Y 4) A.r (Int.toNat x1) 49)))) := by
  refine br_131 r_x1 ?_
  unfold P_131
  have ok := g_m.2.1.2.1
  have okn := ok.1
  have t73 := ty_7_3 g_m.1
  refine CK.mono (ct_166   r_x1 (by unfold rg; decide) (by unfold rg; decide)) (by decide) ?_
  rintro m4 v4 r_v4 ⟨e_m4, h_m4⟩
  replace e_m4 := e_m4.symm
  subst e_m4
  refine ⟨fun hq => ?_, fun hq => ?_⟩
  · skip
    refine ⟨fun m_46 => CIX m0 m_46 ∧ (((rd m_46 1 0 = rd m 1 0) ∧ (kp m m_46)) ∧ ((x1 = 0 ∧ ∀ A, cA m A → cA m_46 A) ∨ ((1 ≤ x1 ∧ x1 ≤ 60) ∧ ∀ A, cA m A → cA m_46 (noA A (goN A.Y A.E (A.Y 4) A.r (Int.toNat x1)))))), ?_, ?_⟩
    · skip
      refine ⟨fun hq => ?_, fun hq => ?_⟩
      · skip
        exact ⟨g_m, by exact ⟨by exact ⟨by first | trivial | omega | (refine ⟨?_, ?_⟩ <;> omega), by first | exact kp43 | exact kp_r _⟩, by first | (have u := h_m43; exact Or.inr ⟨by omega, fun A h => cu_g h g_m.1 h_m24 hx_m43 h_m43.2⟩) | exact Or.inl ⟨by omega, fun A h => h⟩⟩⟩
      · skip
        refine CV.mono (ct_21   g_m.1 st_274) (by decide) ?_
        rintro m24 ⟨hx_m24, h_m24⟩
        have g_m24 : CIX m0 m24 := CI_note g_m hx_m24 h_m24
        have s24 : rd m24 1 0 = rd m 1 0 := hx_m24.2.1 1 0 rfl
        refine CV.mono (ey_8   g_m24.1 st_274 r_x1 (rd_rg _ _ _) g_m24.2.1.2.1.2 g_m24.2.1.1.1 (by omega) (lsE_P p0 hx_m24)) (by decide) ?_
        rintro m43 ⟨hx_m43, h_m43⟩
        have g_m43 : CIX m0 m43 := CI_sT g_m24 hx_m43 h_m43.1.1
        have s43 : rd m43 1 0 = rd m24 1 0 := hx_m43.2.1 1 0 (sT_no (by omega) (by omega) (by omega))
        have kp43 : kp m m43 := (kp_gx hx_m24 (fun j => rfl) (fun j => rfl) rfl rfl rfl).trans (kp_gx hx_m43 (fun j => sT_no (by omega) (by omega) (by omega)) (fun j => sT_no (by omega) (by omega) (by omega)) (sT_no (by omega) (by omega) (by omega)) (sT_no (by omega) (by omega) (by omega)) (sT_no (by omega) (by omega) (by omega)))
        exact ⟨g_m43, by exact ⟨by exact ⟨by first | trivial | omega | (refine ⟨?_, ?_⟩ <;> omega), by first | exact kp43 | exact kp_r _⟩, by first | (have u := h_m43; exact Or.inr ⟨by omega, fun A h => cu_g h g_m.1 h_m24 hx_m43 h_m43.2⟩) | exact Or.inl ⟨by omega, fun A h => h⟩⟩⟩
    · intro m_46  hR_46
      obtain ⟨g_m_46, hR_46⟩ := hR_46
      obtain ⟨hR_46, dR_46⟩ := hR_46
      obtain ⟨hR_46, cR_46⟩ := hR_46
      exact ⟨g_m_46, by exact ⟨by exact ⟨by first | trivial | omega | (refine ⟨?_, ?_⟩ <;> omega), by first | exact cR_46 | exact kp_r _⟩, by first | (have u := dR_46; exact fun A h => cu_g2 h dR_46) | exact fun A h => Or.inl ⟨by omega, h, rfl⟩⟩⟩
  · skip
    exact ⟨g_m, by exact ⟨by exact ⟨by first | trivial | omega | (refine ⟨?_, ?_⟩ <;> omega), by first | exact cR_46 | exact kp_r _⟩, by first | (have u := dR_46; exact fun A h => cu_g2 h dR_46) | exact fun A h => Or.inl ⟨by omega, h, rfl⟩⟩⟩
