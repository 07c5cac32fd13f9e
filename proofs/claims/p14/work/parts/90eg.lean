theorem pf_C {m : Mm} {A : Ab} {x1 x2 v : Int} (h : cA m A) (w : paP A x1 x2) (p : (v = 1 ∧ 0 ≤ x1 ∧ x1 ≤ rd m 7 0 * rd m 7 1 - 1) ∨ (v = 0 ∧ (x1 < 0 ∨ rd m 7 0 * rd m 7 1 - 1 < x1))) (z : v = 0) : False := by
  rw [h.1.1.1, h.1.1.2.1] at p
  have := w.1
  omega
theorem pq_C {m : Mm} {A : Ab} {x1 x2 : Int} (h : cA m A) (w : paP A x1 x2) (e : rd m 275 (Int.toNat x1) = x2) : False := by
  have b := wh_b h.2.1.1 h.2.1.2.1
  have := w.1
  exact w.2.2.1 ((h.2.2.1.2.2.1 _ (by omega)).symm.trans e)
theorem ps_C {m : Mm} {A : Ab} {x1 x2 v : Int} (h : cA m A) (w : paP A x1 x2) (p : (v = 1 ∧ anI (srI (rd m 7 4) x1) 1 = 1) ∨ (v = 0 ∧ ¬ anI (srI (rd m 7 4) x1) 1 = 1)) (z : ¬ v = 0) : False := by
  rw [h.1.1.2.2.1] at p
  exact w.2.2.2.1 (or_1 p z)
theorem pt_C {m : Mm} {A : Ab} {x1 x2 v : Int} (h : cA m A) (w : paP A x1 x2) (p : (0 ≤ v ∧ v < rd m 274 4 ∧ rd m 276 (Int.toNat v) = x1 ∧ (∀ c : Nat, (c : Int) < v → ¬ rd m 276 c = x1)) ∨ (v = -1 ∧ (∀ c : Nat, (c : Int) < rd m 274 4 → ¬ rd m 276 c = x1))) (z : ¬ v = -1) : False := by
  rcases p with ⟨a, b, c, -⟩ | ⟨a, -⟩
  · rw [h.2.2.1.2.1] at b
    exact w.2.2.2.2 v a b ((h.2.2.1.2.2.2.1 v a b).symm.trans c)
  · exact z a
theorem pa_C {m m63 m75 : Mm} {A : Ab} {x1 x2 v2 v35 v46 : Int} (h : cA m A) (p2 : (v2 = 1 ∧ 0 ≤ x1 ∧ x1 ≤ rd m 7 0 * rd m 7 1 - 1) ∨ (v2 = 0 ∧ (x1 < 0 ∨ rd m 7 0 * rd m 7 1 - 1 < x1))) (z2 : ¬ v2 = 0) (k : 0 ≤ x2 ∧ x2 ≤ 9) (ne : ¬ rd m 275 (Int.toNat x1) = x2) (p35 : (v35 = 1 ∧ anI (srI (rd m 7 4) x1) 1 = 1) ∨ (v35 = 0 ∧ ¬ anI (srI (rd m 7 4) x1) 1 = 1)) (z35 : v35 = 0) (p46 : (0 ≤ v46 ∧ v46 < rd m 274 4 ∧ rd m 276 (Int.toNat v46) = x1 ∧ (∀ c : Nat, (c : Int) < v46 → ¬ rd m 276 c = x1)) ∨ (v46 = -1 ∧ (∀ c : Nat, (c : Int) < rd m 274 4 → ¬ rd m 276 c = x1))) (z46 : v46 = -1) (T : Ty m) (n : stEq m63 (59 + 5 * Int.toNat (rd m 55 4)) m 274 ∧ rd m63 55 4 = (if rd m 55 4 + 1 < 40 then rd m 55 4 + 1 else 0) ∧ rd m63 55 0 = min (rd m 55 0 + 1) 40 ∧ ∀ i j, ¬ i = 55 → ¬ (59 + 5 * Int.toNat (rd m 55 4) ≤ i ∧ i ≤ 63 + 5 * Int.toNat (rd m 55 4)) → rd m63 i j = rd m i j) (e : m75 = wt m63 275 (Int.toNat x1) x2) (rx : rg x2) : paP A x1 x2 ∧ cA m75 (noA A (ro_u A.r (Int.toNat x1) x2)) ∧ (1 : Int) = 1 := by
  have b := wh_b h.2.1.1 h.2.1.2.1
  rw [h.1.1.1, h.1.1.2.1] at p2
  rw [h.1.1.2.2.1] at p35
  have hx : 0 ≤ x1 ∧ x1 < A.Y 0 * A.Y 1 := by omega
  obtain ⟨s1, s2, s3, s4, s5, s6, s7⟩ := h.2.2.1.2
  have h63 := cA_note h (ty_55_4 T) n
  obtain ⟨t1, t2, t3, t4, t5, t6, t7⟩ := h63.2.2.1.2
  have F : ∀ i j : Nat, ¬ i = 275 → rd m75 i j = rd m63 i j := fun i j q => by rw [e, rd_wt, if_neg (by omega)]
  refine ⟨⟨hx, k, fun w => ne ((s2 _ (by omega)).trans w), or_0 p35 z35, fun c c0 c1 w => ?_⟩, cA_now h63 (fun c c0 c1 => ?_) ⟨?_, fun j hj => ?_, fun c c0 c1 => ?_, fun q q0 q1 => ?_, fun c c0 c1 => ?_, ?_, ?_⟩ (fun i j q w => F i j (by omega)), rfl⟩
  · rcases p46 with ⟨q, -⟩ | ⟨-, q⟩
    · omega
    · have r := q (Int.toNat c) (by rw [s1]; omega)
      exact r ((s3 c c0 c1).trans w)
  · rw [fC_ne (by omega)]; exact h.2.2.1.1 c c0 c1
  · rw [F 274 4 (by omega)]; exact t1
  · rw [e, rd_wt]
    by_cases q : j = Int.toNat x1
    · rw [if_pos ⟨rfl, q⟩, wr_i rx, q, ro_eq]
    · rw [if_neg (fun w => q w.2), ro_ne q]; exact t2 j hj
  · rw [F 276 _ (by omega), fC_ne (by omega)]; exact t3 c c0 c1
  · rw [F 277 _ (by omega), ro_ne (by omega)]; exact t4 q q0 q1
  · rw [F 278 _ (by omega), ro_ne (by omega)]; exact t5 c c0 c1
  · rw [F 274 5 (by omega), ro_ne (by omega)]; exact t6
  · rw [F 274 6 (by omega), ro_ne (by omega)]; exact t7
-- TippedCrates.paint(II)Z
set_option maxRecDepth 20000 in
theorem ey_130 {m0 m : Mm} {x1 : Int} {x2 : Int}  (g_m : CIX m0 m) (r_x1 : rg x1) (r_x2 : rg x2)  : CK 3 130 [.ref 0, iv x1, iv x2] m (fun m2 v => CIX m0 m2 ∧ (((rd m2 1 0 = rd m 1 0) ∧ (kp m m2)) ∧ (∀ A, cA m A → (paP A x1 x2 ∧ cA m2 (noA A (ro_u A.r (Int.toNat x1) x2)) ∧ v = 1) ∨ (¬ paP A x1 x2 ∧ cA m2 A ∧ v = 0)))) := by
  refine br_130 r_x1 r_x2 ?_
  unfold P_130
  have ok := g_m.2.1.2.1
  have okn := ok.1
  have t73 := ty_7_3 g_m.1
  have wb := wh_b (ty_7_0 g_m.1) (ty_7_1 g_m.1)
  refine CK.mono (ct_163   g_m.1 r_x1) (by decide) ?_
  rintro m2 v2 r_v2 ⟨e_m2, h_m2⟩
  replace e_m2 := e_m2.symm
  subst e_m2
  refine ⟨fun m_28 => CIX m0 m_28 ∧ (((rd m_28 1 0 = rd m 1 0) ∧ (kp m m_28)) ∧ (∀ A, cA m A → ¬ paP A x1 x2 ∧ cA m_28 A)), ?_, ?_⟩
  · skip
    refine ⟨fun hq => ?_, fun hq => ?_⟩
    · skip
      exact ⟨g_m, by exact ⟨by exact ⟨by first | trivial | omega | (refine ⟨?_, ?_⟩ <;> omega), by exact kp_r _⟩, by first | (have u := h_m9; exact fun A h => ⟨fun w => by have := w.2.1; omega, h⟩) | (have u := h_m9; exact fun A h => ⟨fun w => pq_C h w (by assumption), h⟩) | exact fun A h => ⟨fun w => pf_C h w h_m2 (by omega), h⟩⟩⟩
    · skip
      refine CK.mono (ct_164   r_x2) (by decide) ?_
      rintro m9 v9 r_v9 ⟨e_m9, h_m9⟩
      replace e_m9 := e_m9.symm
      subst e_m9
      refine ⟨fun hq => ?_, fun hq => ?_⟩
      · skip
        exact ⟨g_m, by exact ⟨by exact ⟨by first | trivial | omega | (refine ⟨?_, ?_⟩ <;> omega), by exact kp_r _⟩, by first | (have u := h_m9; exact fun A h => ⟨fun w => by have := w.2.1; omega, h⟩) | (have u := h_m9; exact fun A h => ⟨fun w => pq_C h w (by assumption), h⟩) | exact fun A h => ⟨fun w => pf_C h w h_m2 (by omega), h⟩⟩⟩
      · skip
        refine ⟨⟨by omega, by omega⟩, ?_⟩
        have t1 := ty_sM g_m.1 st_274 (Int.toNat x1)
        refine ⟨fun hq => ?_, fun hq => ?_⟩
        · skip
          refine CK.mono (ct_31   r_x1) (by decide) ?_
          rintro m35 v35 r_v35 ⟨e_m35, h_m35⟩
          replace e_m35 := e_m35.symm
          subst e_m35
          refine ⟨fun m_53 => CIX m0 m_53 ∧ (((rd m_53 1 0 = rd m 1 0) ∧ (kp m m_53)) ∧ (∀ A, cA m A → ¬ paP A x1 x2 ∧ cA m_53 A)), ?_, ?_⟩
          · skip
            refine ⟨fun hq => ?_, fun hq => ?_⟩
            · skip
              exact ⟨g_m, by exact ⟨by exact ⟨by first | trivial | omega | (refine ⟨?_, ?_⟩ <;> omega), by exact kp_r _⟩, by first | (have u := h_m46; exact fun A h => ⟨fun w => pt_C h w h_m46 (by assumption), h⟩) | exact fun A h => ⟨fun w => ps_C h w h_m35 (by omega), h⟩⟩⟩
            · skip
              refine CK.mono (ct_77   g_m.1 st_274 r_x1) (by decide) ?_
              rintro m46 v46 r_v46 ⟨e_m46, h_m46⟩
              replace e_m46 := e_m46.symm
              subst e_m46
              refine ⟨fun hq => ?_, fun hq => ?_⟩
              · skip
                refine CV.mono (ct_21   g_m.1 st_274) (by decide) ?_
                rintro m63 ⟨hx_m63, h_m63⟩
                have g_m63 : CIX m0 m63 := CI_note g_m hx_m63 h_m63
                have s63 : rd m63 1 0 = rd m 1 0 := hx_m63.2.1 1 0 rfl
                refine ⟨⟨by omega, by omega⟩, ?_⟩
                intro m75 e_m75
                have g_m75 : CIX m0 m75 := by rw [e_m75]; exact CI_paint g_m63 ⟨by omega, by omega⟩
                have s75 : rd m75 1 0 = rd m63 1 0 := by rw [e_m75, rd_wt, if_neg (by omega)]
                have kp75 : kp m m75 := (kp_gx hx_m63 (fun j => rfl) (fun j => rfl) rfl rfl rfl).trans (kp_wt (by omega) e_m75)
                exact ⟨g_m75, by exact ⟨by exact ⟨by first | trivial | omega | (refine ⟨?_, ?_⟩ <;> omega), by first | exact kp75 | exact cR_28 | exact cR_53⟩, by first | (have u := e_m75; exact fun A h => Or.inl (pa_C h h_m2 (by omega) (by omega) (by assumption) h_m35 (by omega) h_m46 (by omega) g_m.1 h_m63 e_m75 r_x2)) | (have u := dR_53; exact fun A h => Or.inr ⟨(dR_53 A h).1, (dR_53 A h).2, rfl⟩) | exact fun A h => Or.inr ⟨(dR_28 A h).1, (dR_28 A h).2, rfl⟩⟩⟩
              · skip
                exact ⟨g_m, by exact ⟨by exact ⟨by first | trivial | omega | (refine ⟨?_, ?_⟩ <;> omega), by exact kp_r _⟩, by first | (have u := h_m46; exact fun A h => ⟨fun w => pt_C h w h_m46 (by assumption), h⟩) | exact fun A h => ⟨fun w => ps_C h w h_m35 (by omega), h⟩⟩⟩
          · intro m_53  hR_53
            obtain ⟨g_m_53, hR_53⟩ := hR_53
            obtain ⟨hR_53, dR_53⟩ := hR_53
            obtain ⟨hR_53, cR_53⟩ := hR_53
            exact ⟨g_m_53, by exact ⟨by exact ⟨by first | trivial | omega | (refine ⟨?_, ?_⟩ <;> omega), by first | exact kp75 | exact cR_28 | exact cR_53⟩, by first | (have u := e_m75; exact fun A h => Or.inl (pa_C h h_m2 (by omega) (by omega) (by assumption) h_m35 (by omega) h_m46 (by omega) g_m.1 h_m63 e_m75 r_x2)) | (have u := dR_53; exact fun A h => Or.inr ⟨(dR_53 A h).1, (dR_53 A h).2, rfl⟩) | exact fun A h => Or.inr ⟨(dR_28 A h).1, (dR_28 A h).2, rfl⟩⟩⟩
        · skip
          exact ⟨g_m, by exact ⟨by exact ⟨by first | trivial | omega | (refine ⟨?_, ?_⟩ <;> omega), by exact kp_r _⟩, by first | (have u := h_m9; exact fun A h => ⟨fun w => by have := w.2.1; omega, h⟩) | (have u := h_m9; exact fun A h => ⟨fun w => pq_C h w (by assumption), h⟩) | exact fun A h => ⟨fun w => pf_C h w h_m2 (by omega), h⟩⟩⟩
  · intro m_28  hR_28
    obtain ⟨g_m_28, hR_28⟩ := hR_28
    obtain ⟨hR_28, dR_28⟩ := hR_28
    obtain ⟨hR_28, cR_28⟩ := hR_28
    exact ⟨g_m_28, by exact ⟨by exact ⟨by first | trivial | omega | (refine ⟨?_, ?_⟩ <;> omega), by first | exact kp75 | exact cR_28 | exact cR_53⟩, by first | (have u := e_m75; exact fun A h => Or.inl (pa_C h h_m2 (by omega) (by omega) (by assumption) h_m35 (by omega) h_m46 (by omega) g_m.1 h_m63 e_m75 r_x2)) | (have u := dR_53; exact fun A h => Or.inr ⟨(dR_53 A h).1, (dR_53 A h).2, rfl⟩) | exact fun A h => Or.inr ⟨(dR_28 A h).1, (dR_28 A h).2, rfl⟩⟩⟩
