theorem my_260v {m : Mm} {x1 : Int} {x2 : Int}  (T_m : Ty m) (r_x1 : rg x1) (r_x2 : rg x2) (p0 : 0 ≤ x1 ∧ x1 ≤ 2) (p1 : 0 ≤ x2 ∧ x2 ≤ 599) : CK 4 260 [.ref 284, iv x1, iv x2] m (fun m2 v => m2 = m ∧ ((v = -2 ∨ (0 ≤ v ∧ v ≤ 3)) ∧ (∀ mv mk L, RLw m mv mk L x1 → x2 < L → v = ryF mv mk (fun t => rd m 332 (Int.toNat t)) x2 4) ∧ v = valOf 260 [.ref 284, iv x1, iv x2] m)) :=
  (CK_val (my_260 T_m r_x1 r_x2 p0 p1)).mono (Nat.le_refl _) (fun _ _ _ h => ⟨h.1.1, h.1.2.1, h.1.2.2, h.2⟩)
abbrev mk1 (A : Ab) (F : Nat → Int) (c : Int) : Int → Int := fun s => mkN A.r F c s 1
def riK (m31 m : Mm) (c n : Int) : Prop := n32 m31 m ∧ ∀ A T F, mlP m31 A T F c → ∀ s : Int, 0 ≤ s → s < 24 * (A.Y 0 * A.Y 1) → rd m 332 (Int.toNat s) = rvF (mvN A.Y A.r T c) (mk1 A F c) (Int.toNat n) s
def riI (m31 m77 m : Mm) (c x4 x : Int) : Prop := (n32 m31 m ∧ ∀ j : Nat, rd m 332 j = rd m77 332 j) ∧ ∀ A T F, mlP m31 A T F c → ∀ s : Int, 0 ≤ s → s < x → s < 24 * (A.Y 0 * A.Y 1) → rd m 333 (Int.toNat s) = rvF (mvN A.Y A.r T c) (mk1 A F c) (Int.toNat x4) s
def riV (m31 : Mm) (c x4 x v : Int) : Prop := ∀ A T F, mlP m31 A T F c → x < 24 * (A.Y 0 * A.Y 1) → v = rvF (mvN A.Y A.r T c) (mk1 A F c) (Int.toNat x4) x
section RI
variable {m31 m77 m : Mm} {c x4 x v w z n : Int}
theorem ri_i (d : n32 m31 m ∧ ∀ j : Nat, (j : Int) < x → rd m 332 j = 0) (h : 600 ≤ x) : riK m31 m c (1 - 1) := ⟨d.1, fun A T F wl s h0 h1 => by
  have b := (ml_N wl d.1).1
  exact d.2 (Int.toNat s) (by omega)⟩
theorem ri_f {m67 : Mm} (d : n32 m31 m ∧ ∀ j : Nat, (j : Int) < x → rd m 332 j = 0) (h : 0 ≤ x ∧ z = x + 1) (e : m67 = wt m 332 (Int.toNat x) 0) : n32 m31 m67 ∧ ∀ j : Nat, (j : Int) < z → rd m67 332 j = 0 := by
  refine ⟨fun i j q => by rw [e, rd_wt, if_neg (fun w => q (Or.inl w.1))]; exact d.1 i j q, fun j hj => ?_⟩
  rw [e, rd_wt]
  by_cases q : j = Int.toNat x
  · rw [if_pos ⟨rfl, q⟩]
    rfl
  · rw [if_neg (fun w => q w.2)]
    exact d.2 j (by omega)
theorem ri_a (d : riK m31 m77 c n) : riI m31 m77 m77 c x4 0 := ⟨⟨d.1, fun _ => rfl⟩, fun A T F wl s h0 h1 h2 => by omega⟩
theorem ml_K {A : Ab} {T F : Nat → Int} (tm : Ty m31) (wl : mlP m31 A T F c) : okK (mk1 A F c) (24 * (A.Y 0 * A.Y 1)) := fun s h0 h1 => ml_9 wl tm (by decide) h0
theorem ri_RLw {A : Ab} {T F : Nat → Int} (tm : Ty m31) (f : n32 m31 m) (k : ∀ s : Int, 0 ≤ s → s < 24 * (A.Y 0 * A.Y 1) → rd m 332 (Int.toNat s) = rvF (mvN A.Y A.r T c) (mk1 A F c) (Int.toNat n) s) (hn : n ≤ 40) (wl : mlP m31 A T F c) : RLw m (mvN A.Y A.r T c) (mk1 A F c) (24 * (A.Y 0 * A.Y 1)) c := by
  have b := (ml_N wl f).1
  refine ⟨fun s k s0 s1 k0 k1 => (f 325 _ (by decide)).trans (wl.2.1 s k s0 s1 k0 k1), wl.2.2.1, fun s s0 s1 => ?_, ml_K tm wl, fun t t0 t1 => ?_⟩
  · exact ml_k wl (fun j => f 323 j (by decide)) (fun j => f 319 j (by decide)) ⟨s0, by omega⟩ (by decide) rfl
  · rw [k t t0 t1]
    have := rv_b wl.2.2.1 (ml_K tm wl) (Int.toNat n) t t0 t1
    omega
theorem ri_k (d : riK m31 m77 c (x4 - 1)) (i : riI m31 m77 m c x4 x) {A : Ab} {T F : Nat → Int} (wl : mlP m31 A T F c) : ∀ s : Int, 0 ≤ s → s < 24 * (A.Y 0 * A.Y 1) → rd m 332 (Int.toNat s) = rvF (mvN A.Y A.r T c) (mk1 A F c) (Int.toNat (x4 - 1)) s := fun s h0 h1 => (i.1.2 _).trans (d.2 A T F wl s h0 h1)
theorem ri_v0 (d : riK m31 m77 c (x4 - 1)) (i : riI m31 m77 m c x4 x) (tm : Ty m31) (h4 : 1 ≤ x4 ∧ x4 ≤ 40) (hx : 0 ≤ x) (nv : ¬ 0 ≤ v) (p : ∀ mv mk L, RLw m mv mk L c → x < L → v = ryF mv mk (fun t => rd m 332 (Int.toNat t)) x 4) : riV m31 c x4 x (-1) := fun A T F wl hl => by
  have k := ri_k d i wl
  have e := p _ _ _ (ri_RLw tm i.1.1 k (by omega) wl) hl
  have cg := rxy_cg (mk := mk1 A F c) wl.2.2.1 (u := fun t => rd m 332 (Int.toNat t)) k ⟨hx, hl⟩ 4 (Nat.le_refl 4)
  rw [cg.2] at e
  have r := (ry_x (u := rvF (mvN A.Y A.r T c) (mk1 A F c) (Int.toNat (x4 - 1))) wl.2.2.1 (ml_K tm wl) ⟨hx, hl⟩).1 (by omega)
  rw [show Int.toNat x4 = Int.toNat (x4 - 1) + 1 by omega]
  exact r.symm
theorem ri_v1 (d : riK m31 m77 c (x4 - 1)) (i : riI m31 m77 m c x4 x) (tm : Ty m31) (h4 : 1 ≤ x4 ∧ x4 ≤ 40) (hx : 0 ≤ x) (nv : 0 ≤ v) (p : ∀ mv mk L, RLw m mv mk L c → x < L → v = ryF mv mk (fun t => rd m 332 (Int.toNat t)) x 4) (ev : w = v) (q : ∀ mv mk L, RLw m mv mk L c → x < L → z = rwV mv mk (fun t => rd m 332 (Int.toNat t)) x w) : riV m31 c x4 x z := fun A T F wl hl => by
  have k := ri_k d i wl
  have RLm := ri_RLw tm i.1.1 k (by omega) wl
  have e := p _ _ _ RLm hl
  have e2 := q _ _ _ RLm hl
  have cg := rxy_cg (mk := mk1 A F c) wl.2.2.1 (u := fun t => rd m 332 (Int.toNat t)) k ⟨hx, hl⟩ 4 (Nat.le_refl 4)
  rw [cg.2] at e
  have r := (ry_x (u := rvF (mvN A.Y A.r T c) (mk1 A F c) (Int.toNat (x4 - 1))) wl.2.2.1 (ml_K tm wl) ⟨hx, hl⟩).2 (by omega)
  rw [← e] at r
  rw [e2, ev, rwV_cg wl.2.2.1 k ⟨hx, hl⟩ ⟨nv, r.1⟩, ← r.2, show Int.toNat x4 = Int.toNat (x4 - 1) + 1 by omega]
  rfl
theorem ri_c {m86 m129 m2 : Mm} {s : Int} (k : riI m31 m77 m86 c x4 x) (e : m129 = m86) (g : riV m31 c x4 x s) (h : 0 ≤ x ∧ z = x + 1) (r : rg s) (e2 : m2 = wt m129 333 (Int.toNat x) s) : riI m31 m77 m2 c x4 z := by
  subst e
  refine ⟨⟨fun i j q => by rw [e2, rd_wt, if_neg (fun w => q (Or.inr w.1))]; exact k.1.1 i j q, fun j => by rw [e2, rd_wt, if_neg (by omega)]; exact k.1.2 j⟩, fun A T F wl s2 h0 h1 h2 => ?_⟩
  rw [e2, rd_wt]
  by_cases q : s2 = x
  · subst q
    rw [if_pos ⟨rfl, rfl⟩, wr_i r]
    exact g A T F wl h2
  · rw [if_neg (by omega)]
    exact k.2 A T F wl s2 h0 (by omega) h2
theorem ri_e {m86 m137 : Mm} (k : riI m31 m77 m86 c x4 x) (ev : v = 24 * (rd m86 293 (Int.toNat (rd m86 284 18)) * rd m86 294 (Int.toNat (rd m86 284 18)))) (hv : v ≤ x) (km : kmP m86 m137) (ez : z = x4 + 1) : riK m31 m137 c (z - 1) := by
  refine ⟨fun i j q => (km.1 i j (fun w => q (Or.inl w))).trans (k.1.1 i j q), fun A T F wl s h0 h1 => ?_⟩
  have en := (ml_N wl k.1.1).2
  rw [km.2 _ (by omega), k.2 A T F wl s h0 (by omega) h1, show z - 1 = x4 by omega]
theorem ric_M1 {A : Ab} {T F : Nat → Int} {m2 : Mm} {q : Nat} {x1 x2 x3 s0 : Int} (tm : Ty m31) (wl : mlP m31 A T F x1) (h2 : 1 ≤ x2 ∧ x2 ≤ 40) (h3 : 0 ≤ x3 ∧ x3 ≤ 1) (d : riK m31 m77 x1 (x4 - 1)) (h4 : x4 = x2) (ez : z = wr (24 * rd m77 323 q)) (eq : q = Int.toNat (43 + x1)) (p : (v = -2 ∨ (0 ≤ v ∧ v ≤ 3)) ∧ (∀ mv mk L, RLw m77 mv mk L x1 → z < L → v = ryF mv mk (fun t => rd m77 332 (Int.toNat t)) z 4) ∧ v = w) (e2 : m2 = m77) (r : (s0 = v ∧ (v < 0 ∨ x3 = 1)) ∨ ((0 ≤ v ∧ ¬ x3 = 1) ∧ ∀ mv mk L, RLw m77 mv mk L x1 → z < L → s0 = rwV mv mk (fun t => rd m77 332 (Int.toNat t)) z v)) : s0 = ricA A T F x1 x2 x3 ∧ mA m2 A := by
  subst e2
  subst h4
  rw [d.1 323 _ (by decide)] at ez
  have zz := gm_z wl ez eq
  have k := d.2 A T F wl
  have RLm := ri_RLw tm d.1 k (by omega) wl
  have e := p.2.1 _ _ _ RLm zz.2.2
  have cg := rxy_cg (mk := mk1 A F x1) wl.2.2.1 (u := fun t => rd m2 332 (Int.toNat t)) k ⟨zz.2.1, zz.2.2⟩ 4 (Nat.le_refl 4)
  rw [cg.2] at e
  refine ⟨?_, ml_mA wl d.1⟩
  unfold ricA
  rw [if_pos ⟨wl.2.2.2.2.2, ⟨by omega, h2.2⟩, h3⟩, ← zz.1, show Int.toNat x4 = Int.toNat (x4 - 1) + 1 by omega]
  show s0 = if ryF (mvN A.Y A.r T x1) (mk1 A F x1) (rvF (mvN A.Y A.r T x1) (mk1 A F x1) (Int.toNat (x4 - 1))) z 4 < 0 then -2 else if x3 = 0 then rxF (mvN A.Y A.r T x1) (mk1 A F x1) (rvF (mvN A.Y A.r T x1) (mk1 A F x1) (Int.toNat (x4 - 1))) z 4 else ryF (mvN A.Y A.r T x1) (mk1 A F x1) (rvF (mvN A.Y A.r T x1) (mk1 A F x1) (Int.toNat (x4 - 1))) z 4
  rw [← e]
  have rx := (ry_x (u := rvF (mvN A.Y A.r T x1) (mk1 A F x1) (Int.toNat (x4 - 1))) wl.2.2.1 (ml_K tm wl) ⟨zz.2.1, zz.2.2⟩).2
  rw [← e] at rx
  rcases r with ⟨r1, r2⟩ | ⟨⟨r1, r2⟩, r3⟩
  · by_cases neg : v < 0
    · rw [if_pos neg]
      omega
    · rw [if_neg neg, if_neg (by omega)]
      exact r1
  · rw [if_neg (by omega), if_pos (by omega), r3 _ _ _ RLm zz.2.2, rwV_cg wl.2.2.1 k ⟨zz.2.1, zz.2.2⟩ ⟨r1, (rx r1).1⟩]
    exact (rx r1).2.symm
theorem ric_M0 {A : Ab} {T F : Nat → Int} {x1 x2 x3 s0 : Int} (wl : mlP m31 A T F x1) (h2 : x2 = 0) (h3 : 0 ≤ x3 ∧ x3 ≤ 1) (e : s0 = if x3 = 0 then 0 else -2) : s0 = ricA A T F x1 x2 x3 ∧ mA m31 A := by
  subst h2
  refine ⟨?_, wl.1.2.1⟩
  unfold ricA
  rw [if_pos ⟨wl.2.2.2.2.2, by omega, h3⟩]
  exact e
end RI
theorem ric_Mn {m m27 : Mm} {A : Ab} {T F : Nat → Int} {x1 x2 x3 : Int} (h : mA m A) (e : m27 = m) (n : ¬ ((0 ≤ x1 ∧ x1 < rd m 302 (Int.toNat (rd m 284 18))) ∧ (0 ≤ x2 ∧ x2 ≤ 40) ∧ 0 ≤ x3 ∧ x3 ≤ 1)) : (-1 : Int) = ricA A T F x1 x2 x3 ∧ mA m27 A := by
  subst e
  rw [h.1.1.2.2.2.1] at n
  refine ⟨?_, h⟩
  unfold ricA
  rw [if_neg (by omega)]
-- TippedCratesModel.richest(III)I
set_option maxRecDepth 20000 in
theorem my_261 {m0 m : Mm} {x1 : Int} {x2 : Int} {x3 : Int}  (g_m : G m0 m) (r_x1 : rg x1) (r_x2 : rg x2) (r_x3 : rg x3) (p0 : MW m0) : CK 5 261 [.ref 284, iv x1, iv x2, iv x3] m (fun m2 v => G m0 m2 ∧ ((True) ∧ (∀ A T F, okY A.Y → okR A.Y A.r → mA m A → tbR m 319 320 F T → v = ricA A T F x1 x2 x3 ∧ mA m2 A))) := by
  refine br_261 r_x1 r_x2 r_x3 ?_
  unfold P_261
  refine CK.mono (ct_210   g_m.1 r_x1) (by decide) ?_
  rintro m2 v2 r_v2 ⟨e_m2, h_m2⟩
  replace e_m2 := e_m2.symm
  subst e_m2
  refine ⟨fun m_27 => G m0 m_27 ∧ (m_27 = m ∧ ¬ ((0 ≤ x1 ∧ x1 < rd m 302 (Int.toNat (rd m 284 18))) ∧ (0 ≤ x2 ∧ x2 ≤ 40) ∧ 0 ≤ x3 ∧ x3 ≤ 1)), ?_, ?_⟩
  · skip
    refine ⟨fun hq => ?_, fun hq => ?_⟩
    · skip
      exact ⟨g_m, by exact ⟨rfl, by omega⟩⟩
    · skip
      refine CK.mono (ct_206   r_x2 (by unfold rg; decide) (by unfold rg; decide)) (by decide) ?_
      rintro m12 v12 r_v12 ⟨e_m12, h_m12⟩
      replace e_m12 := e_m12.symm
      subst e_m12
      refine ⟨fun hq => ?_, fun hq => ?_⟩
      · skip
        exact ⟨g_m, by exact ⟨rfl, by omega⟩⟩
      · skip
        refine CK.mono (ct_206   r_x3 (by unfold rg; decide) (by unfold rg; decide)) (by decide) ?_
        rintro m21 v21 r_v21 ⟨e_m21, h_m21⟩
        replace e_m21 := e_m21.symm
        subst e_m21
        refine ⟨fun hq => ?_, fun hq => ?_⟩
        · skip
          refine CV.mono (my_246   g_m r_x1 p0 (by omega)) (by decide) ?_
          rintro m31 ⟨g_m31, h_m31⟩
          refine ⟨fun hq => ?_, fun hq => ?_⟩
          · skip
            refine ⟨fun x4_52 m_52 => G m0 m_52 ∧ ((0 ≤ x4_52 ∧ x4_52 ≤ 600) ∧ (n32 m31 m_52 ∧ ∀ j : Nat, (j : Int) < x4_52 → rd m_52 332 j = 0)), fun x4_52 m_52 => Int.toNat (600 - x4_52), ?_, ?_⟩
            · exact ⟨g_m31, by exact ⟨by first | omega | (refine ⟨?_, ?_⟩ <;> omega) | trivial, by exact ⟨fun _ _ _ => rfl, fun j hj => by omega⟩⟩⟩
            · intro x4_52 m_52 r_x4_52 hI_52
              obtain ⟨g_m_52, hI_52⟩ := hI_52
              obtain ⟨hI_52, dI_52⟩ := hI_52
              refine ⟨fun hq => ?_, fun hq => ?_⟩
              · skip
                refine ⟨fun x4_77 m_77 => G m0 m_77 ∧ ((1 ≤ x4_77 ∧ x4_77 ≤ 41) ∧ (x4_77 ≤ x2 ∧ riK m31 m_77 x1 (x4_77 - 1))), fun x4_77 m_77 => Int.toNat (41 - x4_77), ?_, ?_⟩
                · exact ⟨g_m_52, by exact ⟨by first | omega | (refine ⟨?_, ?_⟩ <;> omega) | trivial, by exact ⟨by omega, ri_i dI_52 (by omega)⟩⟩⟩
                · intro x4_77 m_77 r_x4_77 hI_77
                  obtain ⟨g_m_77, hI_77⟩ := hI_77
                  obtain ⟨hI_77, dI_77⟩ := hI_77
                  refine ⟨fun hq => ?_, fun hq => ?_⟩
                  · skip
                    try have w1 : wr (43 + x1) = 43 + x1 := wr_id (by omega) (by omega)
                    refine ⟨⟨by omega, by omega⟩, ?_⟩
                    have t2 := tr_323 g_m_77.1 (Int.toNat (wr (43 + x1)))
                    try have w3 : wr (24 * (rd m_77 323 (Int.toNat (wr (43 + x1))))) = 24 * (rd m_77 323 (Int.toNat (wr (43 + x1)))) := wr_id (by omega) (by omega)
                    intro z4_158 e_z4_158
                    have r_z4_158 : rg z4_158 := by rw [e_z4_158]; exact (wr_rg _)
                    refine CK.mono (my_260v g_m_77.1 r_x1 r_z4_158 (by omega) (by omega)) (by decide) ?_
                    rintro m164 v164 r_v164 ⟨e_m164, h_m164⟩
                    replace e_m164 := e_m164.symm
                    subst e_m164
                    refine ⟨fun s0_193 m_193 => G m0 m_193 ∧ (m_193 = m_77 ∧ ((s0_193 = v164 ∧ (v164 < 0 ∨ x3 = 1)) ∨ ((0 ≤ v164 ∧ ¬ x3 = 1) ∧ (∀ mv mk L, RLw m_77 mv mk L x1 → z4_158 < L → s0_193 = rwV mv mk (fun t => rd m_77 332 (Int.toNat t)) z4_158 v164)))), ?_, ?_⟩
                    · skip
                      refine ⟨v164 < 0 ∨ x3 = 1, ?_, ?_⟩
                      · skip
                        refine ⟨fun hq => ?_, fun hq => ?_⟩
                        · skip
                          (omega)
                        · skip
                          refine ⟨fun hq => ?_, fun hq => ?_⟩
                          · skip
                            refine CK.mono (my_259   g_m_77.1 r_x1 r_z4_158 r_v164 (by omega) (by omega) (by omega)) (by decide) ?_
                            rintro m190 v190 r_v190 ⟨e_m190, h_m190⟩
                            replace e_m190 := e_m190.symm
                            subst e_m190
                            exact ⟨g_m_77, by first | (have u := h_m190; exact ⟨rfl, Or.inr ⟨by omega, h_m190.2⟩⟩) | exact ⟨rfl, Or.inl ⟨rfl, hR_179⟩⟩⟩
                          · skip
                            (omega)
                      · intro   hR_179
                        exact ⟨g_m_77, by first | (have u := h_m190; exact ⟨rfl, Or.inr ⟨by omega, h_m190.2⟩⟩) | exact ⟨rfl, Or.inl ⟨rfl, hR_179⟩⟩⟩
                    · intro s0_193 m_193 r_s0_193 hR_193
                      obtain ⟨g_m_193, hR_193⟩ := hR_193
                      exact ⟨g_m_193, by exact ⟨by first | trivial | omega | (refine ⟨?_, ?_⟩ <;> omega), by first | (have u := hR_193; exact fun A T F oY oR h tb => ric_M1 g_m31.1 (ml_A h oY oR (ty_284_18 g_m.1) (te_x h oY (by omega)) tb g_m h_m31.2) (by omega) (by omega) dI_77.2 (by omega) e_z4_158 (by omega) h_m164 hR_193.1 hR_193.2) | (have u := hR_48; exact fun A T F oY oR h tb => ric_M0 (ml_A h oY oR (ty_284_18 g_m.1) (te_x h oY (by omega)) tb g_m h_m31.2) (by omega) (by omega) hR_48) | exact fun A T F oY oR h tb => ric_Mn h hR_27.1 hR_27.2⟩⟩
                  · skip
                    refine ⟨fun x5_86 m_86 => G m0 m_86 ∧ ((0 ≤ x5_86 ∧ x5_86 ≤ 600) ∧ (riI m31 m_77 m_86 x1 x4_77 x5_86)), fun x5_86 m_86 => Int.toNat (600 - x5_86), ?_, ?_⟩
                    · exact ⟨g_m_77, by exact ⟨by first | omega | (refine ⟨?_, ?_⟩ <;> omega) | trivial, by exact ri_a dI_77.2⟩⟩
                    · intro x5_86 m_86 r_x5_86 hI_86
                      obtain ⟨g_m_86, hI_86⟩ := hI_86
                      obtain ⟨hI_86, dI_86⟩ := hI_86
                      refine CK.mono (my_247   g_m_86.1 (MW_G p0 g_m_86)) (by decide) ?_
                      rintro m89 v89 r_v89 ⟨e_m89, h_m89⟩
                      replace e_m89 := e_m89.symm
                      subst e_m89
                      refine ⟨fun hq => ?_, fun hq => ?_⟩
                      · skip
                        refine CV.mono (my_258   g_m_86 p0) (by decide) ?_
                        rintro m137 ⟨g_m137, h_m137⟩
                        try have w4 : wr (x4_77 + 1) = x4_77 + 1 := wr_id (by omega) (by omega)
                        intro z4_140 e_z4_140
                        have r_z4_140 : rg z4_140 := by rw [e_z4_140]; exact wr_rg _
                        exact ⟨⟨g_m137, by exact ⟨by first | omega | (refine ⟨?_, ?_⟩ <;> omega) | trivial, by exact ⟨by omega, ri_e dI_86 h_m89.2 (by omega) h_m137.2 (by omega)⟩⟩⟩, by (try dsimp only); omega⟩
                      · skip
                        refine CK.mono (my_260v g_m_86.1 r_x1 r_x5_86 (by omega) (by omega)) (by decide) ?_
                        rintro m105 v105 r_v105 ⟨e_m105, h_m105⟩
                        replace e_m105 := e_m105.symm
                        subst e_m105
                        refine ⟨fun s2_129 m_129 => G m0 m_129 ∧ (m_129 = m_86 ∧ riV m31 x1 x4_77 x5_86 s2_129), ?_, ?_⟩
                        · skip
                          refine ⟨fun hq => ?_, fun hq => ?_⟩
                          · skip
                            refine CK.mono (my_260v g_m_86.1 r_x1 r_x5_86 (by omega) (by omega)) (by decide) ?_
                            rintro m123 v123 r_v123 ⟨e_m123, h_m123⟩
                            replace e_m123 := e_m123.symm
                            subst e_m123
                            refine CK.mono (my_259   g_m_86.1 r_x1 r_x5_86 r_v123 (by omega) (by omega) (by omega)) (by decide) ?_
                            rintro m126 v126 r_v126 ⟨e_m126, h_m126⟩
                            replace e_m126 := e_m126.symm
                            subst e_m126
                            exact ⟨g_m_86, by first | (have u := h_m126; exact ⟨rfl, ri_v1 dI_77.2 dI_86 g_m31.1 (by omega) (by omega) (by assumption) h_m105.2.1 (h_m123.2.2.trans h_m105.2.2.symm) h_m126.2⟩) | exact ⟨rfl, ri_v0 dI_77.2 dI_86 g_m31.1 (by omega) (by omega) (by assumption) h_m105.2.1⟩⟩
                          · skip
                            exact ⟨g_m_86, by first | (have u := h_m126; exact ⟨rfl, ri_v1 dI_77.2 dI_86 g_m31.1 (by omega) (by omega) (by assumption) h_m105.2.1 (h_m123.2.2.trans h_m105.2.2.symm) h_m126.2⟩) | exact ⟨rfl, ri_v0 dI_77.2 dI_86 g_m31.1 (by omega) (by omega) (by assumption) h_m105.2.1⟩⟩
                        · intro s2_129 m_129 r_s2_129 hR_129
                          obtain ⟨g_m_129, hR_129⟩ := hR_129
                          refine ⟨⟨by omega, by omega⟩, ?_⟩
                          intro m129 e_m129
                          have g_m129 : G m0 m129 := by rw [e_m129]; exact GX.wt g_m_129 (tw_333 g_m_129.1 (by first | assumption | omega)) (Eq.refl true)
                          try have w5 : wr (x5_86 + 1) = x5_86 + 1 := wr_id (by omega) (by omega)
                          intro z5_130 e_z5_130
                          have r_z5_130 : rg z5_130 := by rw [e_z5_130]; exact wr_rg _
                          exact ⟨⟨g_m129, by exact ⟨by first | omega | (refine ⟨?_, ?_⟩ <;> omega) | trivial, by exact ri_c dI_86 hR_129.1 hR_129.2 (by omega) r_s2_129 e_m129⟩⟩, by (try dsimp only); omega⟩
              · skip
                refine ⟨⟨by omega, by omega⟩, ?_⟩
                intro m67 e_m67
                have g_m67 : G m0 m67 := by rw [e_m67]; exact GX.wt g_m_52 (tw_332 g_m_52.1 (by first | assumption | omega)) (Eq.refl true)
                try have w6 : wr (x4_52 + 1) = x4_52 + 1 := wr_id (by omega) (by omega)
                intro z4_68 e_z4_68
                have r_z4_68 : rg z4_68 := by rw [e_z4_68]; exact wr_rg _
                exact ⟨⟨g_m67, by exact ⟨by first | omega | (refine ⟨?_, ?_⟩ <;> omega) | trivial, by exact ri_f dI_52 (by omega) e_m67⟩⟩, by (try dsimp only); omega⟩
          · skip
            refine ⟨fun s0_48 => s0_48 = if x3 = 0 then 0 else -2, ?_, ?_⟩
            · skip
              refine ⟨fun hq => ?_, fun hq => ?_⟩
              · skip
                (first | exact (if_pos (by assumption)).symm | exact (if_neg (by assumption)).symm)
              · skip
                (first | exact (if_pos (by assumption)).symm | exact (if_neg (by assumption)).symm)
            · intro s0_48 r_s0_48 hR_48
              exact ⟨g_m31, by exact ⟨by first | trivial | omega | (refine ⟨?_, ?_⟩ <;> omega), by first | (have u := hR_193; exact fun A T F oY oR h tb => ric_M1 g_m31.1 (ml_A h oY oR (ty_284_18 g_m.1) (te_x h oY (by omega)) tb g_m h_m31.2) (by omega) (by omega) dI_77.2 (by omega) e_z4_158 (by omega) h_m164 hR_193.1 hR_193.2) | (have u := hR_48; exact fun A T F oY oR h tb => ric_M0 (ml_A h oY oR (ty_284_18 g_m.1) (te_x h oY (by omega)) tb g_m h_m31.2) (by omega) (by omega) hR_48) | exact fun A T F oY oR h tb => ric_Mn h hR_27.1 hR_27.2⟩⟩
        · skip
          exact ⟨g_m, by exact ⟨rfl, by omega⟩⟩
  · intro m_27  hR_27
    obtain ⟨g_m_27, hR_27⟩ := hR_27
    exact ⟨g_m_27, by exact ⟨by first | trivial | omega | (refine ⟨?_, ?_⟩ <;> omega), by first | (have u := hR_193; exact fun A T F oY oR h tb => ric_M1 g_m31.1 (ml_A h oY oR (ty_284_18 g_m.1) (te_x h oY (by omega)) tb g_m h_m31.2) (by omega) (by omega) dI_77.2 (by omega) e_z4_158 (by omega) h_m164 hR_193.1 hR_193.2) | (have u := hR_48; exact fun A T F oY oR h tb => ric_M0 (ml_A h oY oR (ty_284_18 g_m.1) (te_x h oY (by omega)) tb g_m h_m31.2) (by omega) (by omega) hR_48) | exact fun A T F oY oR h tb => ric_Mn h hR_27.1 hR_27.2⟩⟩
