def w5 (m m2 : Mm) : Prop := ∀ i j : Nat, ¬ (39 ≤ i ∧ i ≤ 43) → rd m2 i j = rd m i j
theorem w5.trans {a b c : Mm} (h : w5 a b) (k : w5 b c) : w5 a c := fun i j q => (k i j q).trans (h i j q)
theorem wk_C {m m20 m28 m53 m60 m67 : Mm} {x1 x2 x3 s2 : Int} (lt : (0 ≤ rd m 39 0 ∧ rd m 39 0 < 600) ∧ 0 ≤ x1) (r1 : rg x1) (r2 : rg s2) (e20 : m20 = wt m 40 (Int.toNat (rd m 39 0)) x1) (e28 : m28 = wt m20 39 0 (wr (rd m20 39 0 + 1))) (es : (¬ x2 = -1 ∧ s2 = wr (rd m28 41 (Int.toNat x2) + 1)) ∨ (x2 = -1 ∧ s2 = 0)) (e53 : m53 = wt m28 41 (Int.toNat x1) s2) (e60 : m60 = wt m53 42 (Int.toNat x1) x2) (e67 : m67 = wt m60 43 (Int.toNat x1) x3) : w5 m m67 ∧ ∀ W, wkR m 39 0 40 41 W → wkR m67 39 0 40 41 (vis W x1 (if x2 = -1 then 0 else wr (rd m 41 (Int.toNat x2) + 1))) := by
  have F28 : ∀ i j : Nat, ¬ i = 40 → ¬ i = 39 → rd m28 i j = rd m i j := fun i j q p => by rw [e28, rd_wt, if_neg (by omega), e20, rd_wt, if_neg (by omega)]
  have es2 : s2 = if x2 = -1 then 0 else wr (rd m 41 (Int.toNat x2) + 1) := by
    rcases es with ⟨a, b⟩ | ⟨a, b⟩
    · rw [if_neg a, b, F28 41 _ (by omega) (by omega)]
    · rw [if_pos a]; exact b
  have F67 : ∀ i j : Nat, ¬ i = 41 → ¬ i = 42 → ¬ i = 43 → rd m67 i j = rd m28 i j := fun i j h1 h2 h3 => by rw [e67, rd_wt, if_neg (by omega), e60, rd_wt, if_neg (by omega), e53, rd_wt, if_neg (by omega)]
  refine ⟨fun i j q => by rw [F67 i j (by omega) (by omega) (by omega), F28 i j (by omega) (by omega)], fun W h => ?_⟩
  rw [← es2]
  refine wkR_vis h lt.1.2 lt.1.1 ?_ (fun j => ?_) (fun j => ?_)
  · rw [F67 39 0 (by omega) (by omega) (by omega), e28, rd_wt, if_pos ⟨rfl, rfl⟩, wr_i (wr_rg _), e20, rd_wt, if_neg (by omega), wr_id (by omega) (by omega)]
  · rw [F67 40 j (by omega) (by omega) (by omega), e28, rd_wt, if_neg (by omega), e20, rd_wt]
    by_cases q : j = Int.toNat (rd m 39 0)
    · rw [if_pos ⟨rfl, q⟩, if_pos q, wr_i r1]
    · rw [if_neg (fun w => q w.2), if_neg q]
  · rw [e67, rd_wt, if_neg (by omega), e60, rd_wt, if_neg (by omega), e53, rd_wt]
    by_cases q : j = Int.toNat x1
    · rw [if_pos ⟨rfl, q⟩, if_pos q, wr_i r2]
    · rw [if_neg (fun w => q w.2), if_neg q, F28 41 j (by omega) (by omega)]
/-- the way that 'tipped' goes is mv -/
def agm (m : Mm) (mv : Int → Int → Int) (N : Int) : Prop := ∀ s k v : Int, 0 ≤ s → s < N → 0 ≤ k → k ≤ 3 → tpP m s k v → v = mv s k
theorem tpP_fr {m m2 : Mm} {s k v : Int} (f : w5 m m2) (h : tpP m2 s k v) : tpP m s k v := by
  unfold tpP at h ⊢
  rw [f 37 _ (by omega), f 33 _ (by omega)] at h
  exact h
section WVC
variable {m m45 m89 : Mm} {mv : Int → Int → Int} {N s k v : Int} {W : Wk}
theorem wv_0 (ag : agm m mv N) (f : w5 m m45) (h : wkR m45 39 0 40 41 W) (s0 : 0 ≤ s) (s1 : s < N) (hk : 0 ≤ k ∧ k ≤ 3) (p : tpP m45 s k v) (z : v = -1) : wkR m45 39 0 40 41 (vk mv W s k) := by
  have e := ag s k v s0 s1 hk.1 hk.2 (tpP_fr f p)
  unfold vk
  rw [if_pos (e.symm.trans z)]
  exact h
theorem wv_n (ag : agm m mv N) (f : w5 m m45) (h : wkR m45 39 0 40 41 W) (s0 : 0 ≤ s) (s1 : s < N) (hk : 0 ≤ k ∧ k ≤ 3) (p : tpP m45 s k v) (hv : 0 ≤ v ∧ v < 600) (z : ¬ rd m45 41 (Int.toNat v) = -1) : wkR m45 39 0 40 41 (vk mv W s k) := by
  have e := ag s k v s0 s1 hk.1 hk.2 (tpP_fr f p)
  unfold vk
  rw [← e, if_neg (by omega), if_neg (fun w => z ((h.2.2 _ (by omega)).trans w))]
  exact h
theorem wv_C (ag : agm m mv N) (f : w5 m m45) (h : wkR m45 39 0 40 41 W) (s0 : 0 ≤ s) (s1 : s < N) (hk : 0 ≤ k ∧ k ≤ 3) (p : tpP m45 s k v) (hv : (0 ≤ v ∧ v < 600) ∧ (0 ≤ s ∧ s < 600)) (z : rd m45 41 (Int.toNat v) = -1) (q : ∀ W, wkR m45 39 0 40 41 W → wkR m89 39 0 40 41 (vis W v (if s = -1 then 0 else wr (rd m45 41 (Int.toNat s) + 1)))) : wkR m89 39 0 40 41 (vk mv W s k) := by
  have e := ag s k v s0 s1 hk.1 hk.2 (tpP_fr f p)
  unfold vk
  rw [← e, if_neg (by omega), if_pos ((h.2.2 _ (by omega)).symm.trans z)]
  have t := q W h
  rw [if_neg (by omega), h.2.2 (Int.toNat s) (by omega)] at t
  exact t
end WVC
def wi28 (m m2 : Mm) (x : Int) : Prop := ∀ mv N, agm m mv N → cloN mv N → 0 ≤ rd m 36 1 → rd m 36 1 < N → ∃ W, okWk N W ∧ wkR m2 39 0 40 41 W ∧ vr mv (Int.toNat (600 - x)) (Int.toNat x) W = FIN mv (rd m 36 1)
def wi45 (m m2 : Mm) (x y : Int) : Prop := ∀ mv N, agm m mv N → cloN mv N → 0 ≤ rd m 36 1 → rd m 36 1 < N → ∃ W, okWk N W ∧ x < W 0 0 ∧ wkR m2 39 0 40 41 (v4 mv W (W 1 (Int.toNat x)) (Int.toNat y)) ∧ vr mv (Int.toNat (600 - x)) (Int.toNat x) W = FIN mv (rd m 36 1)
/-- all that is come to stands in the rows -/
def wfP (m m2 : Mm) : Prop := w5 m m2 ∧ ∀ mv N, agm m mv N → cloN mv N → 0 ≤ rd m 36 1 → rd m 36 1 < N → okWk N (FIN mv (rd m 36 1)) ∧ wkR m2 39 0 40 41 (FIN mv (rd m 36 1))
theorem wk_i {m m5 m10 m23 : Mm} (e5 : m5 = flm m 41 600 (-1)) (e10 : m10 = wt m5 39 0 0) (q : w5 m10 m23 ∧ ∀ W, wkR m10 39 0 40 41 W → wkR m23 39 0 40 41 (vis W (rd m10 36 1) (if (-1 : Int) = -1 then 0 else wr (rd m10 41 (Int.toNat (-1)) + 1)))) : w5 m m23 ∧ wi28 m m23 0 := by
  have F : w5 m m10 := fun i j h => by rw [e10, rd_wt, if_neg (by omega), e5, rd_flm, if_neg (by omega)]
  refine ⟨F.trans q.1, fun mv N ag cl s0 s1 => ⟨vis w00 (rd m 36 1) 0, ?_, ?_, rfl⟩⟩
  · exact vis_ok (okW_0 N) ⟨s0, s1⟩ ⟨Int.le_refl _, Int.le_refl _⟩
  · have t := q.2 w00 ⟨by rw [e10, rd_wt, if_pos ⟨rfl, rfl⟩]; rfl, fun j hj => by
      have h : (j : Int) < 0 := hj
      omega, fun j hj => by rw [e10, rd_wt, if_neg (by omega), e5, rd_flm, if_pos ⟨rfl, hj⟩]; rfl⟩
    rw [if_pos rfl, F 36 1 (by omega)] at t
    exact t
theorem wi_a {m m28 : Mm} {x : Int} (h : wi28 m m28 x) (hx : x < rd m28 39 0) : wi45 m m28 x 0 := fun mv N ag cl s0 s1 => by
  obtain ⟨W, a, b, c⟩ := h mv N ag cl s0 s1
  exact ⟨W, a, by rw [← b.1]; exact hx, b, c⟩
theorem wi_b {m m45 m92 : Mm} {x y z : Int} (d : w5 m m45 ∧ wi45 m m45 x y) (q : w5 m45 m92 ∧ ∀ mv N, agm m mv N → cloN mv N → ∀ W, okWk N W → wkR m45 39 0 40 41 W → 0 ≤ rd m45 40 (Int.toNat x) → rd m45 40 (Int.toNat x) < N → wkR m92 39 0 40 41 (vk mv W (rd m45 40 (Int.toNat x)) y)) (hx : 0 ≤ x) (hy : (0 ≤ y ∧ y ≤ 3) ∧ z = y + 1) : w5 m m92 ∧ wi45 m m92 x z := by
  refine ⟨d.1.trans q.1, fun mv N ag cl s0 s1 => ?_⟩
  obtain ⟨W, a, b, c, e⟩ := d.2 mv N ag cl s0 s1
  have r := a.2.1 (Int.toNat x) (by omega)
  have o4 := v4_ok cl a r (a.2.2.2 (Int.toNat x) (by omega)) (Int.toNat y) (by omega)
  have l4 := v4_le (mv := mv) (W := W) (s := W 1 (Int.toNat x)) (Int.toNat y)
  have es : rd m45 40 (Int.toNat x) = W 1 (Int.toNat x) := (c.2.1 (Int.toNat x) (by omega)).trans (v4_1 a.1.1 (by omega) _)
  have t := q.2 mv N ag cl _ o4 c (by rw [es]; exact r.1) (by rw [es]; exact r.2)
  rw [es] at t
  refine ⟨W, a, b, ?_, e⟩
  rw [show Int.toNat z = Int.toNat y + 1 by omega]
  show wkR m92 39 0 40 41 (vk mv (v4 mv W (W 1 (Int.toNat x)) (Int.toNat y)) (W 1 (Int.toNat x)) ((Int.toNat y : Nat) : Int))
  rw [show ((Int.toNat y : Nat) : Int) = y by omega]
  exact t
theorem wi_c {m m45 : Mm} {x y z : Int} (h : wi45 m m45 x y) (hy : y = 4 ∧ 0 ≤ x ∧ x < 600) (ez : z = x + 1) : wi28 m m45 z := fun mv N ag cl s0 s1 => by
  obtain ⟨W, a, b, c, d⟩ := h mv N ag cl s0 s1
  have r := a.2.1 (Int.toNat x) (by omega)
  refine ⟨v4 mv W (W 1 (Int.toNat x)) 4, v4_ok cl a r (a.2.2.2 (Int.toNat x) (by omega)) 4 (Nat.le_refl _), by rw [hy.1] at c; exact c, ?_⟩
  rw [← d]
  exact (vr_s hy.2.1 hy.2.2 b ez).symm
theorem wi_d {m m28 : Mm} {x : Int} (h : wi28 m m28 x) (hx : 0 ≤ x) (c : rd m28 39 0 ≤ x ∨ 600 ≤ x) : ∀ mv N, agm m mv N → cloN mv N → 0 ≤ rd m 36 1 → rd m 36 1 < N → okWk N (FIN mv (rd m 36 1)) ∧ wkR m28 39 0 40 41 (FIN mv (rd m 36 1)) := fun mv N ag cl s0 s1 => by
  obtain ⟨W, a, b, d⟩ := h mv N ag cl s0 s1
  rw [vr_e hx (by rw [← b.1]; exact c)] at d
  rw [← d]
  exact ⟨a, b⟩
-- TippedCrates$Walks.comeTo(III)V
set_option maxRecDepth 20000 in
theorem fy_106 {m0 m : Mm} {x1 : Int} {x2 : Int} {x3 : Int}  (g_m : G m0 m) (r_x1 : rg x1) (r_x2 : rg x2) (r_x3 : rg x3) (p0 : 0 ≤ x1 ∧ x1 ≤ 599) (p1 : -1 ≤ x2 ∧ x2 ≤ 599) : CV 1 106 [.ref 39, iv x1, iv x2, iv x3] m (fun m2 => G m0 m2 ∧ ((True) ∧ (w5 m m2 ∧ ∀ W, wkR m 39 0 40 41 W → wkR m2 39 0 40 41 (vis W x1 (if x2 = -1 then 0 else wr (rd m 41 (Int.toNat x2) + 1)))))) := by
  refine br_106 r_x1 r_x2 r_x3 ?_
  unfold P_106
  have t1 := ty_39_0 g_m.1
  refine ⟨fun hq => ?_, fun hq => ?_⟩
  · skip
    refine ⟨⟨by omega, by omega⟩, ?_⟩
    intro m20 e_m20
    have g_m20 : G m0 m20 := by rw [e_m20]; exact GX.wt g_m (tw_40 g_m.1 ⟨by omega, by omega⟩) (Eq.refl true)
    have e20 : rd m20 39 0 = rd m 39 0 := by rw [e_m20, rd_wt, if_neg (by omega)]
    have t2 := ty_39_0 g_m20.1
    try have w3 : wr ((rd m20 39 0) + 1) = (rd m20 39 0) + 1 := wr_id (by omega) (by omega)
    intro m28 e_m28
    have g_m28 : G m0 m28 := by rw [e_m28]; exact GX.wt g_m20 (tw_39_0 g_m20.1 ⟨by omega, by omega⟩) (Eq.refl true)
    refine ⟨fun s2_53 => (¬ x2 = -1 ∧ s2_53 = wr (rd m28 41 (Int.toNat x2) + 1)) ∨ (x2 = -1 ∧ s2_53 = 0), ?_, ?_⟩
    · skip
      refine ⟨fun hq => ?_, fun hq => ?_⟩
      · skip
        refine ⟨⟨by omega, by omega⟩, ?_⟩
        try have w5 : wr ((rd m28 41 (Int.toNat x2)) + 1) = (rd m28 41 (Int.toNat x2)) + 1 := wr_id (by omega) (by omega)
        (first | exact Or.inl ⟨by assumption, rfl⟩ | exact Or.inr ⟨by assumption, rfl⟩)
      · skip
        (first | exact Or.inl ⟨by assumption, rfl⟩ | exact Or.inr ⟨by assumption, rfl⟩)
    · intro s2_53 r_s2_53 hR_53
      refine ⟨⟨by omega, by omega⟩, ?_⟩
      intro m53 e_m53
      have g_m53 : G m0 m53 := by rw [e_m53]; exact GX.wt g_m28 (tw_41 g_m28.1 (by first | assumption | omega)) (Eq.refl true)
      refine ⟨⟨by omega, by omega⟩, ?_⟩
      intro m60 e_m60
      have g_m60 : G m0 m60 := by rw [e_m60]; exact GX.wt g_m53 (tw_42 g_m53.1 ⟨by omega, by omega⟩) (Eq.refl true)
      refine ⟨⟨by omega, by omega⟩, ?_⟩
      intro m67 e_m67
      have g_m67 : G m0 m67 := by rw [e_m67]; exact GX.wt g_m60 (tw_43 g_m60.1 (by first | assumption | omega)) (Eq.refl true)
      exact ⟨g_m67, by exact ⟨by first | trivial | omega | (refine ⟨?_, ?_⟩ <;> omega), by first | (have u := e_m67; exact wk_C (by omega) r_x1 r_s2_53 e_m20 e_m28 hR_53 e_m53 e_m60 e_m67) | exact ⟨fun _ _ _ => rfl, fun W h => by unfold vis; rw [if_neg (by rw [← h.1]; assumption)]; exact h⟩⟩⟩
  · skip
    exact ⟨g_m, by exact ⟨by first | trivial | omega | (refine ⟨?_, ?_⟩ <;> omega), by first | (have u := e_m67; exact wk_C (by omega) r_x1 r_s2_53 e_m20 e_m28 hR_53 e_m53 e_m60 e_m67) | exact ⟨fun _ _ _ => rfl, fun W h => by unfold vis; rw [if_neg (by rw [← h.1]; assumption)]; exact h⟩⟩⟩
-- TippedCrates$Walks.walkAll()V
set_option maxRecDepth 20000 in
theorem fy_105 {m0 m : Mm}   (g_m : G m0 m)   : CV 2 105 [.ref 39] m (fun m2 => G m0 m2 ∧ ((True) ∧ (wfP m m2))) := by
  refine br_105  ?_
  unfold P_105
  refine CV.mono (ct_299   ir_41 (by unfold rg; decide)) (by decide) ?_
  rintro m5 ⟨hx_m5, h_m5⟩
  have g_m5 : G m0 m5 := by rw [hx_m5]; exact gf_41 g_m ⟨by omega, by omega⟩
  intro m10 e_m10
  have g_m10 : G m0 m10 := by rw [e_m10]; exact GX.wt g_m5 (tw_39_0 g_m5.1 ⟨by omega, by omega⟩) (Eq.refl true)
  have t1 := ty_36_1 g_m10.1
  refine CV.mono (fy_106   g_m10 (rd_rg _ _ _) (by unfold rg; decide) (by unfold rg; decide) (by omega) (by omega)) (by decide) ?_
  rintro m23 ⟨g_m23, h_m23⟩
  refine ⟨fun x1_28 m_28 => G m0 m_28 ∧ ((0 ≤ x1_28 ∧ x1_28 ≤ 600) ∧ (w5 m m_28 ∧ wi28 m m_28 x1_28)), fun x1_28 m_28 => Int.toNat (600 - x1_28), ?_, ?_⟩
  · exact ⟨g_m23, by exact ⟨by first | omega | (refine ⟨?_, ?_⟩ <;> omega) | trivial, by exact wk_i hx_m5 e_m10 h_m23.2⟩⟩
  · intro x1_28 m_28 r_x1_28 hI_28
    obtain ⟨g_m_28, hI_28⟩ := hI_28
    obtain ⟨hI_28, dI_28⟩ := hI_28
    have t2 := ty_39_0 g_m_28.1
    refine ⟨rd m_28 39 0 ≤ x1_28 ∨ 600 ≤ x1_28, ?_, ?_⟩
    · skip
      refine ⟨fun hq => ?_, fun hq => ?_⟩
      · skip
        (first | exact Or.inl (by assumption) | exact Or.inr (by assumption))
      · skip
        refine ⟨fun hq => ?_, fun hq => ?_⟩
        · skip
          (first | exact Or.inl (by assumption) | exact Or.inr (by assumption))
        · skip
          refine ⟨fun x2_45 m_45 => G m0 m_45 ∧ ((0 ≤ x2_45 ∧ x2_45 ≤ 4) ∧ (w5 m m_45 ∧ wi45 m m_45 x1_28 x2_45)), fun x2_45 m_45 => Int.toNat (4 - x2_45), ?_, ?_⟩
          · exact ⟨g_m_28, by exact ⟨by first | omega | (refine ⟨?_, ?_⟩ <;> omega) | trivial, by exact ⟨dI_28.1, wi_a dI_28.2 (by omega)⟩⟩⟩
          · intro x2_45 m_45 r_x2_45 hI_45
            obtain ⟨g_m_45, hI_45⟩ := hI_45
            obtain ⟨hI_45, dI_45⟩ := hI_45
            refine ⟨fun hq => ?_, fun hq => ?_⟩
            · skip
              try have w3 : wr (x1_28 + 1) = x1_28 + 1 := wr_id (by omega) (by omega)
              intro z1_98 e_z1_98
              have r_z1_98 : rg z1_98 := by rw [e_z1_98]; exact wr_rg _
              exact ⟨⟨g_m_45, by exact ⟨by first | omega | (refine ⟨?_, ?_⟩ <;> omega) | trivial, by exact ⟨dI_45.1, wi_c dI_45.2 (by omega) (by omega)⟩⟩⟩, by (try dsimp only); omega⟩
            · skip
              refine ⟨⟨by omega, by omega⟩, ?_⟩
              have t4 := ty_40 g_m_45.1 (Int.toNat x1_28)
              refine CK.mono (ct_71   g_m_45.1 (rd_rg _ _ _) r_x2_45 (by omega) (by omega)) (by decide) ?_
              rintro m61 v61 r_v61 ⟨e_m61, h_m61⟩
              replace e_m61 := e_m61.symm
              subst e_m61
              refine ⟨fun m_92 => G m0 m_92 ∧ (w5 m_45 m_92 ∧ ∀ mv N, agm m mv N → cloN mv N → ∀ W, okWk N W → wkR m_45 39 0 40 41 W → 0 ≤ rd m_45 40 (Int.toNat x1_28) → rd m_45 40 (Int.toNat x1_28) < N → wkR m_92 39 0 40 41 (vk mv W (rd m_45 40 (Int.toNat x1_28)) x2_45)), ?_, ?_⟩
              · skip
                refine ⟨fun hq => ?_, fun hq => ?_⟩
                · skip
                  exact ⟨g_m_45, by first | (have u := h_m89; exact ⟨h_m89.2.1, fun mv N ag cl W oW h s0 s1 => wv_C ag dI_45.1 h s0 s1 (by omega) h_m61.2.2 (by omega) (by assumption) h_m89.2.2⟩) | exact ⟨fun _ _ _ => rfl, fun mv N ag cl W oW h s0 s1 => wv_n ag dI_45.1 h s0 s1 (by omega) h_m61.2.2 (by omega) (by assumption)⟩ | exact ⟨fun _ _ _ => rfl, fun mv N ag cl W oW h s0 s1 => wv_0 ag dI_45.1 h s0 s1 (by omega) h_m61.2.2 (by assumption)⟩⟩
                · skip
                  refine ⟨⟨by omega, by omega⟩, ?_⟩
                  refine ⟨fun hq => ?_, fun hq => ?_⟩
                  · skip
                    exact ⟨g_m_45, by first | (have u := h_m89; exact ⟨h_m89.2.1, fun mv N ag cl W oW h s0 s1 => wv_C ag dI_45.1 h s0 s1 (by omega) h_m61.2.2 (by omega) (by assumption) h_m89.2.2⟩) | exact ⟨fun _ _ _ => rfl, fun mv N ag cl W oW h s0 s1 => wv_n ag dI_45.1 h s0 s1 (by omega) h_m61.2.2 (by omega) (by assumption)⟩ | exact ⟨fun _ _ _ => rfl, fun mv N ag cl W oW h s0 s1 => wv_0 ag dI_45.1 h s0 s1 (by omega) h_m61.2.2 (by assumption)⟩⟩
                  · skip
                    refine ⟨⟨by omega, by omega⟩, ?_⟩
                    refine CV.mono (fy_106   g_m_45 r_v61 (rd_rg _ _ _) r_x2_45 (by omega) (by omega)) (by decide) ?_
                    rintro m89 ⟨g_m89, h_m89⟩
                    exact ⟨g_m89, by first | (have u := h_m89; exact ⟨h_m89.2.1, fun mv N ag cl W oW h s0 s1 => wv_C ag dI_45.1 h s0 s1 (by omega) h_m61.2.2 (by omega) (by assumption) h_m89.2.2⟩) | exact ⟨fun _ _ _ => rfl, fun mv N ag cl W oW h s0 s1 => wv_n ag dI_45.1 h s0 s1 (by omega) h_m61.2.2 (by omega) (by assumption)⟩ | exact ⟨fun _ _ _ => rfl, fun mv N ag cl W oW h s0 s1 => wv_0 ag dI_45.1 h s0 s1 (by omega) h_m61.2.2 (by assumption)⟩⟩
              · intro m_92  hR_92
                obtain ⟨g_m_92, hR_92⟩ := hR_92
                try have w6 : wr (x2_45 + 1) = x2_45 + 1 := wr_id (by omega) (by omega)
                intro z2_92 e_z2_92
                have r_z2_92 : rg z2_92 := by rw [e_z2_92]; exact wr_rg _
                exact ⟨⟨g_m_92, by exact ⟨by first | omega | (refine ⟨?_, ?_⟩ <;> omega) | trivial, by exact wi_b dI_45 hR_92 (by omega) (by omega)⟩⟩, by (try dsimp only); omega⟩
    · intro   hR_104
      exact ⟨g_m_28, by exact ⟨by first | trivial | omega | (refine ⟨?_, ?_⟩ <;> omega), by exact ⟨dI_28.1, wi_d dI_28.2 (by omega) hR_104⟩⟩⟩
