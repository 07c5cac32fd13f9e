/-- a row of 51 is copied -/
def cpI (m m2 : Mm) (a b oa ob : Nat) (x : Int) : Prop := (∀ i j : Nat, ¬ (i = a ∧ oa ≤ j ∧ j < oa + 51) → rd m2 i j = rd m i j) ∧ ∀ j : Nat, (j : Int) < x → rd m2 a (oa + j) = rd m b (ob + j)
theorem cpI_0 {m : Mm} {a b oa ob : Nat} : cpI m m a b oa ob 0 := ⟨fun _ _ _ => rfl, fun j h => by omega⟩
theorem cpI_s {m m2 m3 : Mm} {a b oa ob t u : Nat} {x z : Int} (h : cpI m m2 a b oa ob x) (ne : ¬ a = b) (hx : 0 ≤ x ∧ x < 51) (e : m3 = wt m2 a t (rd m2 b u)) (et : t = oa + Int.toNat x) (eu : u = ob + Int.toNat x) (ez : z = x + 1) : cpI m m3 a b oa ob z := by
  subst et eu
  refine ⟨fun i j q => by rw [e, rd_wt, if_neg (by omega)]; exact h.1 i j q, fun j hj => ?_⟩
  rw [e, rd_wt]
  by_cases q : j = Int.toNat x
  · subst q
    rw [if_pos ⟨rfl, rfl⟩, wr_i (rd_rg _ _ _), h.1 b _ (by omega)]
  · rw [if_neg (by omega)]; exact h.2 j (by omega)
/-- the row of now is copied, to be gone on from -/
def cpR (m m2 : Mm) : Prop := (∀ j : Nat, j < 51 → rd m2 323 j = rd m 322 j) ∧ rd m2 284 58 = rd m 306 (Int.toNat (rd m 284 18)) ∧ ∀ i j : Nat, ¬ (i = 323 ∧ j < 51) → ¬ (i = 284 ∧ j = 58) → rd m2 i j = rd m i j
theorem cpR_of {m m2 m36 : Mm} {x : Int} (h : cpI m m2 323 322 0 0 x) (hx : 51 ≤ x) (e : m36 = wt m2 284 58 (rd m2 306 (Int.toNat (rd m2 284 18)))) : cpR m m36 := by
  refine ⟨fun j hj => ?_, ?_, fun i j p q => by rw [e, rd_wt, if_neg q]; exact h.1 i j (by omega)⟩
  · have q := h.2 j (by omega)
    rw [Nat.zero_add] at q
    rw [e, rd_wt, if_neg (by omega)]; exact q
  · rw [e, rd_wt, if_pos ⟨rfl, rfl⟩, wr_i (rd_rg _ _ _), h.1 284 18 (by omega), h.1 306 _ (by omega)]
/-- the oldest row is dropped -/
def shI (m m2 : Mm) (x : Int) : Prop := (∀ i j : Nat, ¬ i = 324 → rd m2 i j = rd m i j) ∧ (∀ j : Nat, (j : Int) < x → rd m2 324 j = rd m 324 (j + 51)) ∧ ∀ j : Nat, x ≤ (j : Int) → rd m2 324 j = rd m 324 j
theorem shI_0 (m : Mm) : shI m m 0 := ⟨fun _ _ _ => rfl, fun j h => by omega, fun _ _ => rfl⟩
theorem shI_s {m m2 m3 : Mm} {x z : Int} {u : Nat} (h : shI m m2 x) (hx : 0 ≤ x) (e : m3 = wt m2 324 (Int.toNat x) (rd m2 324 u)) (eu : u = Int.toNat x + 51) (ez : z = x + 1) : shI m m3 z := by
  subst eu
  refine ⟨fun i j q => by rw [e, rd_wt, if_neg (by omega)]; exact h.1 i j q, fun j hj => ?_, fun j hj => by rw [e, rd_wt, if_neg (by omega)]; exact h.2.2 j (by omega)⟩
  rw [e, rd_wt]
  by_cases q : j = Int.toNat x
  · subst q
    rw [if_pos ⟨rfl, rfl⟩, wr_i (rd_rg _ _ _)]; exact h.2.2 _ (by omega)
  · rw [if_neg (by omega)]; exact h.2.1 j (by omega)
def recA (m m2 : Mm) : Prop := (∀ i j : Nat, ¬ (i = 324 ∨ (i = 284 ∧ j = 60)) → rd m2 i j = rd m i j) ∧ ((¬ rd m 284 60 = 40 ∧ rd m2 284 60 = rd m 284 60 ∧ ∀ j, rd m2 324 j = rd m 324 j) ∨ (rd m 284 60 = 40 ∧ rd m2 284 60 = 39 ∧ ∀ j : Nat, j < 1989 → rd m2 324 j = rd m 324 (j + 51)))
theorem recA_n (m : Mm) (h : ¬ rd m 284 60 = 40) : recA m m := ⟨fun _ _ _ => rfl, Or.inl ⟨h, rfl, fun _ => rfl⟩⟩
theorem recA_y {m m2 m46 : Mm} {x : Int} (h : shI m m2 x) (hx : 1989 ≤ x) (n : rd m 284 60 = 40) (e : m46 = wt m2 284 60 (wr ((rd m2 284 60) - 1))) : recA m m46 := by
  refine ⟨fun i j q => by rw [e, rd_wt, if_neg (by omega)]; exact h.1 i j (by omega), Or.inr ⟨n, ?_, fun j hj => by rw [e, rd_wt, if_neg (by omega)]; exact h.2.1 j (by omega)⟩⟩
  rw [e, rd_wt, if_pos ⟨rfl, rfl⟩, wr_i (wr_rg _), h.1 284 60 (by omega), n, wr_id (by omega) (by omega)]
  rfl
/-- the row of now goes to the rows that can be taken back, the worked row is now -/
def recP (m m2 : Mm) : Prop := (∀ i j : Nat, ¬ (i = 322 ∨ i = 324 ∨ (i = 284 ∧ j = 60)) → rd m2 i j = rd m i j) ∧ (∀ j : Nat, j < 51 → rd m2 322 j = rd m 323 j) ∧ ∃ n d : Nat, rd m 284 60 = n + d ∧ rd m2 284 60 = n + 1 ∧ n ≤ 39 ∧ (d = 0 ∨ (d = 1 ∧ n = 39)) ∧ (∀ q j : Nat, q < n → j < 51 → rd m2 324 (51 * q + j) = rd m 324 (51 * (q + d) + j)) ∧ ∀ j : Nat, j < 51 → rd m2 324 (51 * n + j) = rd m 322 j
theorem recP_of {m m49 m51 m90 m94 : Mm} {x : Int} (a : recA m m49) (tu : 0 ≤ rd m 284 60 ∧ rd m 284 60 ≤ 40) (h : cpI m49 m51 324 322 (51 * Int.toNat (rd m49 284 60)) 0 x) (hx : 51 ≤ x) (e : m90 = wt m51 284 60 (wr ((rd m51 284 60) + 1))) (k : (∀ i j : Nat, ¬ i = 322 → rd m94 i j = rd m90 i j) ∧ ∀ j : Nat, j < 51 → rd m94 322 j = rd m90 323 j) : recP m m94 := by
  obtain ⟨a1, a2⟩ := a
  have n49 : 0 ≤ rd m49 284 60 ∧ rd m49 284 60 ≤ 39 := by omega
  have e60 : rd m51 284 60 = rd m49 284 60 := h.1 284 60 (by omega)
  have n90 : rd m90 284 60 = rd m49 284 60 + 1 := by rw [e, rd_wt, if_pos ⟨rfl, rfl⟩, wr_i (wr_rg _), e60, wr_id (by omega) (by omega)]
  have F : ∀ i j : Nat, ¬ i = 324 → ¬ (i = 284 ∧ j = 60) → rd m90 i j = rd m i j := fun i j p q => by rw [e, rd_wt, if_neg q, h.1 i j (by omega), a1 i j (by omega)]
  have H : ∀ j : Nat, rd m90 324 j = rd m51 324 j := fun j => by rw [e, rd_wt, if_neg (by omega)]
  refine ⟨fun i j q => (k.1 i j (by omega)).trans (F i j (by omega) (by omega)), fun j hj => (k.2 j hj).trans (F 323 j (by omega) (by omega)), Int.toNat (rd m49 284 60), Int.toNat (rd m 284 60 - rd m49 284 60), by omega, by rw [k.1 284 60 (by omega), n90]; omega, by omega, by omega, fun q j hq hj => ?_, fun j hj => ?_⟩
  · rw [k.1 324 _ (by omega), H, h.1 324 _ (by omega)]
    rcases a2 with ⟨-, b, c⟩ | ⟨b, c, d⟩
    · rw [c, show q + Int.toNat (rd m 284 60 - rd m49 284 60) = q by omega]
    · rw [d _ (by omega), show q + Int.toNat (rd m 284 60 - rd m49 284 60) = q + 1 by omega, show 51 * q + j + 51 = 51 * (q + 1) + j by omega]
  · rw [k.1 324 _ (by omega), H, h.2 j (by omega), Nat.zero_add]
    exact a1 322 j (by omega)
/-- the newest row that was kept is now -/
def unP (m m2 : Mm) : Prop := rd m2 284 60 = rd m 284 60 - 1 ∧ (∀ j : Nat, j < 51 → rd m2 322 j = rd m 324 (51 * Int.toNat (rd m 284 60 - 1) + j)) ∧ ∀ i j : Nat, ¬ (i = 322 ∧ j < 51) → ¬ (i = 284 ∧ j = 60) → rd m2 i j = rd m i j
theorem unP_of {m m16 m21 : Mm} {x v : Int} (h : cpI m16 m21 322 324 0 (51 * Int.toNat (rd m16 284 60)) x) (hx : 51 ≤ x) (e : m16 = wt m 284 60 v) (u : rd m16 284 60 = rd m 284 60 - 1) : unP m m21 := by
  rw [u] at h
  refine ⟨(h.1 284 60 (by omega)).trans u, fun j hj => ?_, fun i j p q => by rw [h.1 i j (by omega), e, rd_wt, if_neg q]⟩
  have q := h.2 j (by omega)
  rw [Nat.zero_add] at q
  rw [q, e, rd_wt, if_neg (by omega)]
def hoP (m m2 : Mm) (s : Nat) : Prop := (∀ j : Nat, j < 51 → rd m2 340 (51 * s + j) = rd m 322 j) ∧ ∀ i j : Nat, ¬ (i = 340 ∧ 51 * s ≤ j ∧ j < 51 * s + 51) → ¬ (i = 339 ∧ j = s) → rd m2 i j = rd m i j
theorem hoP_of {m m17 m20 : Mm} {x : Int} {s : Nat} {v : Int} (h : cpI m17 m20 340 322 (51 * s) 0 x) (hx : 51 ≤ x) (e : m17 = wt m 339 s v) : hoP m m20 s := by
  refine ⟨fun j hj => ?_, fun i j p q => by rw [h.1 i j p, e, rd_wt, if_neg q]⟩
  rw [h.2 j (by omega), Nat.zero_add, e, rd_wt, if_neg (by omega)]
def reP (m m2 : Mm) (s : Nat) : Prop := rd m2 284 60 = 0 ∧ (∀ j : Nat, j < 51 → rd m2 322 j = rd m 340 (51 * s + j)) ∧ ∀ i j : Nat, ¬ (i = 322 ∧ j < 51) → ¬ (i = 284 ∧ j = 60) → rd m2 i j = rd m i j
theorem reP_of {m m22 m53 : Mm} {x : Int} {s : Nat} (h : cpI m m22 322 340 0 (51 * s) x) (hx : 51 ≤ x) (e : m53 = wt m22 284 60 0) : reP m m53 s := by
  refine ⟨by rw [e, rd_wt, if_pos ⟨rfl, rfl⟩]; rfl, fun j hj => ?_, fun i j p q => by rw [e, rd_wt, if_neg q]; exact h.1 i j (by omega)⟩
  have q := h.2 j (by omega)
  rw [Nat.zero_add] at q
  rw [e, rd_wt, if_neg (by omega)]
  exact q
-- TippedCratesModel.copies()V
set_option maxRecDepth 20000 in
theorem mz_216 {m : Mm}   (T_m : Ty m)   : CV 1 216 [.ref 284] m (fun m2 => GX sC m m2 ∧ ((True) ∧ (cpR m m2))) := by
  refine br_216  ?_
  unfold P_216
  have g_m : GX sC m m := ⟨T_m, fun _ _ _ => rfl, fun _ _ => rfl⟩
  refine ⟨fun x1_2 m_2 => GX sC m m_2 ∧ ((0 ≤ x1_2 ∧ x1_2 ≤ 51) ∧ (cpI m m_2 323 322 0 0 x1_2)), fun x1_2 m_2 => Int.toNat (51 - x1_2), ?_, ?_⟩
  · exact ⟨g_m, by exact ⟨by first | omega | (refine ⟨?_, ?_⟩ <;> omega) | trivial, by exact cpI_0⟩⟩
  · intro x1_2 m_2 r_x1_2 hI_2
    obtain ⟨g_m_2, hI_2⟩ := hI_2
    obtain ⟨hI_2, dI_2⟩ := hI_2
    refine ⟨fun hq => ?_, fun hq => ?_⟩
    · skip
      have t1 := ty_284_18 g_m_2.1
      refine ⟨⟨by omega, by omega⟩, ?_⟩
      have t2 := ty_306 g_m_2.1 (Int.toNat (rd m_2 284 18))
      intro m36 e_m36
      have g_m36 : GX sC m m36 := by rw [e_m36]; exact GX.wt g_m_2 (tw_284_58 g_m_2.1 (rd_rg _ _ _)) (Eq.refl true)
      exact ⟨g_m36, by exact ⟨by first | trivial | omega | (refine ⟨?_, ?_⟩ <;> omega), by exact cpR_of dI_2 (by omega) e_m36⟩⟩
    · skip
      refine ⟨⟨by omega, by omega⟩, ?_⟩
      refine ⟨⟨by omega, by omega⟩, ?_⟩
      have t3 := tr_322 g_m_2.1 (Int.toNat x1_2)
      intro m19 e_m19
      have g_m19 : GX sC m m19 := by rw [e_m19]; exact GX.wt g_m_2 (tz_323 g_m_2.1 (rd_rg _ _ _) (by omega) (by omega)) (Eq.refl true)
      try have w4 : wr (x1_2 + 1) = x1_2 + 1 := wr_id (by omega) (by omega)
      intro z1_20 e_z1_20
      have r_z1_20 : rg z1_20 := by rw [e_z1_20]; exact wr_rg _
      exact ⟨⟨g_m19, by exact ⟨by first | omega | (refine ⟨?_, ?_⟩ <;> omega) | trivial, by exact cpI_s dI_2 (by omega) (by omega) e_m19 (by omega) (by omega) (by omega)⟩⟩, by (try dsimp only); omega⟩
-- TippedCratesModel.records()V
set_option maxRecDepth 20000 in
theorem mz_240 {m : Mm}   (T_m : Ty m)   : CV 2 240 [.ref 284] m (fun m2 => GX sMd m m2 ∧ (((True) ∧ (mk m m2)) ∧ (recP m m2))) := by
  refine br_240  ?_
  unfold P_240
  have g_m : GX sMd m m := ⟨T_m, fun _ _ _ => rfl, fun _ _ => rfl⟩
  have tu := ty_284_60 T_m
  have t1 := ty_284_60 T_m
  refine ⟨fun m_49 => GX sMd m m_49 ∧ (((rd m_49 284 60 ≤ 39) ∧ (mk m m_49)) ∧ (recA m m_49)), ?_, ?_⟩
  · skip
    refine ⟨fun hq => ?_, fun hq => ?_⟩
    · skip
      exact ⟨g_m, by exact ⟨by exact ⟨by first | trivial | omega | (refine ⟨?_, ?_⟩ <;> omega), by first | exact mk_r _ | exact cI_11.wt (by omega) e_m46⟩, by first | (have u := e_m46; exact recA_y dI_11 (by omega) (by omega) e_m46) | exact recA_n m (by omega)⟩⟩
    · skip
      refine ⟨fun x1_11 m_11 => GX sMd m m_11 ∧ ((((0 ≤ x1_11 ∧ x1_11 ≤ 1989) ∧ rd m_11 284 60 = 40) ∧ (mk m m_11)) ∧ (shI m m_11 x1_11)), fun x1_11 m_11 => Int.toNat (1989 - x1_11), ?_, ?_⟩
      · exact ⟨g_m, by exact ⟨by exact ⟨by first | omega | (refine ⟨?_, ?_⟩ <;> omega) | trivial, by exact mk_r _⟩, by exact shI_0 m⟩⟩
      · intro x1_11 m_11 r_x1_11 hI_11
        obtain ⟨g_m_11, hI_11⟩ := hI_11
        obtain ⟨hI_11, dI_11⟩ := hI_11
        obtain ⟨hI_11, cI_11⟩ := hI_11
        refine ⟨fun hq => ?_, fun hq => ?_⟩
        · skip
          have t2 := ty_284_60 g_m_11.1
          try have w3 : wr ((rd m_11 284 60) - 1) = (rd m_11 284 60) - 1 := wr_id (by omega) (by omega)
          intro m46 e_m46
          have g_m46 : GX sMd m m46 := by rw [e_m46]; exact GX.wt g_m_11 (tw_284_60 g_m_11.1 ⟨by omega, by omega⟩) (Eq.refl true)
          have u46 : rd m46 284 60 = 39 := by rw [e_m46, rd_wt, if_pos ⟨rfl, rfl⟩, hI_11.2]; rfl
          exact ⟨g_m46, by exact ⟨by exact ⟨by first | trivial | omega | (refine ⟨?_, ?_⟩ <;> omega), by first | exact mk_r _ | exact cI_11.wt (by omega) e_m46⟩, by first | (have u := e_m46; exact recA_y dI_11 (by omega) (by omega) e_m46) | exact recA_n m (by omega)⟩⟩
        · skip
          try have w4 : wr (x1_11 + 51) = x1_11 + 51 := wr_id (by omega) (by omega)
          refine ⟨⟨by omega, by omega⟩, ?_⟩
          refine ⟨⟨by omega, by omega⟩, ?_⟩
          have t5 := tr_324 g_m_11.1 (Int.toNat (wr (x1_11 + 51)))
          intro m32 e_m32
          have g_m32 : GX sMd m m32 := by rw [e_m32]; exact GX.wt g_m_11 (tz_324 g_m_11.1 (rd_rg _ _ _) (fun h => (tr_324 g_m_11.1 _).1 (by omega)) (fun h1 h2 => (tr_324 g_m_11.1 _).2 (by omega) (by omega))) (Eq.refl true)
          have u32 : rd m32 284 60 = rd m_11 284 60 := by rw [e_m32, rd_wt, if_neg (by omega)]
          try have w6 : wr (x1_11 + 1) = x1_11 + 1 := wr_id (by omega) (by omega)
          intro z1_33 e_z1_33
          have r_z1_33 : rg z1_33 := by rw [e_z1_33]; exact wr_rg _
          exact ⟨⟨g_m32, by exact ⟨by exact ⟨by first | omega | (refine ⟨?_, ?_⟩ <;> omega) | trivial, by exact cI_11.wt (by omega) e_m32⟩, by exact shI_s dI_11 (by omega) e_m32 (by rw [wr_id (by omega) (by omega)]; omega) (by omega)⟩⟩, by (try dsimp only); omega⟩
  · intro m_49  hR_49
    obtain ⟨g_m_49, hR_49⟩ := hR_49
    obtain ⟨hR_49, dR_49⟩ := hR_49
    obtain ⟨hR_49, cR_49⟩ := hR_49
    have tu49 := ty_284_60 g_m_49.1
    refine ⟨fun x1_51 m_51 => GX sMd m m_51 ∧ ((((0 ≤ x1_51 ∧ x1_51 ≤ 51) ∧ rd m_51 284 60 ≤ 39) ∧ (mk m m_51)) ∧ (cpI m_49 m_51 324 322 (51 * Int.toNat (rd m_49 284 60)) 0 x1_51)), fun x1_51 m_51 => Int.toNat (51 - x1_51), ?_, ?_⟩
    · exact ⟨g_m_49, by exact ⟨by exact ⟨by first | omega | (refine ⟨?_, ?_⟩ <;> omega) | trivial, by exact cR_49⟩, by exact cpI_0⟩⟩
    · intro x1_51 m_51 r_x1_51 hI_51
      obtain ⟨g_m_51, hI_51⟩ := hI_51
      obtain ⟨hI_51, dI_51⟩ := hI_51
      obtain ⟨hI_51, cI_51⟩ := hI_51
      refine ⟨fun hq => ?_, fun hq => ?_⟩
      · skip
        have t7 := ty_284_60 g_m_51.1
        try have w8 : wr ((rd m_51 284 60) + 1) = (rd m_51 284 60) + 1 := wr_id (by omega) (by omega)
        intro m90 e_m90
        have g_m90 : GX sMd m m90 := by rw [e_m90]; exact GX.wt g_m_51 (tw_284_60 g_m_51.1 ⟨by omega, by omega⟩) (Eq.refl true)
        refine CV.mono (mz_215   g_m90.1) (by decide) ?_
        rintro m94 ⟨hx_m94, h_m94⟩
        have g_m94 : GX sMd m m94 := gx_in g_m90 hx_m94 (fun _ _ h => h)
        obtain ⟨h_m94, c_m94⟩ := h_m94
        obtain ⟨h_m94, k_m94⟩ := h_m94
        exact ⟨g_m94, by exact ⟨by exact ⟨by first | trivial | omega | (refine ⟨?_, ?_⟩ <;> omega), by exact (cI_51.wt (by omega) e_m90).trans k_m94⟩, by exact recP_of dR_49 tu dI_51 (by omega) e_m90 c_m94⟩⟩
      · skip
        refine ⟨⟨by omega, by omega⟩, ?_⟩
        have t9 := ty_284_60 g_m_51.1
        try have w10 : wr (51 * (rd m_51 284 60)) = 51 * (rd m_51 284 60) := wr_id (by omega) (by omega)
        try have w11 : wr ((wr (51 * (rd m_51 284 60))) + x1_51) = (wr (51 * (rd m_51 284 60))) + x1_51 := wr_id (by omega) (by omega)
        refine ⟨⟨by omega, by omega⟩, ?_⟩
        have t12 := tr_322 g_m_51.1 (Int.toNat x1_51)
        intro m76 e_m76
        have g_m76 : GX sMd m m76 := by rw [e_m76]; exact GX.wt g_m_51 (tz_324 g_m_51.1 (rd_rg _ _ _) (fun h => (tr_322 g_m_51.1 _).1 (by omega)) (fun h1 h2 => (tr_322 g_m_51.1 _).2 (by omega) (by omega))) (Eq.refl true)
        have u76 : rd m76 284 60 = rd m_51 284 60 := by rw [e_m76, rd_wt, if_neg (by omega)]
        try have w13 : wr (x1_51 + 1) = x1_51 + 1 := wr_id (by omega) (by omega)
        intro z1_77 e_z1_77
        have r_z1_77 : rg z1_77 := by rw [e_z1_77]; exact wr_rg _
        exact ⟨⟨g_m76, by exact ⟨by exact ⟨by first | omega | (refine ⟨?_, ?_⟩ <;> omega) | trivial, by exact cI_51.wt (by omega) e_m76⟩, by exact cpI_s dI_51 (by omega) (by omega) e_m76 (by rw [show rd m_51 284 60 = rd m_49 284 60 from dI_51.1 284 60 (by omega), wr_id (x := 51 * rd m_49 284 60) (by omega) (by omega), wr_id (by omega) (by omega)]; omega) (by omega) (by omega)⟩⟩, by (try dsimp only); omega⟩
-- TippedCratesModel.undo()Z
set_option maxRecDepth 20000 in
theorem mz_245 {m : Mm}   (T_m : Ty m)   : CK 1 245 [.ref 284] m (fun m2 v => GX sMd m m2 ∧ (((True) ∧ (mk m m2)) ∧ ((v = 0 ∧ rd m 284 60 = 0 ∧ m2 = m) ∨ (v = 1 ∧ ¬ rd m 284 60 = 0 ∧ unP m m2)))) := by
  refine br_245  ?_
  unfold P_245
  have g_m : GX sMd m m := ⟨T_m, fun _ _ _ => rfl, fun _ _ => rfl⟩
  have tu := ty_284_60 T_m
  have t1 := ty_284_60 T_m
  refine ⟨fun hq => ?_, fun hq => ?_⟩
  · skip
    try have w2 : wr ((rd m 284 60) - 1) = (rd m 284 60) - 1 := wr_id (by omega) (by omega)
    intro m16 e_m16
    have g_m16 : GX sMd m m16 := by rw [e_m16]; exact GX.wt g_m (tw_284_60 T_m ⟨by omega, by omega⟩) (Eq.refl true)
    have u16 : rd m16 284 60 = rd m 284 60 - 1 := by rw [e_m16, rd_wt, if_pos ⟨rfl, rfl⟩, wr_i (wr_rg _), wr_id (by omega) (by omega)]
    refine ⟨fun x1_21 m_21 => GX sMd m m_21 ∧ ((((0 ≤ x1_21 ∧ x1_21 ≤ 51) ∧ rd m_21 284 60 ≤ 39) ∧ (mk m m_21)) ∧ (cpI m16 m_21 322 324 0 (51 * Int.toNat (rd m16 284 60)) x1_21)), fun x1_21 m_21 => Int.toNat (51 - x1_21), ?_, ?_⟩
    · exact ⟨g_m16, by exact ⟨by exact ⟨by first | omega | (refine ⟨?_, ?_⟩ <;> omega) | trivial, by exact (mk_r m).wt (by omega) e_m16⟩, by exact cpI_0⟩⟩
    · intro x1_21 m_21 r_x1_21 hI_21
      obtain ⟨g_m_21, hI_21⟩ := hI_21
      obtain ⟨hI_21, dI_21⟩ := hI_21
      obtain ⟨hI_21, cI_21⟩ := hI_21
      refine ⟨fun hq => ?_, fun hq => ?_⟩
      · skip
        exact ⟨g_m_21, by exact ⟨by exact ⟨by first | trivial | omega | (refine ⟨?_, ?_⟩ <;> omega), by first | exact cI_21 | exact mk_r _⟩, by first | exact Or.inr ⟨rfl, by assumption, unP_of dI_21 (by omega) e_m16 u16⟩ | exact Or.inl ⟨rfl, by omega, rfl⟩⟩⟩
      · skip
        have t3 := ty_284_60 g_m_21.1
        try have w4 : wr (51 * (rd m_21 284 60)) = 51 * (rd m_21 284 60) := wr_id (by omega) (by omega)
        try have w5 : wr ((wr (51 * (rd m_21 284 60))) + x1_21) = (wr (51 * (rd m_21 284 60))) + x1_21 := wr_id (by omega) (by omega)
        refine ⟨⟨by omega, by omega⟩, ?_⟩
        refine ⟨⟨by omega, by omega⟩, ?_⟩
        have t6 := tr_324 g_m_21.1 (Int.toNat (wr ((wr (51 * (rd m_21 284 60))) + x1_21)))
        intro m46 e_m46
        have g_m46 : GX sMd m m46 := by rw [e_m46]; exact GX.wt g_m_21 (tz_322 g_m_21.1 (rd_rg _ _ _) (fun h => (tr_324 g_m_21.1 _).1 (by omega)) (fun h1 h2 => (tr_324 g_m_21.1 _).2 (by omega) (by omega))) (Eq.refl true)
        have u46 : rd m46 284 60 = rd m_21 284 60 := by rw [e_m46, rd_wt, if_neg (by omega)]
        try have w7 : wr (x1_21 + 1) = x1_21 + 1 := wr_id (by omega) (by omega)
        intro z1_47 e_z1_47
        have r_z1_47 : rg z1_47 := by rw [e_z1_47]; exact wr_rg _
        exact ⟨⟨g_m46, by exact ⟨by exact ⟨by first | omega | (refine ⟨?_, ?_⟩ <;> omega) | trivial, by exact cI_21.wt (by omega) e_m46⟩, by exact cpI_s dI_21 (by omega) (by omega) e_m46 (by omega) (by rw [show rd m_21 284 60 = rd m16 284 60 from dI_21.1 284 60 (by omega), wr_id (x := 51 * rd m16 284 60) (by omega) (by omega), wr_id (by omega) (by omega)]; omega) (by omega)⟩⟩, by (try dsimp only); omega⟩
  · skip
    exact ⟨g_m, by exact ⟨by exact ⟨by first | trivial | omega | (refine ⟨?_, ?_⟩ <;> omega), by first | exact cI_21 | exact mk_r _⟩, by first | exact Or.inr ⟨rfl, by assumption, unP_of dI_21 (by omega) e_m16 u16⟩ | exact Or.inl ⟨rfl, by omega, rfl⟩⟩⟩
-- TippedCratesModel.hold(I)Z
set_option maxRecDepth 20000 in
theorem mz_284 {m : Mm} {x1 : Int}  (T_m : Ty m) (r_x1 : rg x1)  : CK 2 284 [.ref 284, iv x1] m (fun m2 v => GX sMd m m2 ∧ ((((v = 1 ∧ 0 ≤ x1 ∧ x1 ≤ 2) ∨ (v = 0 ∧ (x1 < 0 ∨ 2 < x1))) ∧ (((0 ≤ x1 ∧ x1 ≤ 2) ∧ rd m2 284 72 = rd m 284 72 ∧ rd m2 339 (Int.toNat x1) = 1 ∧ ∀ j : Nat, ¬ j = Int.toNat x1 → rd m2 339 j = rd m 339 j) ∨ ((x1 < 0 ∨ 2 < x1) ∧ mk m m2))) ∧ ((0 ≤ x1 ∧ x1 ≤ 2) → hoP m m2 (Int.toNat x1)))) := by
  refine br_284 r_x1 ?_
  unfold P_284
  have g_m : GX sMd m m := ⟨T_m, fun _ _ _ => rfl, fun _ _ => rfl⟩
  refine CK.mono (ct_206   r_x1 (by unfold rg; decide) (by unfold rg; decide)) (by decide) ?_
  rintro m3 v3 r_v3 ⟨e_m3, h_m3⟩
  replace e_m3 := e_m3.symm
  subst e_m3
  refine ⟨fun hq => ?_, fun hq => ?_⟩
  · skip
    refine ⟨⟨by omega, by omega⟩, ?_⟩
    intro m17 e_m17
    have g_m17 : GX sMd m m17 := by rw [e_m17]; exact GX.wt g_m (tw_339 T_m (nz_rg _)) (Eq.refl true)
    refine ⟨fun x2_20 m_20 => GX sMd m m_20 ∧ (((0 ≤ x2_20 ∧ x2_20 ≤ 51) ∧ ((0 ≤ x1 ∧ x1 ≤ 2) ∧ rd m_20 284 72 = rd m 284 72 ∧ rd m_20 339 (Int.toNat x1) = 1 ∧ ∀ j : Nat, ¬ j = Int.toNat x1 → rd m_20 339 j = rd m 339 j)) ∧ (cpI m17 m_20 340 322 (51 * Int.toNat x1) 0 x2_20)), fun x2_20 m_20 => Int.toNat (51 - x2_20), ?_, ?_⟩
    · exact ⟨g_m17, by exact ⟨by exact ⟨by first | omega | (refine ⟨?_, ?_⟩ <;> omega) | trivial, by exact ⟨by omega, by rw [e_m17, rd_wt, if_neg (by omega)], by rw [e_m17, rd_wt, if_pos ⟨rfl, rfl⟩]; exact nz1, fun j hj => by rw [e_m17, rd_wt, if_neg (fun w => hj w.2)]⟩⟩, by exact cpI_0⟩⟩
    · intro x2_20 m_20 r_x2_20 hI_20
      obtain ⟨g_m_20, hI_20⟩ := hI_20
      obtain ⟨hI_20, dI_20⟩ := hI_20
      obtain ⟨hI_20, cI_20⟩ := hI_20
      refine ⟨fun hq => ?_, fun hq => ?_⟩
      · skip
        exact ⟨g_m_20, by exact ⟨by exact ⟨by first | trivial | omega | (refine ⟨?_, ?_⟩ <;> omega), by first | exact Or.inl ⟨cI_20.1, cI_20.2⟩ | exact Or.inr ⟨by omega, mk_r _⟩⟩, by first | (have u := e_m17; exact fun _ => hoP_of dI_20 (by omega) e_m17) | exact fun w => by omega⟩⟩
      · skip
        refine ⟨⟨by omega, by omega⟩, ?_⟩
        try have w1 : wr (51 * x1) = 51 * x1 := wr_id (by omega) (by omega)
        try have w2 : wr ((wr (51 * x1)) + x2_20) = (wr (51 * x1)) + x2_20 := wr_id (by omega) (by omega)
        refine ⟨⟨by omega, by omega⟩, ?_⟩
        have t3 := tr_322 g_m_20.1 (Int.toNat x2_20)
        intro m42 e_m42
        have g_m42 : GX sMd m m42 := by rw [e_m42]; exact GX.wt g_m_20 (tz_340 g_m_20.1 (rd_rg _ _ _) (fun h => (tr_322 g_m_20.1 _).1 (by omega)) (fun h1 h2 => (tr_322 g_m_20.1 _).2 (by omega) (by omega))) (Eq.refl true)
        have f42 : ∀ i j : Nat, ¬ i = 340 → rd m42 i j = rd m_20 i j := fun i j q => by rw [e_m42, rd_wt, if_neg (fun w => q w.1)]
        try have w4 : wr (x2_20 + 1) = x2_20 + 1 := wr_id (by omega) (by omega)
        intro z2_43 e_z2_43
        have r_z2_43 : rg z2_43 := by rw [e_z2_43]; exact wr_rg _
        exact ⟨⟨g_m42, by exact ⟨by exact ⟨by first | omega | (refine ⟨?_, ?_⟩ <;> omega) | trivial, by exact ⟨cI_20.1, by rw [f42 284 72 (by omega)]; exact cI_20.2.1, by rw [f42 339 _ (by omega)]; exact cI_20.2.2.1, fun j hj => by rw [f42 339 _ (by omega)]; exact cI_20.2.2.2 j hj⟩⟩, by exact cpI_s dI_20 (by omega) (by omega) e_m42 (by rw [wr_id (x := 51 * x1) (by omega) (by omega), wr_id (by omega) (by omega)]; omega) (by omega) (by omega)⟩⟩, by (try dsimp only); omega⟩
  · skip
    exact ⟨g_m, by exact ⟨by exact ⟨by first | trivial | omega | (refine ⟨?_, ?_⟩ <;> omega), by first | exact Or.inl ⟨cI_20.1, cI_20.2⟩ | exact Or.inr ⟨by omega, mk_r _⟩⟩, by first | (have u := e_m17; exact fun _ => hoP_of dI_20 (by omega) e_m17) | exact fun w => by omega⟩⟩
-- TippedCratesModel.restore(I)Z
set_option maxRecDepth 20000 in
theorem mz_285 {m : Mm} {x1 : Int}  (T_m : Ty m) (r_x1 : rg x1)  : CK 2 285 [.ref 284, iv x1] m (fun m2 v => GX sMd m m2 ∧ (((v = 0 ∨ v = 1) ∧ (mk m m2 ∧ ((v = 1 ∧ (0 ≤ x1 ∧ x1 ≤ 2) ∧ ¬ rd m 339 (Int.toNat x1) = 0) ∨ (v = 0 ∧ ((x1 < 0 ∨ 2 < x1) ∨ rd m 339 (Int.toNat x1) = 0))))) ∧ ((v = 0 ∧ m2 = m) ∨ (v = 1 ∧ reP m m2 (Int.toNat x1))))) := by
  refine br_285 r_x1 ?_
  unfold P_285
  have g_m : GX sMd m m := ⟨T_m, fun _ _ _ => rfl, fun _ _ => rfl⟩
  refine CK.mono (ct_206   r_x1 (by unfold rg; decide) (by unfold rg; decide)) (by decide) ?_
  rintro m3 v3 r_v3 ⟨e_m3, h_m3⟩
  replace e_m3 := e_m3.symm
  subst e_m3
  refine ⟨(x1 < 0 ∨ 2 < x1) ∨ rd m 339 (Int.toNat x1) = 0, ?_, ?_⟩
  · skip
    refine ⟨fun hq => ?_, fun hq => ?_⟩
    · skip
      (omega)
    · skip
      refine ⟨⟨by omega, by omega⟩, ?_⟩
      refine ⟨fun hq => ?_, fun hq => ?_⟩
      · skip
        refine ⟨fun x2_22 m_22 => GX sMd m m_22 ∧ (((0 ≤ x2_22 ∧ x2_22 ≤ 51) ∧ (mk m m_22 ∧ ¬ rd m 339 (Int.toNat x1) = 0)) ∧ (cpI m m_22 322 340 0 (51 * Int.toNat x1) x2_22)), fun x2_22 m_22 => Int.toNat (51 - x2_22), ?_, ?_⟩
        · exact ⟨g_m, by exact ⟨by exact ⟨by first | omega | (refine ⟨?_, ?_⟩ <;> omega) | trivial, by exact ⟨mk_r _, by omega⟩⟩, by exact cpI_0⟩⟩
        · intro x2_22 m_22 r_x2_22 hI_22
          obtain ⟨g_m_22, hI_22⟩ := hI_22
          obtain ⟨hI_22, dI_22⟩ := hI_22
          obtain ⟨hI_22, cI_22⟩ := hI_22
          refine ⟨fun hq => ?_, fun hq => ?_⟩
          · skip
            intro m53 e_m53
            have g_m53 : GX sMd m m53 := by rw [e_m53]; exact GX.wt g_m_22 (tw_284_60 g_m_22.1 ⟨by omega, by omega⟩) (Eq.refl true)
            exact ⟨g_m53, by exact ⟨by exact ⟨by first | trivial | omega | (refine ⟨?_, ?_⟩ <;> omega), by first | exact ⟨cI_22.1.wt (by omega) e_m53, Or.inl ⟨rfl, by omega, cI_22.2⟩⟩ | exact ⟨mk_r _, Or.inr ⟨rfl, hR_18⟩⟩⟩, by first | (have u := e_m53; exact Or.inr ⟨rfl, reP_of dI_22 (by omega) e_m53⟩) | exact Or.inl ⟨rfl, rfl⟩⟩⟩
          · skip
            try have w2 : wr (51 * x1) = 51 * x1 := wr_id (by omega) (by omega)
            try have w3 : wr ((wr (51 * x1)) + x2_22) = (wr (51 * x1)) + x2_22 := wr_id (by omega) (by omega)
            refine ⟨⟨by omega, by omega⟩, ?_⟩
            refine ⟨⟨by omega, by omega⟩, ?_⟩
            have t4 := tr_340 g_m_22.1 (Int.toNat (wr ((wr (51 * x1)) + x2_22)))
            intro m44 e_m44
            have g_m44 : GX sMd m m44 := by rw [e_m44]; exact GX.wt g_m_22 (tz_322 g_m_22.1 (rd_rg _ _ _) (fun h => (tr_340 g_m_22.1 _).1 (by omega)) (fun h1 h2 => (tr_340 g_m_22.1 _).2 (by omega) (by omega))) (Eq.refl true)
            try have w5 : wr (x2_22 + 1) = x2_22 + 1 := wr_id (by omega) (by omega)
            intro z2_45 e_z2_45
            have r_z2_45 : rg z2_45 := by rw [e_z2_45]; exact wr_rg _
            exact ⟨⟨g_m44, by exact ⟨by exact ⟨by first | omega | (refine ⟨?_, ?_⟩ <;> omega) | trivial, by exact ⟨cI_22.1.wt (by omega) e_m44, cI_22.2⟩⟩, by exact cpI_s dI_22 (by omega) (by omega) e_m44 (by omega) (by rw [wr_id (x := 51 * x1) (by omega) (by omega), wr_id (by omega) (by omega)]; omega) (by omega)⟩⟩, by (try dsimp only); omega⟩
      · skip
        (omega)
  · intro   hR_18
    exact ⟨g_m, by exact ⟨by exact ⟨by first | trivial | omega | (refine ⟨?_, ?_⟩ <;> omega), by first | exact ⟨cI_22.1.wt (by omega) e_m53, Or.inl ⟨rfl, by omega, cI_22.2⟩⟩ | exact ⟨mk_r _, Or.inr ⟨rfl, hR_18⟩⟩⟩, by first | (have u := e_m53; exact Or.inr ⟨rfl, reP_of dI_22 (by omega) e_m53⟩) | exact Or.inl ⟨rfl, rfl⟩⟩⟩
