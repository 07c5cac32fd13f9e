/-- what begins writes -/
def sBg (i j : Nat) : Bool := Nat.beq i 323 || (Nat.beq i 284 && (Nat.beq j 58 || Nat.beq j 59))
theorem sBg_no {i j : Nat} (h : ¬ i = 323 ∧ ¬ i = 284) : sBg i j = false := by
  unfold sBg
  rw [nb_ne h.1, nb_ne h.2]
  rfl
/-- what begins needs: paint, crates in the yard, marks -/
def bgOk (m : Mm) : Prop := (∀ k : Nat, 10 * rd m 284 18 ≤ k → (k : Int) < 10 * rd m 284 18 + rd m 298 (Int.toNat (rd m 284 18)) → rd m 299 k < rd m 293 (Int.toNat (rd m 284 18)) ∧ rd m 300 k < rd m 294 (Int.toNat (rd m 284 18)) ∧ rd m 301 k ≤ 9) ∧ (∀ k : Nat, 3 * rd m 284 18 ≤ k → (k : Int) < 3 * rd m 284 18 + rd m 302 (Int.toNat (rd m 284 18)) → rd m 303 k < rd m 293 (Int.toNat (rd m 284 18)) ∧ rd m 304 k < rd m 294 (Int.toNat (rd m 284 18))) ∧ ∀ k : Nat, 18 * rd m 284 18 ≤ k → (k : Int) < 18 * rd m 284 18 + 6 * rd m 302 (Int.toNat (rd m 284 18)) → rd m 305 k ≤ 9
def bdOk (m : Mm) (s : Int) : Prop := (∀ k : Nat, 10 * s ≤ k → (k : Int) < 10 * s + rd m 298 (Int.toNat s) → rd m 299 k < rd m 293 (Int.toNat s) ∧ rd m 300 k < rd m 294 (Int.toNat s)) ∧ ∀ k : Nat, 3 * s ≤ k → (k : Int) < 3 * s + rd m 302 (Int.toNat s) → rd m 303 k < rd m 293 (Int.toNat s) ∧ rd m 304 k < rd m 294 (Int.toNat s)
/-- the model between two calls -/
def MI (m : Mm) : Prop := Ty m ∧ MW m ∧ lawsH m (rd m 284 18) (130 * rd m 284 18 + 130) (420 * rd m 284 18 + 420)
theorem MI_fr {m m2 : Mm} (h : MI m) (T : Ty m2) (e : rd m2 284 18 = rd m 284 18) (f : ∀ i j : Nat, (i = 293 ∨ i = 294 ∨ (307 ≤ i ∧ i ≤ 315)) → rd m2 i j = rd m i j) : MI m2 := by
  refine ⟨T, ?_, ?_⟩
  · unfold MW
    rw [e, f 293 _ (by omega), f 294 _ (by omega)]
    exact h.2.1
  · rw [e]
    exact lawsH_fr h.2.2 (Int.le_refl _) (Int.le_refl _) (fun k hk => ⟨f 307 _ (by omega), f 308 _ (by omega)⟩) (fun i b hi _ _ => f i b (by omega)) (fun j _ _ => f 314 j (by omega)) (fun j _ _ => f 315 j (by omega))
theorem MI_wt {m m2 : Mm} {i j : Nat} {v : Int} (h : MI m) (T : Ty m2) (hi : (i = 284 ∧ ¬ j = 18) ∨ 316 ≤ i) (e : m2 = wt m i j v) : MI m2 :=
  MI_fr h T (by rw [e, rd_wt, if_neg (by omega)]) (fun a b q => by rw [e, rd_wt, if_neg (by omega)])
/-- the class's cells are not touched -/
def MB (m0 m : Mm) : Prop := Ty m ∧ (∀ i j : Nat, i < 284 → rd m i j = rd m0 i j) ∧ ∀ i j : Nat, i < 284 → ld m i j = ld m0 i j
theorem MB.wt {m0 m : Mm} {i j : Nat} {v : Int} (h : MB m0 m) (ht : Ty (wt m i j v)) (hi : 284 ≤ i) : MB m0 (wt m i j v) :=
  ⟨ht, fun a b q => by rw [rd_wt, if_neg (by omega)]; exact h.2.1 a b q, h.2.2⟩
theorem MB.dx {m0 m m2 : Mm} (h : MB m0 m) (g : DX m m2) : MB m0 m2 := by
  refine ⟨g.1, fun i j q => (g.2.1 i j ?_).trans (h.2.1 i j q), fun i j q => (g.2.2 i j (by omega)).trans (h.2.2 i j q)⟩
  unfold sDt
  rw [nb_ne (by omega : ¬ i = 287), nb_ne (by omega : ¬ i = 288), nb_ne (by omega : ¬ i = 289), nb_ne (by omega : ¬ i = 284)]
  rfl
theorem MB.px {m0 m m2 : Mm} (h : MB m0 m) (g : PX m m2) : MB m0 m2 :=
  ⟨g.1, fun i j q => (g.2.1 i j (inP_no (by omega) (by omega))).trans (h.2.1 i j q), fun i j q => (g.2.2 i j (by omega)).trans (h.2.2 i j q)⟩
theorem MB.ft {m0 m m2 : Mm} (h : MB m0 m) (g : GX sFt m m2) : MB m0 m2 :=
  ⟨g.1, fun i j q => (g.2.1 i j (sFt_no (by omega))).trans (h.2.1 i j q), fun i j q => (g.2.2 i j).trans (h.2.2 i j q)⟩
theorem MB.bg {m0 m m2 : Mm} (h : MB m0 m) (g : GX sBg m m2) : MB m0 m2 :=
  ⟨g.1, fun i j q => (g.2.1 i j (sBg_no (by omega))).trans (h.2.1 i j q), fun i j q => (g.2.2 i j).trans (h.2.2 i j q)⟩
theorem sMd_lo {i j : Nat} (h : i < 284) : sMd i j = false := by
  unfold sMd
  rw [nb_ne (by omega : ¬ i = 317), nb_ne (by omega : ¬ i = 318), nb_ne (by omega : ¬ i = 321), nb_ne (by omega : ¬ i = 322), nb_ne (by omega : ¬ i = 323), nb_ne (by omega : ¬ i = 324), nb_ne (by omega : ¬ i = 334), nb_ne (by omega : ¬ i = 335), nb_ne (by omega : ¬ i = 336), nb_ne (by omega : ¬ i = 339), nb_ne (by omega : ¬ i = 340), nb_ne (by omega : ¬ i = 284)]
  rfl
theorem MB.md {m0 m m2 : Mm} (h : MB m0 m) (g : GX sMd m m2) : MB m0 m2 :=
  ⟨g.1, fun i j q => (g.2.1 i j (sMd_lo q)).trans (h.2.1 i j q), fun i j q => (g.2.2 i j).trans (h.2.2 i j q)⟩
theorem DX_refl {m : Mm} (h : Ty m) : DX m m := ⟨h, fun _ _ _ => rfl, fun _ _ _ => rfl⟩
def lvFr (m m2 : Mm) : Prop := rd m2 284 18 = rd m 284 18 ∧ ∀ i j : Nat, (293 ≤ i ∧ i ≤ 315) → rd m2 i j = rd m i j
theorem lv_refl (m : Mm) : lvFr m m := ⟨rfl, fun _ _ _ => rfl⟩
theorem lv_wt {m m1 m2 : Mm} {i j : Nat} {v : Int} (h : lvFr m m1) (hi : ¬ (i = 284 ∧ j = 18) ∧ ¬ (293 ≤ i ∧ i ≤ 315)) (e : m2 = wt m1 i j v) : lvFr m m2 :=
  ⟨by rw [e, rd_wt, if_neg (by omega)]; exact h.1, fun a b q => by rw [e, rd_wt, if_neg (by omega)]; exact h.2 a b q⟩
theorem lv_dx {m m1 m2 : Mm} (h : lvFr m m1) (g : DX m1 m2) : lvFr m m2 := by
  refine ⟨(g.2.1 284 18 rfl).trans h.1, fun i j q => (g.2.1 i j ?_).trans (h.2 i j q)⟩
  unfold sDt
  rw [nb_ne (by omega : ¬ i = 287), nb_ne (by omega : ¬ i = 288), nb_ne (by omega : ¬ i = 289), nb_ne (by omega : ¬ i = 284)]
  rfl
theorem rd_0 {m77 m85 m97 m109 : Mm} {s v w : Int} (hs : 0 ≤ s ∧ s ≤ 1) (pl : plP m77 m85 s) (n11 : rd m77 284 11 = 0) (n12 : rd m77 284 12 = 0) (n13 : rd m77 284 13 = 0) (n15 : rd m77 284 15 = 0) (n20 : rd m77 284 20 = 0) (hv : v = 130 * s) (hw : w = 420 * s) (e97 : m97 = wt m85 284 38 v) (e109 : m109 = wt m97 284 44 w) : rdI m109 s := by
  have F : ∀ i j : Nat, ¬ (i = 284 ∧ (j = 38 ∨ j = 44)) → rd m109 i j = rd m85 i j := fun i j q => by rw [e109, rd_wt, if_neg (by omega), e97, rd_wt, if_neg (by omega)]
  obtain ⟨p1, p2, p3, p4, p5, p6⟩ := pl
  have E : ∀ j : Nat, rd m85 284 j = rd m77 284 j := fun j => p1 284 j (by omega) (by omega)
  have q11 : rd m109 284 11 = 0 := by rw [F 284 11 (by omega), E, n11]
  have q12 : rd m109 284 12 = 0 := by rw [F 284 12 (by omega), E, n12]
  have q13 : rd m109 284 13 = 0 := by rw [F 284 13 (by omega), E, n13]
  have q15 : rd m109 284 15 = 0 := by rw [F 284 15 (by omega), E, n15]
  have q20 : rd m109 284 20 = 0 := by rw [F 284 20 (by omega), E, n20]
  have q38 : rd m109 284 38 = 130 * s := by rw [e109, rd_wt, if_neg (by omega), e97, rd_wt, if_pos ⟨rfl, rfl⟩, hv, wr_id (by omega) (by omega)]
  have q44 : rd m109 284 44 = 420 * s := by rw [e109, rd_wt, if_pos ⟨rfl, rfl⟩, hw, wr_id (by omega) (by omega)]
  refine ⟨by omega, by omega, fun _ => ⟨q12, by omega, by omega, by omega, by omega, ?_, fun k hk b h1 h2 => ?_, fun _ => ?_⟩⟩
  · rw [q20, F 302 _ (by omega), p5]
  · rw [F 308 _ (by omega), (p6 k hk.1 (by omega)).1] at h2
    omega
  · unfold vals
    rw [F 293 _ (by omega), F 294 _ (by omega), F 298 _ (by omega), F 302 _ (by omega), p2, p3, p4, p5]
    exact ⟨by decide, by decide, fun k a b => by omega, fun k a b => by omega⟩
theorem bd_of {m : Mm} {s v : Int} (e : rd m 284 19 = s) (h : v = 0 ∧ (∀ k : Nat, 10 * rd m 284 19 ≤ k → (k : Int) < 10 * rd m 284 19 + rd m 298 (Int.toNat (rd m 284 19)) → rd m 299 k < rd m 293 (Int.toNat (rd m 284 19)) ∧ rd m 300 k < rd m 294 (Int.toNat (rd m 284 19))) ∧ (∀ k : Nat, 3 * rd m 284 19 ≤ k → (k : Int) < 3 * rd m 284 19 + rd m 302 (Int.toNat (rd m 284 19)) → rd m 303 k < rd m 293 (Int.toNat (rd m 284 19)) ∧ rd m 304 k < rd m 294 (Int.toNat (rd m 284 19)))) : bdOk m s := by
  rw [e] at h
  exact h.2
theorem rd_wrong {m m2 : Mm} {s : Int} (h : rdI m s) (g : GX sFt m m2) (h13 : rd m2 284 13 = rd m 284 13) (h11 : rd m2 284 11 = rd m 284 11) (hw : rd m 284 13 = 0 → ¬ rd m2 284 15 = 0) (h15 : 0 ≤ rd m2 284 15) : rdI m2 s := by
  have F : ∀ i j : Nat, ¬ (i = 284 ∧ (j = 11 ∨ j = 13 ∨ j = 14 ∨ j = 15 ∨ j = 16)) → rd m2 i j = rd m i j := fun i j a => g.2.1 i j (sFt_no a)
  have e12 := F 284 12 (by omega)
  have e38 := F 284 38 (by omega)
  have e44 := F 284 44 (by omega)
  refine ⟨by have := h.1; omega, h15, fun z => ?_⟩
  obtain ⟨a1, a2, a3, a4, a5, a6, a7, a8⟩ := h.2.2 (by omega)
  refine ⟨by omega, by omega, by omega, by omega, by omega, ?_, ?_, fun w => absurd w (hw (by omega))⟩
  · rw [F 284 20 (by omega), F 302 _ (by omega)]; exact a6
  · rw [e38, e44]
    exact lawsH_fr a7 (Int.le_refl _) (Int.le_refl _) (fun k hk => ⟨F 307 _ (by omega), F 308 _ (by omega)⟩) (fun i b hi _ _ => F i b (by omega)) (fun j _ _ => F 314 j (by omega)) (fun j _ _ => F 315 j (by omega))
theorem MI_px {m m77 m158 m188 : Mm} {v : Int} (h : MI m) (lv : lvFr m m77) (hl : 0 ≤ rd m 284 18 ∧ rd m 284 18 ≤ 1) (s77 : rd m77 284 19 = 1 - rd m 284 18) (g : PX m77 m158) (T : Ty m188) (e : m188 = wt m158 284 17 v) : MI m188 := by
  have F : ∀ i j : Nat, ¬ (i = 284 ∧ j = 17) → ¬ inP (rd m77 284 19) i j → ((i = 284 ∧ j = 18) ∨ (293 ≤ i ∧ i ≤ 315)) → rd m188 i j = rd m i j := fun i j a b c => by
    rw [e, rd_wt, if_neg a, g.2.1 i j b]
    rcases c with ⟨rfl, rfl⟩ | c
    · exact lv.1
    · exact lv.2 i j c
  have e18 := F 284 18 (by omega) (inP_no (by omega) (by omega)) (Or.inl ⟨rfl, rfl⟩)
  have e3 := F 293 (Int.toNat (rd m 284 18)) (by omega) (inP_lv s77 hl (Or.inl (by omega))) (Or.inr (by omega))
  have e4 := F 294 (Int.toNat (rd m 284 18)) (by omega) (inP_lv s77 hl (Or.inl (by omega))) (Or.inr (by omega))
  refine ⟨T, ?_, ?_⟩
  · unfold MW
    rw [e18, e3, e4]
    exact h.2.1
  · rw [e18]
    exact lawsH_fr h.2.2 (Int.le_refl _) (Int.le_refl _) (fun k hk => ⟨F 307 _ (by omega) (inP_lv s77 hl (Or.inr (Or.inl (by omega)))) (Or.inr (by omega)), F 308 _ (by omega) (inP_lv s77 hl (Or.inr (Or.inl (by omega)))) (Or.inr (by omega))⟩) (fun i b hi p q => F i b (by omega) (inP_lv s77 hl (Or.inr (Or.inr (Or.inl (by omega))))) (Or.inr (by omega))) (fun j p q => F 314 j (by omega) (inP_lv s77 hl (Or.inr (Or.inr (Or.inr (by omega))))) (Or.inr (by omega))) (fun j p q => F 315 j (by omega) (inP_lv s77 hl (Or.inr (Or.inr (Or.inr (by omega))))) (Or.inr (by omega)))
theorem rd_ok {m m188 m220 : Mm} {s v : Int} (hs : 0 ≤ s ∧ s ≤ 1) (T : Ty m) (h : rdI m s) (hb : rd m 284 13 = 0 → rd m 284 15 = 0 → bdOk m s) (h13 : rd m 284 13 = 0) (h15 : rd m 284 15 = 0) (e188 : m188 = wt m 284 17 v) (s188 : rd m188 284 19 = s) (e220 : m220 = wt m188 284 18 (rd m188 284 19)) : MW m220 ∧ lawsH m220 (rd m220 284 18) (130 * rd m220 284 18 + 130) (420 * rd m220 284 18 + 420) ∧ bgOk m220 := by
  have F : ∀ i j : Nat, ¬ i = 284 → rd m220 i j = rd m i j := fun i j q => by rw [e220, rd_wt, if_neg (by omega), e188, rd_wt, if_neg (by omega)]
  have e18 : rd m220 284 18 = s := by rw [e220, rd_wt, if_pos ⟨rfl, rfl⟩, wr_i (rd_rg _ _ _), s188]
  have t := ty_284_11 T
  obtain ⟨a1, a2, a3, a4, a5, a6, a7, a8⟩ := h.2.2 h13
  have v := a8 h15
  have b := hb h13 h15
  refine ⟨?_, ?_, ?_⟩
  · unfold MW
    rw [e18, F 293 _ (by omega), F 294 _ (by omega)]
    exact ⟨v.1, v.2.1⟩
  · rw [e18]
    exact lawsH_fr a7 (by omega) (by omega) (fun k hk => ⟨F 307 _ (by omega), F 308 _ (by omega)⟩) (fun i b hi _ _ => F i b (by omega)) (fun j _ _ => F 314 j (by omega)) (fun j _ _ => F 315 j (by omega))
  · unfold bgOk
    rw [e18, F 293 _ (by omega), F 294 _ (by omega), F 298 _ (by omega), F 302 _ (by omega)]
    refine ⟨fun k p q => ?_, fun k p q => ?_, fun k p q => ?_⟩
    · rw [F 299 k (by omega), F 300 k (by omega), F 301 k (by omega)]
      exact ⟨(b.1 k p q).1, (b.1 k p q).2, v.2.2.1 k p q⟩
    · rw [F 303 k (by omega), F 304 k (by omega)]
      exact b.2 k p q
    · rw [F 305 k (by omega)]
      exact v.2.2.2 k p q
-- TippedCratesModel.begins()V
set_option maxRecDepth 20000 in
theorem ct_214 {m : Mm}   (T_m : Ty m)  (p0 : MW m) (p1 : bgOk m) : CV 1 214 [.ref 284] m (fun m2 => GX sBg m m2 ∧ (True)) := by
  refine br_214  ?_
  unfold P_214
  have g_m : GX sBg m m := ⟨T_m, fun _ _ _ => rfl, fun _ _ => rfl⟩
  have tl := ty_284_18 T_m
  have t295 := ty_295 T_m (Int.toNat (rd m 284 18))
  have t298 := ty_298 T_m (Int.toNat (rd m 284 18))
  have t302 := ty_302 T_m (Int.toNat (rd m 284 18))
  have t1 := ty_284_18 T_m
  refine ⟨⟨by omega, by omega⟩, ?_⟩
  have t2 := ty_293 T_m (Int.toNat (rd m 284 18))
  intro z1_9 e_z1_9
  have r_z1_9 : rg z1_9 := by rw [e_z1_9]; exact (rd_rg _ _ _)
  refine ⟨fun x2_12 m_12 => GX sBg m m_12 ∧ (0 ≤ x2_12 ∧ x2_12 ≤ 51), fun x2_12 m_12 => Int.toNat (51 - x2_12), ?_, ?_⟩
  · exact ⟨g_m, by first | omega | (refine ⟨?_, ?_⟩ <;> omega) | trivial⟩
  · intro x2_12 m_12 r_x2_12 hI_12
    obtain ⟨g_m_12, hI_12⟩ := hI_12
    refine ⟨fun hq => ?_, fun hq => ?_⟩
    · skip
      intro m33 e_m33
      have g_m33 : GX sBg m m33 := by rw [e_m33]; exact GX.wt g_m_12 (tw_284_59 g_m_12.1 (by first | assumption | omega)) (Eq.refl true)
      have l33 : rd m33 284 18 = rd m 284 18 := g_m33.2.1 284 18 rfl
      have t3 := ty_284_18 g_m33.1
      try have w4 : wr (8 * (rd m33 284 18)) = 8 * (rd m33 284 18) := wr_id (by omega) (by omega)
      intro z2_43 e_z2_43
      have r_z2_43 : rg z2_43 := by rw [e_z2_43]; exact (wr_rg _)
      refine ⟨fun x2_44 m_44 => GX sBg m m_44 ∧ (8 * rd m 284 18 ≤ x2_44 ∧ x2_44 ≤ 16), fun x2_44 m_44 => Int.toNat (16 - x2_44), ?_, ?_⟩
      · exact ⟨g_m33, by first | omega | (refine ⟨?_, ?_⟩ <;> omega) | trivial⟩
      · intro x2_44 m_44 r_x2_44 hI_44
        obtain ⟨g_m_44, hI_44⟩ := hI_44
        have l44 : rd m_44 284 18 = rd m 284 18 := g_m_44.2.1 284 18 rfl
        have t5 := ty_284_18 g_m_44.1
        refine ⟨⟨by omega, by omega⟩, ?_⟩
        try have w6 : wr (8 * (rd m_44 284 18)) = 8 * (rd m_44 284 18) := wr_id (by omega) (by omega)
        have t7 := ty_295 g_m_44.1 (Int.toNat (rd m_44 284 18))
        try have w8 : wr ((wr (8 * (rd m_44 284 18))) + (rd m_44 295 (Int.toNat (rd m_44 284 18)))) = (wr (8 * (rd m_44 284 18))) + (rd m_44 295 (Int.toNat (rd m_44 284 18))) := wr_id (by omega) (by omega)
        refine ⟨fun hq => ?_, fun hq => ?_⟩
        · skip
          try have w9 : wr (10 * (rd m_44 284 18)) = 10 * (rd m_44 284 18) := wr_id (by omega) (by omega)
          intro z2_104 e_z2_104
          have r_z2_104 : rg z2_104 := by rw [e_z2_104]; exact (wr_rg _)
          refine ⟨fun x2_105 m_105 => GX sBg m m_105 ∧ (10 * rd m 284 18 ≤ x2_105 ∧ x2_105 ≤ 20), fun x2_105 m_105 => Int.toNat (20 - x2_105), ?_, ?_⟩
          · exact ⟨g_m_44, by first | omega | (refine ⟨?_, ?_⟩ <;> omega) | trivial⟩
          · intro x2_105 m_105 r_x2_105 hI_105
            obtain ⟨g_m_105, hI_105⟩ := hI_105
            have l105 : rd m_105 284 18 = rd m 284 18 := g_m_105.2.1 284 18 rfl
            have q298 : rd m_105 298 (Int.toNat (rd m_105 284 18)) = rd m 298 (Int.toNat (rd m 284 18)) := by rw [l105]; exact g_m_105.2.1 298 _ rfl
            have q299 : rd m_105 299 (Int.toNat x2_105) = rd m 299 (Int.toNat x2_105) := g_m_105.2.1 299 _ rfl
            have q300 : rd m_105 300 (Int.toNat x2_105) = rd m 300 (Int.toNat x2_105) := g_m_105.2.1 300 _ rfl
            have q301 : rd m_105 301 (Int.toNat x2_105) = rd m 301 (Int.toNat x2_105) := g_m_105.2.1 301 _ rfl
            have b105 := p1.1 (Int.toNat x2_105)
            have T299 := ty_299 T_m (Int.toNat x2_105)
            have T300 := ty_300 T_m (Int.toNat x2_105)
            have f105 : x2_105 < 10 * rd m 284 18 + rd m 298 (Int.toNat (rd m 284 18)) → wr (z1_9 * (rd m_105 300 (Int.toNat x2_105))) = z1_9 * (rd m_105 300 (Int.toNat x2_105)) ∧ wr (wr (z1_9 * (rd m_105 300 (Int.toNat x2_105))) + rd m_105 299 (Int.toNat x2_105)) = z1_9 * (rd m_105 300 (Int.toNat x2_105)) + rd m_105 299 (Int.toNat x2_105) ∧ 0 ≤ z1_9 * (rd m_105 300 (Int.toNat x2_105)) + rd m_105 299 (Int.toNat x2_105) ∧ z1_9 * (rd m_105 300 (Int.toNat x2_105)) + rd m_105 299 (Int.toNat x2_105) ≤ 24 := fun h => by
              have b := b105 (by omega) (by omega)
              rw [q299, q300, e_z1_9]
              have f := fl_b p0.1 p0.2 (x := rd m 299 (Int.toNat x2_105)) (y := rd m 300 (Int.toNat x2_105)) ⟨T299.1, b.1⟩ ⟨T300.1, b.2.1⟩
              exact ⟨f.1, f.2.1, f.2.2.1, f.2.2.2.1⟩
            have t10 := ty_284_18 g_m_105.1
            refine ⟨⟨by omega, by omega⟩, ?_⟩
            try have w11 : wr (10 * (rd m_105 284 18)) = 10 * (rd m_105 284 18) := wr_id (by omega) (by omega)
            have t12 := ty_298 g_m_105.1 (Int.toNat (rd m_105 284 18))
            try have w13 : wr ((wr (10 * (rd m_105 284 18))) + (rd m_105 298 (Int.toNat (rd m_105 284 18)))) = (wr (10 * (rd m_105 284 18))) + (rd m_105 298 (Int.toNat (rd m_105 284 18))) := wr_id (by omega) (by omega)
            refine ⟨fun hq => ?_, fun hq => ?_⟩
            · skip
              refine ⟨fun x2_160 m_160 => GX sBg m m_160 ∧ (0 ≤ x2_160 ∧ x2_160 ≤ 3), fun x2_160 m_160 => Int.toNat (3 - x2_160), ?_, ?_⟩
              · exact ⟨g_m_105, by first | omega | (refine ⟨?_, ?_⟩ <;> omega) | trivial⟩
              · intro x2_160 m_160 r_x2_160 hI_160
                obtain ⟨g_m_160, hI_160⟩ := hI_160
                have l160 : rd m_160 284 18 = rd m 284 18 := g_m_160.2.1 284 18 rfl
                have q302 : rd m_160 302 (Int.toNat (rd m_160 284 18)) = rd m 302 (Int.toNat (rd m 284 18)) := by rw [l160]; exact g_m_160.2.1 302 _ rfl
                have t14 := ty_284_18 g_m_160.1
                refine ⟨⟨by omega, by omega⟩, ?_⟩
                have t15 := ty_302 g_m_160.1 (Int.toNat (rd m_160 284 18))
                refine ⟨fun hq => ?_, fun hq => ?_⟩
                · skip
                  refine ⟨⟨by omega, by omega⟩, ?_⟩
                  have t16 := ty_306 g_m_160.1 (Int.toNat (rd m_160 284 18))
                  intro m274 e_m274
                  have g_m274 : GX sBg m m274 := by rw [e_m274]; exact GX.wt g_m_160 (tw_284_58 g_m_160.1 (rd_rg _ _ _)) (Eq.refl true)
                  exact ⟨g_m274, by first | trivial | omega | (refine ⟨?_, ?_⟩ <;> omega)⟩
                · skip
                  refine ⟨fun x3_175 m_175 => GX sBg m m_175 ∧ (0 ≤ x3_175 ∧ x3_175 ≤ 6), fun x3_175 m_175 => Int.toNat (6 - x3_175), ?_, ?_⟩
                  · exact ⟨g_m_160, by first | omega | (refine ⟨?_, ?_⟩ <;> omega) | trivial⟩
                  · intro x3_175 m_175 r_x3_175 hI_175
                    obtain ⟨g_m_175, hI_175⟩ := hI_175
                    have l175 : rd m_175 284 18 = rd m 284 18 := g_m_175.2.1 284 18 rfl
                    have i175 : Int.toNat (wr ((wr (3 * rd m_175 284 18)) + x2_160)) = Int.toNat (3 * rd m 284 18 + x2_160) := by rw [l175, wr_id (x := 3 * rd m 284 18) (by omega) (by omega), wr_id (by omega) (by omega)]
                    have q303 : rd m_175 303 (Int.toNat (wr ((wr (3 * rd m_175 284 18)) + x2_160))) = rd m 303 (Int.toNat (3 * rd m 284 18 + x2_160)) := by rw [i175]; exact g_m_175.2.1 303 _ rfl
                    have q304 : rd m_175 304 (Int.toNat (wr ((wr (3 * rd m_175 284 18)) + x2_160))) = rd m 304 (Int.toNat (3 * rd m 284 18 + x2_160)) := by rw [i175]; exact g_m_175.2.1 304 _ rfl
                    have cb := p1.2.1 (Int.toNat (3 * rd m 284 18 + x2_160)) (by omega) (by omega)
                    have f175 := fl_b p0.1 p0.2 (x := rd m 303 (Int.toNat (3 * rd m 284 18 + x2_160))) (y := rd m 304 (Int.toNat (3 * rd m 284 18 + x2_160))) ⟨(ty_303 T_m _).1, cb.1⟩ ⟨(ty_304 T_m _).1, cb.2⟩
                    rw [← q303, ← q304, ← e_z1_9] at f175
                    have b175 : ∀ k : Nat, 18 * rd m 284 18 ≤ k → (k : Int) < 18 * rd m 284 18 + 6 * rd m 302 (Int.toNat (rd m 284 18)) → rd m_175 305 k ≤ 9 := fun k a b => by rw [g_m_175.2.1 305 k rfl]; exact p1.2.2 k a b
                    refine ⟨fun hq => ?_, fun hq => ?_⟩
                    · skip
                      have t17 := ty_284_18 g_m_175.1
                      try have w18 : wr (3 * (rd m_175 284 18)) = 3 * (rd m_175 284 18) := wr_id (by omega) (by omega)
                      try have w19 : wr ((wr (3 * (rd m_175 284 18))) + x2_160) = (wr (3 * (rd m_175 284 18))) + x2_160 := wr_id (by omega) (by omega)
                      refine ⟨⟨by omega, by omega⟩, ?_⟩
                      refine ⟨⟨by omega, by omega⟩, ?_⟩
                      try have w20 : wr (43 + x2_160) = 43 + x2_160 := wr_id (by omega) (by omega)
                      refine ⟨⟨by omega, by omega⟩, ?_⟩
                      have t21 := ty_304 g_m_175.1 (Int.toNat (wr ((wr (3 * (rd m_175 284 18))) + x2_160)))
                      try have w22 : wr (z1_9 * (rd m_175 304 (Int.toNat (wr ((wr (3 * (rd m_175 284 18))) + x2_160))))) = z1_9 * (rd m_175 304 (Int.toNat (wr ((wr (3 * (rd m_175 284 18))) + x2_160)))) := wr_id (by omega) (by omega)
                      have t23 := ty_303 g_m_175.1 (Int.toNat (wr ((wr (3 * (rd m_175 284 18))) + x2_160)))
                      try have w24 : wr ((wr (z1_9 * (rd m_175 304 (Int.toNat (wr ((wr (3 * (rd m_175 284 18))) + x2_160)))))) + (rd m_175 303 (Int.toNat (wr ((wr (3 * (rd m_175 284 18))) + x2_160))))) = (wr (z1_9 * (rd m_175 304 (Int.toNat (wr ((wr (3 * (rd m_175 284 18))) + x2_160)))))) + (rd m_175 303 (Int.toNat (wr ((wr (3 * (rd m_175 284 18))) + x2_160)))) := wr_id (by omega) (by omega)
                      intro m257 e_m257
                      have g_m257 : GX sBg m m257 := by rw [e_m257]; exact GX.wt g_m_175 (tz_323 g_m_175.1 (wr_rg _) (fun h => by rw [Nat.mod_eq_of_lt (by omega)] at h; omega) (fun _ _ => ⟨by omega, by omega⟩)) (Eq.refl true)
                      try have w25 : wr (x2_160 + 1) = x2_160 + 1 := wr_id (by omega) (by omega)
                      intro z2_258 e_z2_258
                      have r_z2_258 : rg z2_258 := by rw [e_z2_258]; exact wr_rg _
                      exact ⟨⟨g_m257, by first | omega | (refine ⟨?_, ?_⟩ <;> omega) | trivial⟩, by (try dsimp only); omega⟩
                    · skip
                      have t26 := ty_284_18 g_m_175.1
                      try have w27 : wr (18 * (rd m_175 284 18)) = 18 * (rd m_175 284 18) := wr_id (by omega) (by omega)
                      try have w28 : wr (6 * x2_160) = 6 * x2_160 := wr_id (by omega) (by omega)
                      try have w29 : wr ((wr (18 * (rd m_175 284 18))) + (wr (6 * x2_160))) = (wr (18 * (rd m_175 284 18))) + (wr (6 * x2_160)) := wr_id (by omega) (by omega)
                      try have w30 : wr ((wr ((wr (18 * (rd m_175 284 18))) + (wr (6 * x2_160)))) + x3_175) = (wr ((wr (18 * (rd m_175 284 18))) + (wr (6 * x2_160)))) + x3_175 := wr_id (by omega) (by omega)
                      refine ⟨⟨by omega, by omega⟩, ?_⟩
                      try have w31 : wr (25 + (wr (6 * x2_160))) = 25 + (wr (6 * x2_160)) := wr_id (by omega) (by omega)
                      try have w32 : wr ((wr (25 + (wr (6 * x2_160)))) + x3_175) = (wr (25 + (wr (6 * x2_160)))) + x3_175 := wr_id (by omega) (by omega)
                      refine ⟨⟨by omega, by omega⟩, ?_⟩
                      have t33 := ty_305 g_m_175.1 (Int.toNat (wr ((wr ((wr (18 * (rd m_175 284 18))) + (wr (6 * x2_160)))) + x3_175)))
                      intro m213 e_m213
                      have g_m213 : GX sBg m m213 := by rw [e_m213]; exact GX.wt g_m_175 (tz_323 g_m_175.1 (rd_rg _ _ _) (fun _ => ⟨(ty_305 g_m_175.1 _).1, b175 _ (by omega) (by omega)⟩) (fun h1 h2 => by rw [Nat.mod_eq_of_lt (by omega)] at h1; omega)) (Eq.refl true)
                      try have w34 : wr (x3_175 + 1) = x3_175 + 1 := wr_id (by omega) (by omega)
                      intro z3_214 e_z3_214
                      have r_z3_214 : rg z3_214 := by rw [e_z3_214]; exact wr_rg _
                      exact ⟨⟨g_m213, by first | omega | (refine ⟨?_, ?_⟩ <;> omega) | trivial⟩, by (try dsimp only); omega⟩
            · skip
              refine ⟨⟨by omega, by omega⟩, ?_⟩
              refine ⟨⟨by omega, by omega⟩, ?_⟩
              refine ⟨⟨by omega, by omega⟩, ?_⟩
              have t35 := ty_300 g_m_105.1 (Int.toNat x2_105)
              try have w36 : wr (z1_9 * (rd m_105 300 (Int.toNat x2_105))) = z1_9 * (rd m_105 300 (Int.toNat x2_105)) := wr_id (by omega) (by omega)
              have t37 := ty_299 g_m_105.1 (Int.toNat x2_105)
              try have w38 : wr ((wr (z1_9 * (rd m_105 300 (Int.toNat x2_105)))) + (rd m_105 299 (Int.toNat x2_105))) = (wr (z1_9 * (rd m_105 300 (Int.toNat x2_105)))) + (rd m_105 299 (Int.toNat x2_105)) := wr_id (by omega) (by omega)
              refine ⟨⟨by omega, by omega⟩, ?_⟩
              have t39 := ty_301 g_m_105.1 (Int.toNat x2_105)
              intro m151 e_m151
              have g_m151 : GX sBg m m151 := by rw [e_m151]; exact GX.wt g_m_105 (tz_323 g_m_105.1 (rd_rg _ _ _) (by omega) (by omega)) (Eq.refl true)
              try have w40 : wr (x2_105 + 1) = x2_105 + 1 := wr_id (by omega) (by omega)
              intro z2_152 e_z2_152
              have r_z2_152 : rg z2_152 := by rw [e_z2_152]; exact wr_rg _
              exact ⟨⟨g_m151, by first | omega | (refine ⟨?_, ?_⟩ <;> omega) | trivial⟩, by (try dsimp only); omega⟩
        · skip
          refine ⟨⟨by omega, by omega⟩, ?_⟩
          refine ⟨⟨by omega, by omega⟩, ?_⟩
          have t42 := ty_297 g_m_44.1 (Int.toNat x2_44)
          try have w43 : wr (z1_9 * (rd m_44 297 (Int.toNat x2_44))) = z1_9 * (rd m_44 297 (Int.toNat x2_44)) := wr_id (by omega) (by omega)
          have t44 := ty_296 g_m_44.1 (Int.toNat x2_44)
          try have w45 : wr ((wr (z1_9 * (rd m_44 297 (Int.toNat x2_44)))) + (rd m_44 296 (Int.toNat x2_44))) = (wr (z1_9 * (rd m_44 297 (Int.toNat x2_44)))) + (rd m_44 296 (Int.toNat x2_44)) := wr_id (by omega) (by omega)
          intro m88 e_m88
          have g_m88 : GX sBg m m88 := by rw [e_m88]; exact GX.wt g_m_44 (tw_284_59 g_m_44.1 (io_rg _ _ _)) (Eq.refl true)
          try have w46 : wr (x2_44 + 1) = x2_44 + 1 := wr_id (by omega) (by omega)
          intro z2_91 e_z2_91
          have r_z2_91 : rg z2_91 := by rw [e_z2_91]; exact wr_rg _
          exact ⟨⟨g_m88, by first | omega | (refine ⟨?_, ?_⟩ <;> omega) | trivial⟩, by (try dsimp only); omega⟩
    · skip
      refine ⟨⟨by omega, by omega⟩, ?_⟩
      intro m24 e_m24
      have g_m24 : GX sBg m m24 := by rw [e_m24]; exact GX.wt g_m_12 (tz_323 g_m_12.1 (by first | assumption | omega) (by omega) (by omega)) (Eq.refl true)
      try have w47 : wr (x2_12 + 1) = x2_12 + 1 := wr_id (by omega) (by omega)
      intro z2_25 e_z2_25
      have r_z2_25 : rg z2_25 := by rw [e_z2_25]; exact wr_rg _
      exact ⟨⟨g_m24, by first | omega | (refine ⟨?_, ?_⟩ <;> omega) | trivial⟩, by (try dsimp only); omega⟩
-- TippedCratesModel.read()I
set_option maxRecDepth 20000 in
theorem ct_186 {m0 m : Mm}   (g_m : MB m0 m)  (p0 : MI m) : CK 8 186 [.ref 284] m (fun m2 v => MB m0 m2 ∧ (MI m2 ∧ rd m2 284 2 = 0)) := by
  refine br_186  ?_
  unfold P_186
  have t2 := ty_284_2 g_m.1
  have tl := ty_284_18 g_m.1
  have t1 := ty_284_2 g_m.1
  intro m5 e_m5
  have g_m5 : MB m0 m5 := by rw [e_m5]; exact MB.wt g_m (tw_284_4 g_m.1 ⟨by omega, by omega⟩) (by decide)
  have lv5 : lvFr m m5 := lv_wt (lv_refl m) (by omega) e_m5
  refine ⟨fun x1_10 m_10 => MB m0 m_10 ∧ ((0 ≤ x1_10 ∧ x1_10 ≤ 2000) ∧ lvFr m m_10), fun x1_10 m_10 => Int.toNat (2000 - x1_10), ?_, ?_⟩
  · exact ⟨g_m5, by exact ⟨by omega, lv5⟩⟩
  · intro x1_10 m_10 r_x1_10 hI_10
    obtain ⟨g_m_10, hI_10⟩ := hI_10
    have t10 := ty_284_4 g_m_10.1
    have t2 := ty_284_4 g_m_10.1
    refine ⟨fun hq => ?_, fun hq => ?_⟩
    · skip
      intro m38 e_m38
      have g_m38 : MB m0 m38 := by rw [e_m38]; exact MB.wt g_m_10 (tw_284_2 g_m_10.1 ⟨by omega, by omega⟩) (by decide)
      have lv38 : lvFr m m38 := lv_wt hI_10.2 (by omega) e_m38
      have z38 : rd m38 284 2 = 0 := by rw [e_m38, rd_wt, if_pos ⟨rfl, rfl⟩]; rfl
      refine CV.mono (ct_178   (DX_refl g_m38.1)) (by decide) ?_
      rintro m42 ⟨hc_m42, h_m42⟩
      have g_m42 : MB m0 m42 := MB.dx g_m38 hc_m42
      have lv42 : lvFr m m42 := lv_dx lv38 hc_m42
      have z42 : rd m42 284 2 = 0 := by rw [hc_m42.2.1 284 2 rfl]; exact z38
      intro m47 e_m47
      have g_m47 : MB m0 m47 := by rw [e_m47]; exact MB.wt g_m42 (tw_284_11 g_m42.1 ⟨by omega, by omega⟩) (by decide)
      have lv47 : lvFr m m47 := lv_wt lv42 (by omega) e_m47
      intro m52 e_m52
      have g_m52 : MB m0 m52 := by rw [e_m52]; exact MB.wt g_m47 (tw_284_12 g_m47.1 ⟨by omega, by omega⟩) (by decide)
      have lv52 : lvFr m m52 := lv_wt lv47 (by omega) e_m52
      intro m57 e_m57
      have g_m57 : MB m0 m57 := by rw [e_m57]; exact MB.wt g_m52 (tw_284_13 g_m52.1 (by first | assumption | omega)) (by decide)
      have lv57 : lvFr m m57 := lv_wt lv52 (by omega) e_m57
      intro m62 e_m62
      have g_m62 : MB m0 m62 := by rw [e_m62]; exact MB.wt g_m57 (tw_284_15 g_m57.1 (by first | assumption | omega)) (by decide)
      have lv62 : lvFr m m62 := lv_wt lv57 (by omega) e_m62
      have l62 : rd m62 284 18 = rd m 284 18 := lv62.1
      have t3 := ty_284_18 g_m62.1
      try have w4 : wr (1 - (rd m62 284 18)) = 1 - (rd m62 284 18) := wr_id (by omega) (by omega)
      intro m72 e_m72
      have g_m72 : MB m0 m72 := by rw [e_m72]; exact MB.wt g_m62 (tw_284_19 g_m62.1 ⟨by omega, by omega⟩) (by decide)
      have lv72 : lvFr m m72 := lv_wt lv62 (by omega) e_m72
      intro m77 e_m77
      have g_m77 : MB m0 m77 := by rw [e_m77]; exact MB.wt g_m72 (tw_284_20 g_m72.1 ⟨by omega, by omega⟩) (by decide)
      have lv77 : lvFr m m77 := lv_wt lv72 (by omega) e_m77
      have s77 : rd m77 284 19 = 1 - rd m 284 18 := by rw [e_m77, rd_wt, if_neg (by omega), e_m72, rd_wt, if_pos ⟨rfl, rfl⟩, wr_i (wr_rg _), l62, wr_id (by omega) (by omega)]
      have z77 : rd m77 284 2 = 0 := by rw [e_m77, rd_wt, if_neg (by omega), e_m72, rd_wt, if_neg (by omega), e_m62, rd_wt, if_neg (by omega), e_m57, rd_wt, if_neg (by omega), e_m52, rd_wt, if_neg (by omega), e_m47, rd_wt, if_neg (by omega)]; exact z42
      have n77_20 : rd m77 284 20 = 0 := by rw [e_m77, rd_wt, if_pos ⟨rfl, rfl⟩]; rfl
      have n77_15 : rd m77 284 15 = 0 := by rw [e_m77, rd_wt, if_neg (by omega), e_m72, rd_wt, if_neg (by omega), e_m62, rd_wt, if_pos ⟨rfl, rfl⟩]; rfl
      have n77_13 : rd m77 284 13 = 0 := by rw [e_m77, rd_wt, if_neg (by omega), e_m72, rd_wt, if_neg (by omega), e_m62, rd_wt, if_neg (by omega), e_m57, rd_wt, if_pos ⟨rfl, rfl⟩]; rfl
      have n77_12 : rd m77 284 12 = 0 := by rw [e_m77, rd_wt, if_neg (by omega), e_m72, rd_wt, if_neg (by omega), e_m62, rd_wt, if_neg (by omega), e_m57, rd_wt, if_neg (by omega), e_m52, rd_wt, if_pos ⟨rfl, rfl⟩]; rfl
      have n77_11 : rd m77 284 11 = 0 := by rw [e_m77, rd_wt, if_neg (by omega), e_m72, rd_wt, if_neg (by omega), e_m62, rd_wt, if_neg (by omega), e_m57, rd_wt, if_neg (by omega), e_m52, rd_wt, if_neg (by omega), e_m47, rd_wt, if_pos ⟨rfl, rfl⟩]; rfl
      have t5 := ty_284_19 g_m77.1
      refine CV.mono (ct_185   (PX.refl g_m77.1) (rd_rg _ _ _) rfl) (by decide) ?_
      rintro m85 ⟨hc_m85, h_m85⟩
      have g_m85 : MB m0 m85 := MB.px g_m77 hc_m85
      have pl := h_m85
      have s85 : rd m85 284 19 = rd m77 284 19 := (PX.s hc_m85).1
      have t6 := ty_284_19 g_m85.1
      try have w7 : wr (130 * (rd m85 284 19)) = 130 * (rd m85 284 19) := wr_id (by omega) (by omega)
      intro m97 e_m97
      have g_m97 : MB m0 m97 := by rw [e_m97]; exact MB.wt g_m85 (tw_284_38 g_m85.1 ⟨by omega, by omega⟩) (by decide)
      have s97 : rd m97 284 19 = rd m77 284 19 := by rw [e_m97, rd_wt, if_neg (by omega)]; exact s85
      have px97 : PX m77 m97 := by rw [e_m97]; exact PX.wt hc_m85 (tw_284_38 hc_m85.1 ⟨by omega, by omega⟩) (inP_284 (by omega))
      have t8 := ty_284_19 g_m97.1
      try have w9 : wr (420 * (rd m97 284 19)) = 420 * (rd m97 284 19) := wr_id (by omega) (by omega)
      intro m109 e_m109
      have g_m109 : MB m0 m109 := by rw [e_m109]; exact MB.wt g_m97 (tw_284_44 g_m97.1 ⟨by omega, by omega⟩) (by decide)
      have px109 : PX m77 m109 := by rw [e_m109]; exact PX.wt px97 (tw_284_44 px97.1 ⟨by omega, by omega⟩) (inP_284 (by omega))
      have ri : rdI m109 (rd m77 284 19) := rd_0 (by omega) pl n77_11 n77_12 n77_13 n77_15 n77_20 (v := wr (130 * rd m85 284 19)) (w := wr (420 * rd m97 284 19)) (by omega) (by omega) e_m97 e_m109
      refine ⟨fun m_112 => MB m0 m_112 ∧ (PX m77 m_112 ∧ rdI m_112 (rd m77 284 19)), fun m_112 => Int.toNat (10000 - rd m_112 284 11 - 1000 * rd m_112 284 13), ?_, ?_⟩
      · exact ⟨g_m109, by exact ⟨px109, ri⟩⟩
      · intro m_112  hI_112
        obtain ⟨g_m_112, hI_112⟩ := hI_112
        have f112 := hI_112.2.1
        have t112 := ty_284_11 hI_112.1.1
        refine ⟨fun m_134 => MB m0 m_134 ∧ (PX m77 m_134 ∧ rdI m_134 (rd m77 284 19)), ?_, ?_⟩
        · skip
          refine ⟨fun hq => ?_, fun hq => ?_⟩
          · skip
            exact ⟨g_m_112, by exact hI_112⟩
          · skip
            refine CK.mono (ct_180   g_m_112.1 (by unfold rg; decide)) (by decide) ?_
            rintro m121 v121 r_v121 ⟨e_m121, h_m121⟩
            replace e_m121 := e_m121.symm
            subst e_m121
            refine ⟨fun hq => ?_, fun hq => ?_⟩
            · skip
              exact ⟨g_m_112, by exact hI_112⟩
            · skip
              refine CV.mono (ct_192   hI_112.1 hI_112.2 (by omega)) (by decide) ?_
              rintro m128 ⟨hc_m128, h_m128⟩
              have g_m128 : MB m0 m128 := MB.px g_m77 hc_m128
              have t128 := ty_284_11 hc_m128.1
              have b128 := h_m128.1.1
              have c128 := h_m128.2
              exact ⟨⟨g_m128, by exact ⟨hc_m128, h_m128.1⟩⟩, by (try dsimp only); omega⟩
        · intro m_134  hR_134
          obtain ⟨g_m_134, hR_134⟩ := hR_134
          have w134 := hR_134.2.2.1
          have s134 : rd m_134 284 19 = rd m77 284 19 := (PX.s hR_134.1).1
          refine ⟨fun m_158 => MB m0 m_158 ∧ (PX m77 m_158 ∧ rdI m_158 (rd m77 284 19) ∧ (rd m_158 284 13 = 0 → rd m_158 284 15 = 0 → bdOk m_158 (rd m77 284 19))), ?_, ?_⟩
          · skip
            refine ⟨fun hq => ?_, fun hq => ?_⟩
            · skip
              exact ⟨g_m_134, by first | exact ⟨hR_134.1, hR_134.2, fun h1 h2 => absurd h1 (by omega)⟩ | exact ⟨hR_134.1, hR_134.2, fun h1 h2 => bd_of s134 (h_m142.resolve_right (by omega))⟩ | exact ⟨PX.ft hR_134.1 hx_m155, rd_wrong hR_134.2 hx_m155 (by omega) (by omega) (by omega) (by omega), fun h1 h2 => by omega⟩⟩
            · skip
              refine CK.mono (ct_190   g_m_134.1) (by decide) ?_
              rintro m142 v142 r_v142 ⟨e_m142, h_m142⟩
              replace e_m142 := e_m142.symm
              subst e_m142
              refine ⟨fun hq => ?_, fun hq => ?_⟩
              · skip
                exact ⟨g_m_134, by first | exact ⟨hR_134.1, hR_134.2, fun h1 h2 => absurd h1 (by omega)⟩ | exact ⟨hR_134.1, hR_134.2, fun h1 h2 => bd_of s134 (h_m142.resolve_right (by omega))⟩ | exact ⟨PX.ft hR_134.1 hx_m155, rd_wrong hR_134.2 hx_m155 (by omega) (by omega) (by omega) (by omega), fun h1 h2 => by omega⟩⟩
              · skip
                have t12 := ty_284_11 g_m_134.1
                refine CV.mono (ct_182   g_m_134.1 (by unfold rg; decide) (rd_rg _ _ _) (by omega) (by omega) (by omega)) (by decide) ?_
                rintro m155 ⟨hx_m155, h_m155⟩
                have g_m155 : MB m0 m155 := MB.ft g_m_134 hx_m155
                exact ⟨g_m155, by first | exact ⟨hR_134.1, hR_134.2, fun h1 h2 => absurd h1 (by omega)⟩ | exact ⟨hR_134.1, hR_134.2, fun h1 h2 => bd_of s134 (h_m142.resolve_right (by omega))⟩ | exact ⟨PX.ft hR_134.1 hx_m155, rd_wrong hR_134.2 hx_m155 (by omega) (by omega) (by omega) (by omega), fun h1 h2 => by omega⟩⟩
          · intro m_158  hR_158
            obtain ⟨g_m_158, hR_158⟩ := hR_158
            have f158 := hR_158.2.1.1
            have w158 := hR_158.2.1.2.1
            refine ⟨fun s1_188 => True, ?_, ?_⟩
            · skip
              refine ⟨fun hq => ?_, fun hq => ?_⟩
              · skip
                refine ⟨fun hq => ?_, fun hq => ?_⟩
                · skip
                  (first | trivial | omega | (refine ⟨?_, ?_⟩ <;> omega))
                · skip
                  (first | trivial | omega | (refine ⟨?_, ?_⟩ <;> omega))
              · skip
                (first | trivial | omega | (refine ⟨?_, ?_⟩ <;> omega))
            · intro s1_188 r_s1_188 hR_188
              intro m188 e_m188
              have g_m188 : MB m0 m188 := by rw [e_m188]; exact MB.wt g_m_158 (tw_284_17 g_m_158.1 (by first | assumption | omega)) (by decide)
              have f188 : rd m188 284 13 = rd m_158 284 13 := by rw [e_m188, rd_wt, if_neg (by omega)]
              have w188 : rd m188 284 15 = rd m_158 284 15 := by rw [e_m188, rd_wt, if_neg (by omega)]
              have z188 : rd m188 284 2 = 0 := by rw [e_m188, rd_wt, if_neg (by omega), hR_158.1.2.1 284 2 (inP_no (by omega) (by omega))]; exact z77
              have mi188 : MI m188 := MI_px p0 lv77 (by omega) s77 hR_158.1 g_m188.1 e_m188
              have s188 : rd m188 284 19 = rd m77 284 19 := by rw [e_m188, rd_wt, if_neg (by omega)]; exact (PX.s hR_158.1).1
              refine ⟨fun hq => ?_, fun hq => ?_⟩
              · skip
                refine ⟨fun hq => ?_, fun hq => ?_⟩
                · skip
                  have t19 := ty_284_19 g_m188.1
                  intro m220 e_m220
                  have g_m220 : MB m0 m220 := by rw [e_m220]; exact MB.wt g_m188 (tw_284_18 g_m188.1 ⟨by omega, by omega⟩) (by decide)
                  have ok220 := rd_ok (by omega) hR_158.1.1 hR_158.2.1 hR_158.2.2 (by omega) (by omega) e_m188 s188 e_m220
                  have mi220 : MI m220 := ⟨g_m220.1, ok220.1, ok220.2.1⟩
                  have z220 : rd m220 284 2 = 0 := by rw [e_m220, rd_wt, if_neg (by omega)]; exact z188
                  refine CV.mono (ct_214   g_m220.1 ok220.1 ok220.2.2) (by decide) ?_
                  rintro m224 ⟨hx_m224, h_m224⟩
                  have g_m224 : MB m0 m224 := MB.bg g_m220 hx_m224
                  have mi224 : MI m224 := MI_fr mi220 hx_m224.1 (hx_m224.2.1 284 18 rfl) (fun i j h => hx_m224.2.1 i j (sBg_no (by omega)))
                  have z224 : rd m224 284 2 = 0 := (hx_m224.2.1 284 2 rfl).trans z220
                  refine CV.mono (ct_215   g_m224.1) (by decide) ?_
                  rintro m228 ⟨hx_m228, h_m228⟩
                  have g_m228 : MB m0 m228 := MB.md g_m224 hx_m228
                  have mi228 : MI m228 := MI_fr mi224 hx_m228.1 (hx_m228.2.1 284 18 rfl) (fun i j h => hx_m228.2.1 i j (sMd_no (by omega)))
                  have z228 : rd m228 284 2 = 0 := (hx_m228.2.1 284 2 rfl).trans z224
                  intro m233 e_m233
                  have g_m233 : MB m0 m233 := by rw [e_m233]; exact MB.wt g_m228 (tw_284_60 g_m228.1 ⟨by omega, by omega⟩) (by decide)
                  have mi233 : MI m233 := MI_wt mi228 g_m233.1 (by omega) e_m233
                  have z233 : rd m233 284 2 = 0 := by rw [e_m233, rd_wt, if_neg (by omega)]; exact z228
                  intro m238 e_m238
                  have g_m238 : MB m0 m238 := by rw [e_m238]; exact MB.wt g_m233 (tw_284_72 g_m233.1 ⟨by omega, by omega⟩) (by decide)
                  have mi238 : MI m238 := MI_wt mi233 g_m238.1 (by omega) e_m238
                  have z238 : rd m238 284 2 = 0 := by rw [e_m238, rd_wt, if_neg (by omega)]; exact z233
                  refine ⟨fun x1_243 m_243 => MB m0 m_243 ∧ ((0 ≤ x1_243 ∧ x1_243 ≤ 3) ∧ MI m_243 ∧ rd m_243 284 2 = 0), fun x1_243 m_243 => Int.toNat (3 - x1_243), ?_, ?_⟩
                  · exact ⟨g_m238, by exact ⟨by omega, mi238, z238⟩⟩
                  · intro x1_243 m_243 r_x1_243 hI_243
                    obtain ⟨g_m_243, hI_243⟩ := hI_243
                    refine ⟨fun hq => ?_, fun hq => ?_⟩
                    · skip
                      exact ⟨g_m_243, by first | exact hI_243.2 | exact ⟨mi188, z188⟩⟩
                    · skip
                      refine ⟨⟨by omega, by omega⟩, ?_⟩
                      intro m254 e_m254
                      have g_m254 : MB m0 m254 := by rw [e_m254]; exact MB.wt g_m_243 (tw_339 g_m_243.1 (nz_rg _)) (by decide)
                      have mi254 : MI m254 := MI_wt hI_243.2.1 g_m254.1 (by omega) e_m254
                      have z254 : rd m254 284 2 = 0 := by rw [e_m254, rd_wt, if_neg (by omega)]; exact hI_243.2.2
                      try have w20 : wr (x1_243 + 1) = x1_243 + 1 := wr_id (by omega) (by omega)
                      intro z1_255 e_z1_255
                      have r_z1_255 : rg z1_255 := by rw [e_z1_255]; exact wr_rg _
                      exact ⟨⟨g_m254, by exact ⟨by omega, mi254, z254⟩⟩, by (try dsimp only); omega⟩
                · skip
                  exact ⟨g_m188, by first | exact hI_243.2 | exact ⟨mi188, z188⟩⟩
              · skip
                exact ⟨g_m188, by first | exact hI_243.2 | exact ⟨mi188, z188⟩⟩
    · skip
      refine ⟨⟨by omega, by omega⟩, ?_⟩
      refine ⟨⟨by omega, by omega⟩, ?_⟩
      have t21 := ty_285 g_m_10.1 (Int.toNat x1_10)
      have nbf22 := nb_bd (rd m_10 285 (Int.toNat x1_10))
      intro m29 e_m29
      have g_m29 : MB m0 m29 := by rw [e_m29]; exact MB.wt g_m_10 (tw_286 g_m_10.1 ⟨by omega, by omega⟩) (by decide)
      have lv29 : lvFr m m29 := lv_wt hI_10.2 (by omega) e_m29
      try have w23 : wr (x1_10 + 1) = x1_10 + 1 := wr_id (by omega) (by omega)
      intro z1_30 e_z1_30
      have r_z1_30 : rg z1_30 := by rw [e_z1_30]; exact wr_rg _
      exact ⟨⟨g_m29, by exact ⟨by omega, lv29⟩⟩, by (try dsimp only); omega⟩
