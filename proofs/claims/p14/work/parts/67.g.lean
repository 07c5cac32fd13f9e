/-- what the reader writes -/
def sRd (i _j : Nat) : Bool := Nat.ble 19 i && Nat.ble i 29
/-- what stands in the reader is in range, if there is no fault so far -/
def vOk (m : Mm) : Prop := rd m 19 5 = 0 → rd m 19 6 = 0 → (2 ≤ rd m 19 8 ∧ rd m 19 8 ≤ 5) ∧ (2 ≤ rd m 19 9 ∧ rd m 19 9 ≤ 5) ∧ (∀ k : Nat, (k : Int) < rd m 19 12 → rd m 26 (3 * k + 2) ≤ 9) ∧ ∀ k : Nat, (k : Int) < 6 * rd m 19 13 → rd m 28 k ≤ 9
def RX (m0 m : Mm) : Prop := Ty m ∧ lwOk m 20 ∧ vOk m ∧ tkOk m ∧ (∀ i j, sRd i j = false → rd m i j = rd m0 i j) ∧ ∀ i j, ¬ i = 29 → ld m i j = ld m0 i j
theorem sRd_no {i j : Nat} (h : sRd i j = false) : ¬ (19 ≤ i ∧ i ≤ 29) := fun w => by
  unfold sRd at h
  rw [Nat.ble_eq_true_of_le w.1, Nat.ble_eq_true_of_le w.2] at h
  cases h
section RXS
variable {m0 m m2 : Mm} {j : Nat} {v : Int}
theorem RX.tk (g : RX m0 m) (h : GX sTk m m2) (h5 : rd m2 19 5 = 0 → rd m 19 5 = 0) (h6 : rd m2 19 6 = 0 → rd m 19 6 = 0) : RX m0 m2 := by
  have f : ∀ i j, sTk i j = false → rd m2 i j = rd m i j := h.2.1
  refine ⟨h.1, lwOk_fr g.2.1 (f 20 4 rfl) (fun j => f 22 j rfl), fun a b => ?_, fun i hi hk => ?_, fun i j e => ?_, fun i j e => (h.2.2 i j).trans (g.2.2.2.2.2 i j e)⟩
  · have q := g.2.2.1 (h5 a) (h6 b)
    rw [f 19 8 rfl, f 19 9 rfl, f 19 12 rfl, f 19 13 rfl]
    exact ⟨q.1, q.2.1, fun k hk => by rw [f 26 _ rfl]; exact q.2.2.1 k hk, fun k hk => by rw [f 28 _ rfl]; exact q.2.2.2 k hk⟩
  · rw [h.2.2]
    rw [f 2 i rfl] at hk
    exact g.2.2.2.1 i hi hk
  · refine (f i j ?_).trans (g.2.2.2.2.1 i j e)
    have := sRd_no e
    unfold sTk
    rw [nb_ne (by omega)]
    rfl
theorem RX.lw (g : RX m0 m) (h : GX (sL 20) m m2) (hl : lwOk m2 20) : RX m0 m2 := by
  have f : ∀ i j, ¬ (20 ≤ i ∧ i ≤ 23) → rd m2 i j = rd m i j := fun i j hi => h.2.1 i j (by
    cases q : sL 20 i j with
    | false => rfl
    | true => have := sL_in q; omega)
  refine ⟨h.1, hl, fun a b => ?_, fun i hi hk => ?_, fun i j e => ?_, fun i j e => (h.2.2 i j).trans (g.2.2.2.2.2 i j e)⟩
  · rw [f 19 5 (by omega)] at a
    rw [f 19 6 (by omega)] at b
    have q := g.2.2.1 a b
    rw [f 19 8 (by omega), f 19 9 (by omega), f 19 12 (by omega), f 19 13 (by omega)]
    exact ⟨q.1, q.2.1, fun k hk => by rw [f 26 _ (by omega)]; exact q.2.2.1 k hk, fun k hk => by rw [f 28 _ (by omega)]; exact q.2.2.2 k hk⟩
  · rw [h.2.2]
    rw [f 2 i (by omega)] at hk
    exact g.2.2.2.1 i hi hk
  · have := sRd_no e
    exact (f i j (by omega)).trans (g.2.2.2.2.1 i j e)
theorem RX.up {i : Nat} (g : RX m0 m) (T : Ty (wt m i j v)) (hi : 19 ≤ i ∧ i ≤ 29) (h1 : ¬ i = 20) (h2 : ¬ i = 22) (hv : vOk (wt m i j v)) : RX m0 (wt m i j v) := by
  have f : ∀ a b, ¬ a = i → rd (wt m i j v) a b = rd m a b := fun a b h => by rw [rd_wt, if_neg (fun w => h w.1)]
  refine ⟨T, lwOk_fr g.2.1 (f 20 4 (by omega)) (fun j => f 22 j (by omega)), hv, fun q hq hk => ?_, fun a b e => ?_, g.2.2.2.2.2⟩
  · rw [f 2 q (by omega)] at hk
    exact g.2.2.2.1 q hq hk
  · have := sRd_no e
    exact (f a b (by omega)).trans (g.2.2.2.2.1 a b e)
theorem RX.w25 (g : RX m0 m) (hv : 0 ≤ v ∧ v ≤ 9999) : RX m0 (wt m 25 j v) := by
  have f : ∀ a b, ¬ a = 25 → rd (wt m 25 j v) a b = rd m a b := fun a b h => by rw [rd_wt, if_neg (fun w => h w.1)]
  refine g.up (tw_25 g.1 hv) (by omega) (by omega) (by omega) (fun a b => ?_)
  rw [f 19 5 (by omega)] at a
  rw [f 19 6 (by omega)] at b
  have q := g.2.2.1 a b
  rw [f 19 8 (by omega), f 19 9 (by omega), f 19 12 (by omega), f 19 13 (by omega)]
  exact ⟨q.1, q.2.1, fun k hk => by rw [f 26 _ (by omega)]; exact q.2.2.1 k hk, fun k hk => by rw [f 28 _ (by omega)]; exact q.2.2.2 k hk⟩
theorem RX.w27 (g : RX m0 m) (hv : 0 ≤ v ∧ v ≤ 9999) : RX m0 (wt m 27 j v) := by
  have f : ∀ a b, ¬ a = 27 → rd (wt m 27 j v) a b = rd m a b := fun a b h => by rw [rd_wt, if_neg (fun w => h w.1)]
  refine g.up (tw_27 g.1 hv) (by omega) (by omega) (by omega) (fun a b => ?_)
  rw [f 19 5 (by omega)] at a
  rw [f 19 6 (by omega)] at b
  have q := g.2.2.1 a b
  rw [f 19 8 (by omega), f 19 9 (by omega), f 19 12 (by omega), f 19 13 (by omega)]
  exact ⟨q.1, q.2.1, fun k hk => by rw [f 26 _ (by omega)]; exact q.2.2.1 k hk, fun k hk => by rw [f 28 _ (by omega)]; exact q.2.2.2 k hk⟩
theorem RX.w26 (g : RX m0 m) (hv : 0 ≤ v ∧ v ≤ 9999) (hj : 3 * rd m 19 12 ≤ j) : RX m0 (wt m 26 j v) := by
  have f : ∀ a b, ¬ a = 26 → rd (wt m 26 j v) a b = rd m a b := fun a b h => by rw [rd_wt, if_neg (fun w => h w.1)]
  refine g.up (tw_26 g.1 hv) (by omega) (by omega) (by omega) (fun a b => ?_)
  rw [f 19 5 (by omega)] at a
  rw [f 19 6 (by omega)] at b
  have q := g.2.2.1 a b
  rw [f 19 8 (by omega), f 19 9 (by omega), f 19 12 (by omega), f 19 13 (by omega)]
  exact ⟨q.1, q.2.1, fun k hk => by rw [rd_wt, if_neg (by omega)]; exact q.2.2.1 k hk, fun k hk => by rw [f 28 _ (by omega)]; exact q.2.2.2 k hk⟩
theorem RX.w28 (g : RX m0 m) (hv : 0 ≤ v ∧ v ≤ 9999) (hj : 6 * rd m 19 13 ≤ j) : RX m0 (wt m 28 j v) := by
  have f : ∀ a b, ¬ a = 28 → rd (wt m 28 j v) a b = rd m a b := fun a b h => by rw [rd_wt, if_neg (fun w => h w.1)]
  refine g.up (tw_28 g.1 hv) (by omega) (by omega) (by omega) (fun a b => ?_)
  rw [f 19 5 (by omega)] at a
  rw [f 19 6 (by omega)] at b
  have q := g.2.2.1 a b
  rw [f 19 8 (by omega), f 19 9 (by omega), f 19 12 (by omega), f 19 13 (by omega)]
  exact ⟨q.1, q.2.1, fun k hk => by rw [f 26 _ (by omega)]; exact q.2.2.1 k hk, fun k hk => by rw [rd_wt, if_neg (by omega)]; exact q.2.2.2 k hk⟩
theorem RX.wl (g : RX m0 m) : RX m0 (wl m 29 j v) := by
  refine ⟨g.1, g.2.1, g.2.2.1, fun i hi hk => ?_, g.2.2.2.2.1, fun i q e => ?_⟩
  · rw [ld_wl, if_neg (by omega)]; exact g.2.2.2.1 i hi hk
  · rw [ld_wl, if_neg (fun w => e w.1)]; exact g.2.2.2.2.2 i q e
theorem RX.f11 (g : RX m0 m) (hv : 0 ≤ v ∧ v ≤ 8) : RX m0 (wt m 19 11 v) := by
  refine g.up (tw_19_11 g.1 hv) (by omega) (by omega) (by omega) (fun a b => ?_)
  have f : ∀ x y, (¬ x = 19 ∨ ¬ y = 11) → rd (wt m 19 11 v) x y = rd m x y := fun x y h => by rw [rd_wt, if_neg (by omega)]
  rw [f 19 5 (by omega)] at a
  rw [f 19 6 (by omega)] at b
  have q := g.2.2.1 a b
  rw [f 19 8 (by omega), f 19 9 (by omega), f 19 12 (by omega), f 19 13 (by omega)]
  exact ⟨q.1, q.2.1, fun k hk => by rw [f 26 _ (by omega)]; exact q.2.2.1 k hk, fun k hk => by rw [f 28 _ (by omega)]; exact q.2.2.2 k hk⟩
theorem RX.f10 (g : RX m0 m) (hv : rg v) : RX m0 (wt m 19 10 v) := by
  refine g.up (tw_19_10 g.1 hv) (by omega) (by omega) (by omega) (fun a b => ?_)
  have f : ∀ x y, (¬ x = 19 ∨ ¬ y = 10) → rd (wt m 19 10 v) x y = rd m x y := fun x y h => by rw [rd_wt, if_neg (by omega)]
  rw [f 19 5 (by omega)] at a
  rw [f 19 6 (by omega)] at b
  have q := g.2.2.1 a b
  rw [f 19 8 (by omega), f 19 9 (by omega), f 19 12 (by omega), f 19 13 (by omega)]
  exact ⟨q.1, q.2.1, fun k hk => by rw [f 26 _ (by omega)]; exact q.2.2.1 k hk, fun k hk => by rw [f 28 _ (by omega)]; exact q.2.2.2 k hk⟩
theorem RX.f8 (g : RX m0 m) (hv : 0 ≤ v ∧ v ≤ 9999) (hh : rd m 19 5 = 0 → rd m 19 6 = 0 → 2 ≤ v ∧ v ≤ 5) : RX m0 (wt m 19 8 v) := by
  refine g.up (tw_19_8 g.1 hv) (by omega) (by omega) (by omega) (fun a b => ?_)
  have f : ∀ x y, (¬ x = 19 ∨ ¬ y = 8) → rd (wt m 19 8 v) x y = rd m x y := fun x y h => by rw [rd_wt, if_neg (by omega)]
  rw [f 19 5 (by omega)] at a
  rw [f 19 6 (by omega)] at b
  have q := g.2.2.1 a b
  rw [rd_wt, if_pos ⟨rfl, rfl⟩, wr_id (by omega) (by omega), f 19 9 (by omega), f 19 12 (by omega), f 19 13 (by omega)]
  exact ⟨hh a b, q.2.1, fun k hk => by rw [f 26 _ (by omega)]; exact q.2.2.1 k hk, fun k hk => by rw [f 28 _ (by omega)]; exact q.2.2.2 k hk⟩
theorem RX.f9 (g : RX m0 m) (hv : 0 ≤ v ∧ v ≤ 9999) (hh : rd m 19 5 = 0 → rd m 19 6 = 0 → 2 ≤ v ∧ v ≤ 5) : RX m0 (wt m 19 9 v) := by
  refine g.up (tw_19_9 g.1 hv) (by omega) (by omega) (by omega) (fun a b => ?_)
  have f : ∀ x y, (¬ x = 19 ∨ ¬ y = 9) → rd (wt m 19 9 v) x y = rd m x y := fun x y h => by rw [rd_wt, if_neg (by omega)]
  rw [f 19 5 (by omega)] at a
  rw [f 19 6 (by omega)] at b
  have q := g.2.2.1 a b
  rw [f 19 8 (by omega), rd_wt, if_pos ⟨rfl, rfl⟩, wr_id (by omega) (by omega), f 19 12 (by omega), f 19 13 (by omega)]
  exact ⟨q.1, hh a b, fun k hk => by rw [f 26 _ (by omega)]; exact q.2.2.1 k hk, fun k hk => by rw [f 28 _ (by omega)]; exact q.2.2.2 k hk⟩
theorem RX.f12 (g : RX m0 m) (he : v = rd m 19 12 + 1) (hv : 0 ≤ v ∧ v ≤ 10) (hh : rd m 19 5 = 0 → rd m 19 6 = 0 → rd m 26 (3 * Int.toNat (rd m 19 12) + 2) ≤ 9) : RX m0 (wt m 19 12 v) := by
  refine g.up (tw_19_12 g.1 hv) (by omega) (by omega) (by omega) (fun a b => ?_)
  have f : ∀ x y, (¬ x = 19 ∨ ¬ y = 12) → rd (wt m 19 12 v) x y = rd m x y := fun x y h => by rw [rd_wt, if_neg (by omega)]
  rw [f 19 5 (by omega)] at a
  rw [f 19 6 (by omega)] at b
  have q := g.2.2.1 a b
  have t := ty_19_12 g.1
  rw [f 19 8 (by omega), f 19 9 (by omega), rd_wt, if_pos ⟨rfl, rfl⟩, wr_id (by omega) (by omega), f 19 13 (by omega)]
  refine ⟨q.1, q.2.1, fun k hk => ?_, fun k hk => by rw [f 28 _ (by omega)]; exact q.2.2.2 k hk⟩
  rw [f 26 _ (by omega)]
  by_cases e : (k : Int) < rd m 19 12
  · exact q.2.2.1 k e
  · rw [show k = Int.toNat (rd m 19 12) by omega]; exact hh a b
theorem RX.f13 (g : RX m0 m) (he : v = rd m 19 13 + 1) (hv : 0 ≤ v ∧ v ≤ 3) (hh : rd m 19 5 = 0 → rd m 19 6 = 0 → ∀ q : Nat, (q : Int) < 6 → rd m 28 (6 * Int.toNat (rd m 19 13) + q) ≤ 9) : RX m0 (wt m 19 13 v) := by
  refine g.up (tw_19_13 g.1 hv) (by omega) (by omega) (by omega) (fun a b => ?_)
  have f : ∀ x y, (¬ x = 19 ∨ ¬ y = 13) → rd (wt m 19 13 v) x y = rd m x y := fun x y h => by rw [rd_wt, if_neg (by omega)]
  rw [f 19 5 (by omega)] at a
  rw [f 19 6 (by omega)] at b
  have q := g.2.2.1 a b
  have t := ty_19_13 g.1
  rw [f 19 8 (by omega), f 19 9 (by omega), f 19 12 (by omega), rd_wt, if_pos ⟨rfl, rfl⟩, wr_id (by omega) (by omega)]
  refine ⟨q.1, q.2.1, fun k hk => by rw [f 26 _ (by omega)]; exact q.2.2.1 k hk, fun k hk => ?_⟩
  rw [f 28 _ (by omega)]
  by_cases e : (k : Int) < 6 * rd m 19 13
  · exact q.2.2.2 k e
  · have := hh a b (k - 6 * Int.toNat (rd m 19 13)) (by omega)
    rw [show 6 * Int.toNat (rd m 19 13) + (k - 6 * Int.toNat (rd m 19 13)) = k by omega] at this
    exact this
end RXS
-- TippedCrates$Reader.readShut()V
set_option maxRecDepth 20000 in
theorem ct_42 {m0 m : Mm}   (g_m : RX m0 m)   : CV 3 42 [.ref 19] m (fun m2 => RX m0 m2 ∧ (True)) := by
  refine br_42  ?_
  unfold P_42
  have ts := ty_19_11 g_m.1
  have t1 := ty_19_11 g_m.1
  refine ⟨fun hq => ?_, fun hq => ?_⟩
  · skip
    refine CK.mono (ct_39   g_m.1 (by unfold rg; decide)) (by decide) ?_
    rintro m17 v17 r_v17 ⟨hx_m17, h_m17⟩
    have g_m17 : RX m0 m17 := RX.tk g_m hx_m17 (by omega) (by omega)
    have c11_m17 : rd m17 19 11 = rd m 19 11 := hx_m17.2.1 19 11 rfl
    refine CK.mono (ct_40   g_m17.1 (by unfold rg; decide) (by unfold rg; decide) (by omega) g_m17.2.2.2.1) (by decide) ?_
    rintro m34 v34 r_v34 ⟨hx_m34, h_m34⟩
    have g_m34 : RX m0 m34 := RX.tk g_m17 hx_m34 (by omega) (by omega)
    have c11_m34 : rd m34 19 11 = rd m17 19 11 := hx_m34.2.1 19 11 rfl
    have t2 := ty_19_11 g_m17.1
    try have w3 : wr ((rd m17 19 11) * 2) = (rd m17 19 11) * 2 := wr_id (by omega) (by omega)
    refine ⟨⟨by omega, by omega⟩, ?_⟩
    intro m37 e_m37
    have g_m37 : RX m0 m37 := by rw [e_m37]; exact RX.w25 g_m34 ⟨by omega, by omega⟩
    have c11_m37 : rd m37 19 11 = rd m34 19 11 := by rw [e_m37, rd_wt, if_neg (by omega)]
    refine CK.mono (ct_40   g_m37.1 (by unfold rg; decide) (by unfold rg; decide) (by omega) g_m37.2.2.2.1) (by decide) ?_
    rintro m53 v53 r_v53 ⟨hx_m53, h_m53⟩
    have g_m53 : RX m0 m53 := RX.tk g_m37 hx_m53 (by omega) (by omega)
    have c11_m53 : rd m53 19 11 = rd m37 19 11 := hx_m53.2.1 19 11 rfl
    have t4 := ty_19_11 g_m37.1
    try have w5 : wr ((rd m37 19 11) * 2) = (rd m37 19 11) * 2 := wr_id (by omega) (by omega)
    try have w6 : wr ((wr ((rd m37 19 11) * 2)) + 1) = (wr ((rd m37 19 11) * 2)) + 1 := wr_id (by omega) (by omega)
    refine ⟨⟨by omega, by omega⟩, ?_⟩
    intro m56 e_m56
    have g_m56 : RX m0 m56 := by rw [e_m56]; exact RX.w25 g_m53 ⟨by omega, by omega⟩
    have c11_m56 : rd m56 19 11 = rd m53 19 11 := by rw [e_m56, rd_wt, if_neg (by omega)]
    have t7 := ty_19_11 g_m56.1
    try have w8 : wr ((rd m56 19 11) + 1) = (rd m56 19 11) + 1 := wr_id (by omega) (by omega)
    intro m64 e_m64
    have g_m64 : RX m0 m64 := by rw [e_m64]; exact RX.f11 g_m56 ⟨by omega, by omega⟩
    exact ⟨g_m64, by first | trivial | omega | (refine ⟨?_, ?_⟩ <;> omega)⟩
  · skip
    refine CV.mono (ct_37   g_m.1 (by unfold rg; decide) (by omega)) (by decide) ?_
    rintro m11 ⟨hx_m11, h_m11⟩
    have g_m11 : RX m0 m11 := RX.tk g_m hx_m11 (by omega) (by omega)
    exact ⟨g_m11, by first | trivial | omega | (refine ⟨?_, ?_⟩ <;> omega)⟩
-- TippedCrates$Reader.readPaint()V
set_option maxRecDepth 20000 in
theorem ct_43 {m0 m : Mm}   (g_m : RX m0 m)   : CV 3 43 [.ref 19] m (fun m2 => RX m0 m2 ∧ (True)) := by
  refine br_43  ?_
  unfold P_43
  have ts := ty_19_12 g_m.1
  have t1 := ty_19_12 g_m.1
  refine ⟨fun hq => ?_, fun hq => ?_⟩
  · skip
    refine CK.mono (ct_39   g_m.1 (by unfold rg; decide)) (by decide) ?_
    rintro m17 v17 r_v17 ⟨hx_m17, h_m17⟩
    have g_m17 : RX m0 m17 := RX.tk g_m hx_m17 (by omega) (by omega)
    have c12_m17 : rd m17 19 12 = rd m 19 12 := hx_m17.2.1 19 12 rfl
    refine CK.mono (ct_40   g_m17.1 (by unfold rg; decide) (by unfold rg; decide) (by omega) g_m17.2.2.2.1) (by decide) ?_
    rintro m34 v34 r_v34 ⟨hx_m34, h_m34⟩
    have g_m34 : RX m0 m34 := RX.tk g_m17 hx_m34 (by omega) (by omega)
    have c12_m34 : rd m34 19 12 = rd m17 19 12 := hx_m34.2.1 19 12 rfl
    have t2 := ty_19_12 g_m17.1
    try have w3 : wr ((rd m17 19 12) * 3) = (rd m17 19 12) * 3 := wr_id (by omega) (by omega)
    refine ⟨⟨by omega, by omega⟩, ?_⟩
    intro m37 e_m37
    have g_m37 : RX m0 m37 := by rw [e_m37]; exact RX.w26 g_m34 ⟨by omega, by omega⟩ (by omega)
    have c12_m37 : rd m37 19 12 = rd m34 19 12 := by rw [e_m37, rd_wt, if_neg (by omega)]
    refine CK.mono (ct_40   g_m37.1 (by unfold rg; decide) (by unfold rg; decide) (by omega) g_m37.2.2.2.1) (by decide) ?_
    rintro m53 v53 r_v53 ⟨hx_m53, h_m53⟩
    have g_m53 : RX m0 m53 := RX.tk g_m37 hx_m53 (by omega) (by omega)
    have c12_m53 : rd m53 19 12 = rd m37 19 12 := hx_m53.2.1 19 12 rfl
    have t4 := ty_19_12 g_m37.1
    try have w5 : wr ((rd m37 19 12) * 3) = (rd m37 19 12) * 3 := wr_id (by omega) (by omega)
    try have w6 : wr ((wr ((rd m37 19 12) * 3)) + 1) = (wr ((rd m37 19 12) * 3)) + 1 := wr_id (by omega) (by omega)
    refine ⟨⟨by omega, by omega⟩, ?_⟩
    intro m56 e_m56
    have g_m56 : RX m0 m56 := by rw [e_m56]; exact RX.w26 g_m53 ⟨by omega, by omega⟩ (by omega)
    have c12_m56 : rd m56 19 12 = rd m53 19 12 := by rw [e_m56, rd_wt, if_neg (by omega)]
    refine CK.mono (ct_40   g_m56.1 (by unfold rg; decide) (by unfold rg; decide) (by omega) g_m56.2.2.2.1) (by decide) ?_
    rintro m73 v73 r_v73 ⟨hx_m73, h_m73⟩
    have g_m73 : RX m0 m73 := RX.tk g_m56 hx_m73 (by omega) (by omega)
    have c12_m73 : rd m73 19 12 = rd m56 19 12 := hx_m73.2.1 19 12 rfl
    have t7 := ty_19_12 g_m56.1
    try have w8 : wr ((rd m56 19 12) * 3) = (rd m56 19 12) * 3 := wr_id (by omega) (by omega)
    try have w9 : wr ((wr ((rd m56 19 12) * 3)) + 2) = (wr ((rd m56 19 12) * 3)) + 2 := wr_id (by omega) (by omega)
    refine ⟨⟨by omega, by omega⟩, ?_⟩
    intro m76 e_m76
    have g_m76 : RX m0 m76 := by rw [e_m76]; exact RX.w26 g_m73 ⟨by omega, by omega⟩ (by omega)
    have c12_m76 : rd m76 19 12 = rd m73 19 12 := by rw [e_m76, rd_wt, if_neg (by omega)]
    have c5_m76 : rd m76 19 5 = rd m73 19 5 := by rw [e_m76, rd_wt, if_neg (by omega)]
    have c6_m76 : rd m76 19 6 = rd m73 19 6 := by rw [e_m76, rd_wt, if_neg (by omega)]
    have l76 : rd m76 26 (3 * Int.toNat (rd m76 19 12) + 2) = v73 := by rw [e_m76, rd_wt, if_pos ⟨rfl, by rw [← e_m76]; omega⟩, wr_id (by omega) (by omega)]
    have t10 := ty_19_12 g_m76.1
    try have w11 : wr ((rd m76 19 12) + 1) = (rd m76 19 12) + 1 := wr_id (by omega) (by omega)
    intro m84 e_m84
    have g_m84 : RX m0 m84 := by rw [e_m84]; exact RX.f12 g_m76 (by omega) (by omega) (fun h1 h2 => by omega)
    exact ⟨g_m84, by first | trivial | omega | (refine ⟨?_, ?_⟩ <;> omega)⟩
  · skip
    refine CV.mono (ct_37   g_m.1 (by unfold rg; decide) (by omega)) (by decide) ?_
    rintro m11 ⟨hx_m11, h_m11⟩
    have g_m11 : RX m0 m11 := RX.tk g_m hx_m11 (by omega) (by omega)
    exact ⟨g_m11, by first | trivial | omega | (refine ⟨?_, ?_⟩ <;> omega)⟩
-- TippedCrates$Reader.takeName()V
set_option maxRecDepth 20000 in
theorem ct_45 {m0 m : Mm}   (g_m : RX m0 m)  (p0 : rd m 19 13 ≤ 2) : CV 2 45 [.ref 19] m (fun m2 => RX m0 m2 ∧ (rd m2 19 13 = rd m 19 13)) := by
  refine br_45  ?_
  unfold P_45
  have t1 := ty_19_4 g_m.1
  refine ⟨⟨by omega, by omega⟩, ?_⟩
  intro z1_12 e_z1_12
  have r_z1_12 : rgl z1_12 := by rw [e_z1_12]; exact (ld_rg _ _ _)
  refine ⟨⟨by omega, by omega⟩, ?_⟩
  intro z3_25 e_z3_25
  have r_z3_25 : rg z3_25 := by rw [e_z3_25]; exact (rd_rg _ _ _)
  refine CK.mono (ct_39   g_m.1 (by unfold rg; decide)) (by decide) ?_
  rintro m29 v29 r_v29 ⟨hx_m29, h_m29⟩
  have g_m29 : RX m0 m29 := RX.tk g_m hx_m29 (by omega) (by omega)
  have c13_m29 : rd m29 19 13 = rd m 19 13 := hx_m29.2.1 19 13 rfl
  refine ⟨fun hq => ?_, fun hq => ?_⟩
  · skip
    refine ⟨fun x4_39 m_39 => RX m0 m_39 ∧ (0 ≤ x4_39 ∧ x4_39 ≤ 3 ∧ rd m_39 19 13 = rd m 19 13), fun x4_39 m_39 => Int.toNat (3 - x4_39), ?_, ?_⟩
    · exact ⟨g_m29, by first | omega | (refine ⟨?_, ?_⟩ <;> omega) | trivial⟩
    · intro x4_39 m_39 r_x4_39 hI_39
      obtain ⟨g_m_39, hI_39⟩ := hI_39
      have t3 := ty_19_13 g_m_39.1
      refine ⟨fun hq => ?_, fun hq => ?_⟩
      · skip
        refine ⟨⟨by omega, by omega⟩, ?_⟩
        intro m81 e_m81
        have g_m81 : RX m0 m81 := by rw [e_m81]; exact RX.wl g_m_39
        exact ⟨g_m81, by first | omega | (rw [e_m81, rd_wl]; omega)⟩
      · skip
        refine ⟨⟨by omega, by omega⟩, ?_⟩
        refine ⟨fun m_66 => RX m0 m_66 ∧ (rd m_66 19 13 = rd m 19 13), ?_, ?_⟩
        · skip
          refine ⟨fun hq => ?_, fun hq => ?_⟩
          · skip
            exact ⟨g_m_39, by first | trivial | omega | (refine ⟨?_, ?_⟩ <;> omega)⟩
          · skip
            refine CV.mono (ct_38   g_m_39.1 (by unfold rg; decide) r_z3_25) (by decide) ?_
            rintro m63 ⟨hx_m63, h_m63⟩
            have g_m63 : RX m0 m63 := RX.tk g_m_39 hx_m63 (by omega) (by omega)
            have c13_m63 : rd m63 19 13 = rd m_39 19 13 := hx_m63.2.1 19 13 rfl
            exact ⟨g_m63, by first | trivial | omega | (refine ⟨?_, ?_⟩ <;> omega)⟩
        · intro m_66  hR_66
          obtain ⟨g_m_66, hR_66⟩ := hR_66
          try have w4 : wr (x4_39 + 1) = x4_39 + 1 := wr_id (by omega) (by omega)
          intro z4_66 e_z4_66
          have r_z4_66 : rg z4_66 := by rw [e_z4_66]; exact wr_rg _
          exact ⟨⟨g_m_66, by first | omega | (refine ⟨?_, ?_⟩ <;> omega) | trivial⟩, by (try dsimp only); omega⟩
  · skip
    exact ⟨g_m29, by first | omega | (rw [e_m81, rd_wl]; omega)⟩
-- TippedCrates$Reader.readCrate()V
set_option maxRecDepth 20000 in
theorem ct_44 {m0 m : Mm}   (g_m : RX m0 m)   : CV 3 44 [.ref 19] m (fun m2 => RX m0 m2 ∧ (True)) := by
  refine br_44  ?_
  unfold P_44
  have ts := ty_19_13 g_m.1
  have t1 := ty_19_13 g_m.1
  refine ⟨fun hq => ?_, fun hq => ?_⟩
  · skip
    refine CK.mono (ct_39   g_m.1 (by unfold rg; decide)) (by decide) ?_
    rintro m16 v16 r_v16 ⟨hx_m16, h_m16⟩
    have g_m16 : RX m0 m16 := RX.tk g_m hx_m16 (by omega) (by omega)
    have c13_m16 : rd m16 19 13 = rd m 19 13 := hx_m16.2.1 19 13 rfl
    refine CV.mono (ct_45   g_m16 (by omega)) (by decide) ?_
    rintro m21 ⟨g_m21, h_m21⟩
    refine CK.mono (ct_40   g_m21.1 (by unfold rg; decide) (by unfold rg; decide) (by omega) g_m21.2.2.2.1) (by decide) ?_
    rintro m37 v37 r_v37 ⟨hx_m37, h_m37⟩
    have g_m37 : RX m0 m37 := RX.tk g_m21 hx_m37 (by omega) (by omega)
    have c13_m37 : rd m37 19 13 = rd m21 19 13 := hx_m37.2.1 19 13 rfl
    have t2 := ty_19_13 g_m21.1
    try have w3 : wr ((rd m21 19 13) * 2) = (rd m21 19 13) * 2 := wr_id (by omega) (by omega)
    refine ⟨⟨by omega, by omega⟩, ?_⟩
    intro m40 e_m40
    have g_m40 : RX m0 m40 := by rw [e_m40]; exact RX.w27 g_m37 ⟨by omega, by omega⟩
    have c13_m40 : rd m40 19 13 = rd m37 19 13 := by rw [e_m40, rd_wt, if_neg (by omega)]
    refine CK.mono (ct_40   g_m40.1 (by unfold rg; decide) (by unfold rg; decide) (by omega) g_m40.2.2.2.1) (by decide) ?_
    rintro m56 v56 r_v56 ⟨hx_m56, h_m56⟩
    have g_m56 : RX m0 m56 := RX.tk g_m40 hx_m56 (by omega) (by omega)
    have c13_m56 : rd m56 19 13 = rd m40 19 13 := hx_m56.2.1 19 13 rfl
    have t4 := ty_19_13 g_m40.1
    try have w5 : wr ((rd m40 19 13) * 2) = (rd m40 19 13) * 2 := wr_id (by omega) (by omega)
    try have w6 : wr ((wr ((rd m40 19 13) * 2)) + 1) = (wr ((rd m40 19 13) * 2)) + 1 := wr_id (by omega) (by omega)
    refine ⟨⟨by omega, by omega⟩, ?_⟩
    intro m59 e_m59
    have g_m59 : RX m0 m59 := by rw [e_m59]; exact RX.w27 g_m56 ⟨by omega, by omega⟩
    have c13_m59 : rd m59 19 13 = rd m56 19 13 := by rw [e_m59, rd_wt, if_neg (by omega)]
    refine ⟨fun x1_62 m_62 => RX m0 m_62 ∧ ((0 ≤ x1_62 ∧ x1_62 ≤ 6) ∧ (rd m_62 19 13 = rd m 19 13) ∧ (rd m_62 19 5 = 0 → rd m_62 19 6 = 0 → ∀ q : Nat, (q : Int) < x1_62 → rd m_62 28 (6 * Int.toNat (rd m_62 19 13) + q) ≤ 9)), fun x1_62 m_62 => Int.toNat (6 - x1_62), ?_, ?_⟩
    · exact ⟨g_m59, by exact ⟨by omega, by omega, fun _ _ q hq => by omega⟩⟩
    · intro x1_62 m_62 r_x1_62 hI_62
      obtain ⟨g_m_62, hI_62⟩ := hI_62
      refine ⟨fun hq => ?_, fun hq => ?_⟩
      · skip
        have t7 := ty_19_13 g_m_62.1
        try have w8 : wr ((rd m_62 19 13) + 1) = (rd m_62 19 13) + 1 := wr_id (by omega) (by omega)
        intro m102 e_m102
        have g_m102 : RX m0 m102 := by rw [e_m102]; exact RX.f13 g_m_62 (by omega) (by omega) (fun h1 h2 q hq => hI_62.2.2 h1 h2 q (by omega))
        exact ⟨g_m102, by first | trivial | omega | (refine ⟨?_, ?_⟩ <;> omega)⟩
      · skip
        refine CK.mono (ct_40   g_m_62.1 (by unfold rg; decide) (by unfold rg; decide) (by omega) g_m_62.2.2.2.1) (by decide) ?_
        rintro m85 v85 r_v85 ⟨hx_m85, h_m85⟩
        have g_m85 : RX m0 m85 := RX.tk g_m_62 hx_m85 (by omega) (by omega)
        have c13_m85 : rd m85 19 13 = rd m_62 19 13 := hx_m85.2.1 19 13 rfl
        have f85 : ∀ q, rd m85 28 q = rd m_62 28 q := fun q => hx_m85.2.1 28 q rfl
        have t9 := ty_19_13 g_m_62.1
        try have w10 : wr ((rd m_62 19 13) * 6) = (rd m_62 19 13) * 6 := wr_id (by omega) (by omega)
        try have w11 : wr ((wr ((rd m_62 19 13) * 6)) + x1_62) = (wr ((rd m_62 19 13) * 6)) + x1_62 := wr_id (by omega) (by omega)
        refine ⟨⟨by omega, by omega⟩, ?_⟩
        intro m88 e_m88
        have g_m88 : RX m0 m88 := by rw [e_m88]; exact RX.w28 g_m85 ⟨by omega, by omega⟩ (by omega)
        have c13_m88 : rd m88 19 13 = rd m85 19 13 := by rw [e_m88, rd_wt, if_neg (by omega)]
        have c5_m88 : rd m88 19 5 = rd m85 19 5 := by rw [e_m88, rd_wt, if_neg (by omega)]
        have c6_m88 : rd m88 19 6 = rd m85 19 6 := by rw [e_m88, rd_wt, if_neg (by omega)]
        try have w12 : wr (x1_62 + 1) = x1_62 + 1 := wr_id (by omega) (by omega)
        intro z1_89 e_z1_89
        have r_z1_89 : rg z1_89 := by rw [e_z1_89]; exact wr_rg _
        have ne : rd m88 19 13 = rd m_62 19 13 := by omega
        have k88 : rd m88 19 5 = 0 → rd m88 19 6 = 0 → ∀ q : Nat, (q : Int) < z1_89 → rd m88 28 (6 * Int.toNat (rd m88 19 13) + q) ≤ 9 := by
          intro h1 h2 q hq
          rw [ne]
          by_cases e : (q : Int) = x1_62
          · rw [show 6 * Int.toNat (rd m_62 19 13) + q = Int.toNat (wr ((wr ((rd m_62 19 13) * 6)) + x1_62)) by omega, e_m88, rd_wt, if_pos ⟨rfl, rfl⟩, wr_id (by omega) (by omega)]
            omega
          · rw [e_m88, rd_wt, if_neg (by omega), f85]
            exact hI_62.2.2 (by omega) (by omega) q (by omega)
        exact ⟨⟨g_m88, by exact ⟨by omega, by omega, k88⟩⟩, by (try dsimp only); omega⟩
  · skip
    refine CV.mono (ct_37   g_m.1 (by unfold rg; decide) (by omega)) (by decide) ?_
    rintro m10 ⟨hx_m10, h_m10⟩
    have g_m10 : RX m0 m10 := RX.tk g_m hx_m10 (by omega) (by omega)
    exact ⟨g_m10, by first | trivial | omega | (refine ⟨?_, ?_⟩ <;> omega)⟩
-- TippedCrates$Reader.readUnit(I)V
set_option maxRecDepth 20000 in
theorem ct_49 {m0 m : Mm} {x1 : Int} {D : Nat} (hD : 3 ≤ D) (ih : ∀ {m0 m : Mm} {y : Int} (_ : RX m0 m) (_ : rg y) (_ : 0 ≤ y ∧ y ≤ 7) (_ : y = 7 → ¬ rd m 19 5 = 0) (_ : x1 < y), CV D 47 [.ref 19, iv y] m (fun m2 => RX m0 m2 ∧ (rd m2 19 5 = 0 → rd m 19 5 = 0))) (g_m : RX m0 m) (r_x1 : rg x1) (p0 : 0 ≤ x1 ∧ x1 ≤ 7) (p1 : x1 = 7 → ¬ rd m 19 5 = 0) : CV (D + 1) 49 [.ref 19, iv x1] m (fun m2 => RX m0 m2 ∧ (rd m2 19 5 = 0 → rd m 19 5 = 0)) := by
  refine br_49 (d := D) r_x1 ?_
  unfold P_49
  refine ⟨fun hq => ?_, fun hq => ?_⟩
  · skip
    refine CK.mono (ct_36   g_m.1) (by omega) ?_
    rintro m9 v9 r_v9 ⟨e_m9, h_m9⟩
    replace e_m9 := e_m9.symm
    subst e_m9
    refine ⟨fun m_135 => RX m0 m_135 ∧ (rd m_135 19 5 = 0 → rd m 19 5 = 0), ?_, ?_⟩
    · skip
      refine ⟨fun hq => ?_, fun hq => ?_⟩
      · skip
        refine CK.mono (ct_36   g_m.1) (by omega) ?_
        rintro m50 v50 r_v50 ⟨e_m50, h_m50⟩
        replace e_m50 := e_m50.symm
        subst e_m50
        refine CK.mono (ct_166   r_v50 (by unfold rg; decide) (by unfold rg; decide)) (by omega) ?_
        rintro m57 v57 r_v57 ⟨e_m57, h_m57⟩
        replace e_m57 := e_m57.symm
        subst e_m57
        refine ⟨fun hq => ?_, fun hq => ?_⟩
        · skip
          refine CK.mono (ct_36   g_m.1) (by omega) ?_
          rintro m92 v92 r_v92 ⟨e_m92, h_m92⟩
          replace e_m92 := e_m92.symm
          subst e_m92
          refine ⟨¬ v92 = 40 ∨ x1 < 6, ?_, ?_⟩
          · skip
            refine ⟨fun hq => ?_, fun hq => ?_⟩
            · skip
              (first | trivial | omega | (refine ⟨?_, ?_⟩ <;> omega))
            · skip
              refine ⟨fun hq => ?_, fun hq => ?_⟩
              · skip
                (first | trivial | omega | (refine ⟨?_, ?_⟩ <;> omega))
              · skip
                refine CV.mono (ct_37   g_m.1 (by unfold rg; decide) (by omega)) (by omega) ?_
                rintro m108 ⟨hx_m108, h_m108⟩
                have g_m108 : RX m0 m108 := RX.tk g_m hx_m108 (by omega) (by omega)
                exact ⟨g_m108, by first | trivial | omega | (refine ⟨?_, ?_⟩ <;> omega)⟩
          · intro   hR_114
            refine CK.mono (ct_39   g_m.1 (by unfold rg; decide)) (by omega) ?_
            rintro m117 v117 r_v117 ⟨hx_m117, h_m117⟩
            have g_m117 : RX m0 m117 := RX.tk g_m hx_m117 (by omega) (by omega)
            try have w2 : wr (x1 + 1) = x1 + 1 := wr_id (by omega) (by omega)
            refine CV.mono (ih g_m117 (wr_rg _) (by omega) (by omega) (by omega)) (by omega) ?_
            rintro m125 ⟨g_m125, h_m125⟩
            refine CK.mono (ct_39   g_m125.1 (by unfold rg; decide)) (by omega) ?_
            rintro m131 v131 r_v131 ⟨hx_m131, h_m131⟩
            have g_m131 : RX m0 m131 := RX.tk g_m125 hx_m131 (by omega) (by omega)
            exact ⟨g_m131, by first | trivial | omega | (refine ⟨?_, ?_⟩ <;> omega)⟩
        · skip
          refine CK.mono (ct_36   g_m.1) (by omega) ?_
          rintro m69 v69 r_v69 ⟨e_m69, h_m69⟩
          replace e_m69 := e_m69.symm
          subst e_m69
          try have w3 : wr (v69 - 12) = v69 - 12 := wr_id (by omega) (by omega)
          refine CK.mono (ct_15   g_m.1 lw_20 (by unfold rg; decide) (wr_rg _) (by omega) (by omega) (fun h => by omega) g_m.2.1) (by omega) ?_
          rintro m75 v75 r_v75 ⟨hx_m75, h_m75⟩
          have g_m75 : RX m0 m75 := RX.lw g_m hx_m75 h_m75.1
          have u_m75 : rd m75 19 5 = rd m 19 5 := hx_m75.2.1 19 5 rfl
          refine CK.mono (ct_36   g_m75.1) (by omega) ?_
          rintro m81 v81 r_v81 ⟨e_m81, h_m81⟩
          replace e_m81 := e_m81.symm
          subst e_m81
          refine CK.mono (ct_39   g_m75.1 r_v81) (by omega) ?_
          rintro m84 v84 r_v84 ⟨hx_m84, h_m84⟩
          have g_m84 : RX m0 m84 := RX.tk g_m75 hx_m84 (by omega) (by omega)
          exact ⟨g_m84, by first | trivial | omega | (refine ⟨?_, ?_⟩ <;> omega)⟩
      · skip
        have t4 := ty_19_4 g_m.1
        refine ⟨⟨by omega, by omega⟩, ?_⟩
        try have w5 : wr (ld m 4 (Int.toNat (rd m 19 4))) = ld m 4 (Int.toNat (rd m 19 4)) := wr_id (by omega) (by omega)
        have tv := g_m.2.2.2.1 (Int.toNat (rd m 19 4)) (by omega) (by omega)
        have wv : wr (ld m 4 (Int.toNat (rd m 19 4))) = ld m 4 (Int.toNat (rd m 19 4)) := wr_id (by omega) (by omega)
        refine CK.mono (ct_15   g_m.1 lw_20 (by unfold rg; decide) (wr_rg _) (by omega) (by omega) (fun h => by omega) g_m.2.1) (by omega) ?_
        rintro m35 v35 r_v35 ⟨hx_m35, h_m35⟩
        have g_m35 : RX m0 m35 := RX.lw g_m hx_m35 h_m35.1
        have u_m35 : rd m35 19 5 = rd m 19 5 := hx_m35.2.1 19 5 rfl
        refine CK.mono (ct_39   g_m35.1 (by unfold rg; decide)) (by omega) ?_
        rintro m42 v42 r_v42 ⟨hx_m42, h_m42⟩
        have g_m42 : RX m0 m42 := RX.tk g_m35 hx_m42 (by omega) (by omega)
        exact ⟨g_m42, by first | trivial | omega | (refine ⟨?_, ?_⟩ <;> omega)⟩
    · intro m_135  hR_135
      obtain ⟨g_m_135, hR_135⟩ := hR_135
      exact ⟨g_m_135, by first | trivial | omega | (refine ⟨?_, ?_⟩ <;> omega)⟩
  · skip
    exact ⟨g_m, by first | trivial | omega | (refine ⟨?_, ?_⟩ <;> omega)⟩
-- TippedCrates$Reader.readProduct(I)V
set_option maxRecDepth 20000 in
theorem ct_48 {m0 m : Mm} {x1 : Int} {D : Nat} (hD : 3 ≤ D) (ih : ∀ {m0 m : Mm} {y : Int} (_ : RX m0 m) (_ : rg y) (_ : 0 ≤ y ∧ y ≤ 7) (_ : y = 7 → ¬ rd m 19 5 = 0) (_ : x1 < y), CV D 47 [.ref 19, iv y] m (fun m2 => RX m0 m2 ∧ (rd m2 19 5 = 0 → rd m 19 5 = 0))) (g_m : RX m0 m) (r_x1 : rg x1) (p0 : 0 ≤ x1 ∧ x1 ≤ 7) (p1 : x1 = 7 → ¬ rd m 19 5 = 0) : CV (D + 2) 48 [.ref 19, iv x1] m (fun m2 => RX m0 m2 ∧ (rd m2 19 5 = 0 → rd m 19 5 = 0)) := by
  refine br_48 (d := (D + 1)) r_x1 ?_
  unfold P_48
  refine CV.mono (ct_49 hD ih g_m r_x1 (by omega) (by omega)) (by omega) ?_
  rintro m2 ⟨g_m2, h_m2⟩
  refine ⟨fun x2_7 m_7 => RX m0 m_7 ∧ ((0 ≤ x2_7 ∧ x2_7 ≤ 400) ∧ (rd m_7 19 5 = 0 → rd m 19 5 = 0)), fun x2_7 m_7 => Int.toNat (400 - x2_7), ?_, ?_⟩
  · exact ⟨g_m2, by first | omega | (refine ⟨?_, ?_⟩ <;> omega) | trivial⟩
  · intro x2_7 m_7 r_x2_7 hI_7
    obtain ⟨g_m_7, hI_7⟩ := hI_7
    refine ⟨fun m_79 => RX m0 m_79 ∧ (rd m_79 19 5 = 0 → rd m 19 5 = 0), ?_, ?_⟩
    · skip
      refine ⟨fun hq => ?_, fun hq => ?_⟩
      · skip
        exact ⟨g_m_7, by first | trivial | omega | (refine ⟨?_, ?_⟩ <;> omega)⟩
      · skip
        refine ⟨fun hq => ?_, fun hq => ?_⟩
        · skip
          exact ⟨g_m_7, by first | trivial | omega | (refine ⟨?_, ?_⟩ <;> omega)⟩
        · skip
          refine CK.mono (ct_50   g_m_7.1 (by unfold rg; decide) (by unfold rg; decide)) (by omega) ?_
          rintro m26 v26 r_v26 ⟨e_m26, h_m26⟩
          replace e_m26 := e_m26.symm
          subst e_m26
          refine ⟨fun hq => ?_, fun hq => ?_⟩
          · skip
            exact ⟨g_m_7, by first | trivial | omega | (refine ⟨?_, ?_⟩ <;> omega)⟩
          · skip
            refine CK.mono (ct_36   g_m_7.1) (by omega) ?_
            rintro m33 v33 r_v33 ⟨e_m33, h_m33⟩
            replace e_m33 := e_m33.symm
            subst e_m33
            refine ⟨fun s0_48 => (s0_48 = 6 ∨ s0_48 = 7), ?_, ?_⟩
            · skip
              refine ⟨fun hq => ?_, fun hq => ?_⟩
              · skip
                (first | trivial | omega | (refine ⟨?_, ?_⟩ <;> omega))
              · skip
                (first | trivial | omega | (refine ⟨?_, ?_⟩ <;> omega))
            · intro s0_48 r_s0_48 hR_48
              refine CK.mono (ct_36   g_m_7.1) (by omega) ?_
              rintro m51 v51 r_v51 ⟨e_m51, h_m51⟩
              replace e_m51 := e_m51.symm
              subst e_m51
              refine CK.mono (ct_39   g_m_7.1 r_v51) (by omega) ?_
              rintro m54 v54 r_v54 ⟨hx_m54, h_m54⟩
              have g_m54 : RX m0 m54 := RX.tk g_m_7 hx_m54 (by omega) (by omega)
              refine CV.mono (ct_49 hD ih g_m54 r_x1 (by omega) (by omega)) (by omega) ?_
              rintro m60 ⟨g_m60, h_m60⟩
              refine CK.mono (ct_15   g_m60.1 lw_20 r_s0_48 (by unfold rg; decide) (by omega) (by omega) (fun h => by omega) g_m60.2.1) (by omega) ?_
              rintro m69 v69 r_v69 ⟨hx_m69, h_m69⟩
              have g_m69 : RX m0 m69 := RX.lw g_m60 hx_m69 h_m69.1
              have u_m69 : rd m69 19 5 = rd m60 19 5 := hx_m69.2.1 19 5 rfl
              try have w2 : wr (x2_7 + 1) = x2_7 + 1 := wr_id (by omega) (by omega)
              intro z2_73 e_z2_73
              have r_z2_73 : rg z2_73 := by rw [e_z2_73]; exact wr_rg _
              exact ⟨⟨g_m69, by first | omega | (refine ⟨?_, ?_⟩ <;> omega) | trivial⟩, by (try dsimp only); omega⟩
    · intro m_79  hR_79
      obtain ⟨g_m_79, hR_79⟩ := hR_79
      exact ⟨g_m_79, by first | trivial | omega | (refine ⟨?_, ?_⟩ <;> omega)⟩
-- TippedCrates$Reader.readSum(I)V
set_option maxRecDepth 20000 in
theorem ct_47s {m0 m : Mm} {x1 : Int} {D : Nat} (hD : 3 ≤ D) (ih : ∀ {m0 m : Mm} {y : Int} (_ : RX m0 m) (_ : rg y) (_ : 0 ≤ y ∧ y ≤ 7) (_ : y = 7 → ¬ rd m 19 5 = 0) (_ : x1 < y), CV D 47 [.ref 19, iv y] m (fun m2 => RX m0 m2 ∧ (rd m2 19 5 = 0 → rd m 19 5 = 0))) (g_m : RX m0 m) (r_x1 : rg x1) (p0 : 0 ≤ x1 ∧ x1 ≤ 7) (p1 : x1 = 7 → ¬ rd m 19 5 = 0) : CV (D + 3) 47 [.ref 19, iv x1] m (fun m2 => RX m0 m2 ∧ (rd m2 19 5 = 0 → rd m 19 5 = 0)) := by
  refine br_47 (d := (D + 2)) r_x1 ?_
  unfold P_47
  refine CV.mono (ct_48 hD ih g_m r_x1 (by omega) (by omega)) (by omega) ?_
  rintro m2 ⟨g_m2, h_m2⟩
  refine ⟨fun x2_7 m_7 => RX m0 m_7 ∧ ((0 ≤ x2_7 ∧ x2_7 ≤ 400) ∧ (rd m_7 19 5 = 0 → rd m 19 5 = 0)), fun x2_7 m_7 => Int.toNat (400 - x2_7), ?_, ?_⟩
  · exact ⟨g_m2, by first | omega | (refine ⟨?_, ?_⟩ <;> omega) | trivial⟩
  · intro x2_7 m_7 r_x2_7 hI_7
    obtain ⟨g_m_7, hI_7⟩ := hI_7
    refine ⟨fun m_77 => RX m0 m_77 ∧ (rd m_77 19 5 = 0 → rd m 19 5 = 0), ?_, ?_⟩
    · skip
      refine ⟨fun hq => ?_, fun hq => ?_⟩
      · skip
        exact ⟨g_m_7, by first | trivial | omega | (refine ⟨?_, ?_⟩ <;> omega)⟩
      · skip
        refine ⟨fun hq => ?_, fun hq => ?_⟩
        · skip
          exact ⟨g_m_7, by first | trivial | omega | (refine ⟨?_, ?_⟩ <;> omega)⟩
        · skip
          refine CK.mono (ct_50   g_m_7.1 (by unfold rg; decide) (by unfold rg; decide)) (by omega) ?_
          rintro m26 v26 r_v26 ⟨e_m26, h_m26⟩
          replace e_m26 := e_m26.symm
          subst e_m26
          refine ⟨fun hq => ?_, fun hq => ?_⟩
          · skip
            exact ⟨g_m_7, by first | trivial | omega | (refine ⟨?_, ?_⟩ <;> omega)⟩
          · skip
            refine CK.mono (ct_36   g_m_7.1) (by omega) ?_
            rintro m33 v33 r_v33 ⟨e_m33, h_m33⟩
            replace e_m33 := e_m33.symm
            subst e_m33
            refine ⟨fun s0_46 => (s0_46 = 4 ∨ s0_46 = 5), ?_, ?_⟩
            · skip
              refine ⟨fun hq => ?_, fun hq => ?_⟩
              · skip
                (first | trivial | omega | (refine ⟨?_, ?_⟩ <;> omega))
              · skip
                (first | trivial | omega | (refine ⟨?_, ?_⟩ <;> omega))
            · intro s0_46 r_s0_46 hR_46
              refine CK.mono (ct_36   g_m_7.1) (by omega) ?_
              rintro m49 v49 r_v49 ⟨e_m49, h_m49⟩
              replace e_m49 := e_m49.symm
              subst e_m49
              refine CK.mono (ct_39   g_m_7.1 r_v49) (by omega) ?_
              rintro m52 v52 r_v52 ⟨hx_m52, h_m52⟩
              have g_m52 : RX m0 m52 := RX.tk g_m_7 hx_m52 (by omega) (by omega)
              refine CV.mono (ct_48 hD ih g_m52 r_x1 (by omega) (by omega)) (by omega) ?_
              rintro m58 ⟨g_m58, h_m58⟩
              refine CK.mono (ct_15   g_m58.1 lw_20 r_s0_46 (by unfold rg; decide) (by omega) (by omega) (fun h => by omega) g_m58.2.1) (by omega) ?_
              rintro m67 v67 r_v67 ⟨hx_m67, h_m67⟩
              have g_m67 : RX m0 m67 := RX.lw g_m58 hx_m67 h_m67.1
              have u_m67 : rd m67 19 5 = rd m58 19 5 := hx_m67.2.1 19 5 rfl
              try have w2 : wr (x2_7 + 1) = x2_7 + 1 := wr_id (by omega) (by omega)
              intro z2_71 e_z2_71
              have r_z2_71 : rg z2_71 := by rw [e_z2_71]; exact wr_rg _
              exact ⟨⟨g_m67, by first | omega | (refine ⟨?_, ?_⟩ <;> omega) | trivial⟩, by (try dsimp only); omega⟩
    · intro m_77  hR_77
      obtain ⟨g_m_77, hR_77⟩ := hR_77
      exact ⟨g_m_77, by first | trivial | omega | (refine ⟨?_, ?_⟩ <;> omega)⟩
theorem ct_47n (N : Nat) : ∀ {m0 m : Mm} {x1 : Int} (_ : RX m0 m) (_ : rg x1) (_ : 0 ≤ x1 ∧ x1 ≤ 7) (_ : x1 = 7 → ¬ rd m 19 5 = 0) (_ : Int.toNat (8 - x1) ≤ N), CV (3 * N + 3) 47 [.ref 19, iv x1] m (fun m2 => RX m0 m2 ∧ (rd m2 19 5 = 0 → rd m 19 5 = 0)) := by
  induction N with
  | zero => intros; omega
  | succ N ih =>
    intro m0 m x1 g r p0 p1 hN
    exact CV.mono (ct_47s (D := 3 * N + 3) (by omega) (fun g2 r2 q0 q1 q2 => ih g2 r2 q0 q1 (by omega)) g r p0 p1) (by omega) (fun _ h => h)
theorem ct_47 {m0 m : Mm} {x1 : Int} (g : RX m0 m) (r : rg x1) (p0 : 0 ≤ x1 ∧ x1 ≤ 7) (p1 : x1 = 7 → ¬ rd m 19 5 = 0) : CV 33 47 [.ref 19, iv x1] m (fun m2 => RX m0 m2 ∧ (rd m2 19 5 = 0 → rd m 19 5 = 0)) :=
  CV.mono (ct_47n 8 g r p0 p1 (by omega)) (by omega) (fun _ h => h)
-- TippedCrates$Reader.readLaw(I)V
set_option maxRecDepth 20000 in
theorem ct_46 {m0 m : Mm} {x1 : Int}  (g_m : RX m0 m) (r_x1 : rg x1)  : CV 34 46 [.ref 19, iv x1] m (fun m2 => RX m0 m2 ∧ (True)) := by
  refine br_46 r_x1 ?_
  unfold P_46
  refine CK.mono (ct_166   r_x1 (by unfold rg; decide) (by unfold rg; decide)) (by decide) ?_
  rintro m4 v4 r_v4 ⟨e_m4, h_m4⟩
  replace e_m4 := e_m4.symm
  subst e_m4
  refine ⟨fun hq => ?_, fun hq => ?_⟩
  · skip
    refine CK.mono (ct_39   g_m.1 r_x1) (by decide) ?_
    rintro m18 v18 r_v18 ⟨hx_m18, h_m18⟩
    have g_m18 : RX m0 m18 := RX.tk g_m hx_m18 (by omega) (by omega)
    refine CK.mono (ct_39   g_m18.1 (by unfold rg; decide)) (by decide) ?_
    rintro m25 v25 r_v25 ⟨hx_m25, h_m25⟩
    have g_m25 : RX m0 m25 := RX.tk g_m18 hx_m25 (by omega) (by omega)
    try have w1 : wr (x1 - 4) = x1 - 4 := wr_id (by omega) (by omega)
    refine CV.mono (ct_14   g_m25.1 lw_20 (wr_rg _) (by omega) g_m25.2.1) (by decide) ?_
    rintro m36 ⟨hx_m36, h_m36⟩
    have g_m36 : RX m0 m36 := RX.lw g_m25 hx_m36 h_m36
    refine ⟨fun x2_41 m_41 => RX m0 m_41 ∧ (0 ≤ x2_41 ∧ x2_41 ≤ 4), fun x2_41 m_41 => Int.toNat (4 - x2_41), ?_, ?_⟩
    · exact ⟨g_m36, by first | omega | (refine ⟨?_, ?_⟩ <;> omega) | trivial⟩
    · intro x2_41 m_41 r_x2_41 hI_41
      obtain ⟨g_m_41, hI_41⟩ := hI_41
      refine ⟨fun m_139 => RX m0 m_139 ∧ (True), ?_, ?_⟩
      · skip
        refine ⟨fun hq => ?_, fun hq => ?_⟩
        · skip
          exact ⟨g_m_41, by first | trivial | omega | (refine ⟨?_, ?_⟩ <;> omega)⟩
        · skip
          refine ⟨fun hq => ?_, fun hq => ?_⟩
          · skip
            exact ⟨g_m_41, by first | trivial | omega | (refine ⟨?_, ?_⟩ <;> omega)⟩
          · skip
            refine CK.mono (ct_36   g_m_41.1) (by decide) ?_
            rintro m54 v54 r_v54 ⟨e_m54, h_m54⟩
            replace e_m54 := e_m54.symm
            subst e_m54
            refine ⟨fun hq => ?_, fun hq => ?_⟩
            · skip
              exact ⟨g_m_41, by first | trivial | omega | (refine ⟨?_, ?_⟩ <;> omega)⟩
            · skip
              refine CK.mono (ct_39   g_m_41.1 (by unfold rg; decide)) (by decide) ?_
              rintro m65 v65 r_v65 ⟨hx_m65, h_m65⟩
              have g_m65 : RX m0 m65 := RX.tk g_m_41 hx_m65 (by omega) (by omega)
              refine CV.mono (ct_47   g_m65 (by unfold rg; decide) (by omega) (by omega)) (by decide) ?_
              rintro m71 ⟨g_m71, h_m71⟩
              refine CK.mono (ct_39   g_m71.1 (by unfold rg; decide)) (by decide) ?_
              rintro m77 v77 r_v77 ⟨hx_m77, h_m77⟩
              have g_m77 : RX m0 m77 := RX.tk g_m71 hx_m77 (by omega) (by omega)
              refine CV.mono (ct_47   g_m77 (by unfold rg; decide) (by omega) (by omega)) (by decide) ?_
              rintro m83 ⟨g_m83, h_m83⟩
              refine CK.mono (ct_15   g_m83.1 lw_20 (by unfold rg; decide) (by unfold rg; decide) (by omega) (by omega) (fun h => by omega) g_m83.2.1) (by decide) ?_
              rintro m92 v92 r_v92 ⟨hx_m92, h_m92⟩
              have g_m92 : RX m0 m92 := RX.lw g_m83 hx_m92 h_m92.1
              refine CK.mono (ct_39   g_m92.1 (by unfold rg; decide)) (by decide) ?_
              rintro m99 v99 r_v99 ⟨hx_m99, h_m99⟩
              have g_m99 : RX m0 m99 := RX.tk g_m92 hx_m99 (by omega) (by omega)
              refine CV.mono (ct_47   g_m99 (by unfold rg; decide) (by omega) (by omega)) (by decide) ?_
              rintro m105 ⟨g_m105, h_m105⟩
              refine CK.mono (ct_15   g_m105.1 lw_20 (by unfold rg; decide) (by unfold rg; decide) (by omega) (by omega) (fun h => by omega) g_m105.2.1) (by decide) ?_
              rintro m114 v114 r_v114 ⟨hx_m114, h_m114⟩
              have g_m114 : RX m0 m114 := RX.lw g_m105 hx_m114 h_m114.1
              refine CV.mono (ct_16   g_m114.1 lw_20 r_v92 (by omega) g_m114.2.1) (by decide) ?_
              rintro m123 ⟨hx_m123, h_m123⟩
              have g_m123 : RX m0 m123 := RX.lw g_m114 hx_m123 h_m123
              refine CK.mono (ct_39   g_m123.1 (by unfold rg; decide)) (by decide) ?_
              rintro m129 v129 r_v129 ⟨hx_m129, h_m129⟩
              have g_m129 : RX m0 m129 := RX.tk g_m123 hx_m129 (by omega) (by omega)
              try have w3 : wr (x2_41 + 1) = x2_41 + 1 := wr_id (by omega) (by omega)
              intro z2_133 e_z2_133
              have r_z2_133 : rg z2_133 := by rw [e_z2_133]; exact wr_rg _
              exact ⟨⟨g_m129, by first | omega | (refine ⟨?_, ?_⟩ <;> omega) | trivial⟩, by (try dsimp only); omega⟩
      · intro m_139  hR_139
        obtain ⟨g_m_139, hR_139⟩ := hR_139
        refine CK.mono (ct_36   g_m_139.1) (by decide) ?_
        rintro m140 v140 r_v140 ⟨e_m140, h_m140⟩
        replace e_m140 := e_m140.symm
        subst e_m140
        refine ⟨fun m_153 => RX m0 m_153 ∧ (True), ?_, ?_⟩
        · skip
          refine ⟨fun hq => ?_, fun hq => ?_⟩
          · skip
            exact ⟨g_m_139, by first | trivial | omega | (refine ⟨?_, ?_⟩ <;> omega)⟩
          · skip
            refine CV.mono (ct_37   g_m_139.1 (by unfold rg; decide) (by omega)) (by decide) ?_
            rintro m150 ⟨hx_m150, h_m150⟩
            have g_m150 : RX m0 m150 := RX.tk g_m_139 hx_m150 (by omega) (by omega)
            exact ⟨g_m150, by first | trivial | omega | (refine ⟨?_, ?_⟩ <;> omega)⟩
        · intro m_153  hR_153
          obtain ⟨g_m_153, hR_153⟩ := hR_153
          refine CV.mono (ct_47   g_m_153 (by unfold rg; decide) (by omega) (by omega)) (by decide) ?_
          rintro m155 ⟨g_m155, h_m155⟩
          refine CK.mono (ct_15   g_m155.1 lw_20 (by unfold rg; decide) (by unfold rg; decide) (by omega) (by omega) (fun h => by omega) g_m155.2.1) (by decide) ?_
          rintro m164 v164 r_v164 ⟨hx_m164, h_m164⟩
          have g_m164 : RX m0 m164 := RX.lw g_m155 hx_m164 h_m164.1
          exact ⟨g_m164, by first | trivial | omega | (refine ⟨?_, ?_⟩ <;> omega)⟩
  · skip
    refine CV.mono (ct_37   g_m.1 (by unfold rg; decide) (by omega)) (by decide) ?_
    rintro m12 ⟨hx_m12, h_m12⟩
    have g_m12 : RX m0 m12 := RX.tk g_m hx_m12 (by omega) (by omega)
    exact ⟨g_m12, by first | trivial | omega | (refine ⟨?_, ?_⟩ <;> omega)⟩
-- TippedCrates$Reader.readTell()V
set_option maxRecDepth 20000 in
theorem ct_41 {m0 m : Mm}   (g_m : RX m0 m)   : CV 35 41 [.ref 19] m (fun m2 => RX m0 m2 ∧ (True)) := by
  refine br_41  ?_
  unfold P_41
  refine CK.mono (ct_36   g_m.1) (by decide) ?_
  rintro m1 v1 r_v1 ⟨e_m1, h_m1⟩
  replace e_m1 := e_m1.symm
  subst e_m1
  refine ⟨fun m_132 => RX m0 m_132 ∧ (True), ?_, ?_⟩
  · skip
    refine ⟨fun hq => ?_, fun hq => ?_, fun hq => ?_, fun hq => ?_, fun hq => ?_, fun hq => ?_, fun hq => ?_, fun hq => ?_, fun hq => ?_, fun hq => ?_⟩
    · skip
      refine CK.mono (ct_39   g_m.1 r_v1) (by decide) ?_
      rintro m58 v58 r_v58 ⟨hx_m58, h_m58⟩
      have g_m58 : RX m0 m58 := RX.tk g_m hx_m58 (by omega) (by omega)
      refine CK.mono (ct_40   g_m58.1 (by unfold rg; decide) (by unfold rg; decide) (by omega) g_m58.2.2.2.1) (by decide) ?_
      rintro m66 v66 r_v66 ⟨hx_m66, h_m66⟩
      have g_m66 : RX m0 m66 := RX.tk g_m58 hx_m66 (by omega) (by omega)
      intro m69 e_m69
      have g_m69 : RX m0 m69 := by rw [e_m69]; exact RX.f8 g_m66 ⟨by omega, by omega⟩ (fun h1 h2 => by omega)
      have c5_m69 : rd m69 19 5 = rd m66 19 5 := by rw [e_m69, rd_wt, if_neg (by omega)]
      have c6_m69 : rd m69 19 6 = rd m66 19 6 := by rw [e_m69, rd_wt, if_neg (by omega)]
      refine CK.mono (ct_40   g_m69.1 (by unfold rg; decide) (by unfold rg; decide) (by omega) g_m69.2.2.2.1) (by decide) ?_
      rintro m76 v76 r_v76 ⟨hx_m76, h_m76⟩
      have g_m76 : RX m0 m76 := RX.tk g_m69 hx_m76 (by omega) (by omega)
      intro m79 e_m79
      have g_m79 : RX m0 m79 := by rw [e_m79]; exact RX.f9 g_m76 ⟨by omega, by omega⟩ (fun h1 h2 => by omega)
      exact ⟨g_m79, by first | trivial | omega | (refine ⟨?_, ?_⟩ <;> omega)⟩
    · skip
      refine CV.mono (ct_42   g_m) (by decide) ?_
      rintro m86 ⟨g_m86, h_m86⟩
      exact ⟨g_m86, by first | trivial | omega | (refine ⟨?_, ?_⟩ <;> omega)⟩
    · skip
      refine CV.mono (ct_43   g_m) (by decide) ?_
      rintro m93 ⟨g_m93, h_m93⟩
      exact ⟨g_m93, by first | trivial | omega | (refine ⟨?_, ?_⟩ <;> omega)⟩
    · skip
      refine CV.mono (ct_44   g_m) (by decide) ?_
      rintro m100 ⟨g_m100, h_m100⟩
      exact ⟨g_m100, by first | trivial | omega | (refine ⟨?_, ?_⟩ <;> omega)⟩
    · skip
      refine CV.mono (ct_46   g_m r_v1) (by decide) ?_
      rintro m129 ⟨g_m129, h_m129⟩
      exact ⟨g_m129, by first | trivial | omega | (refine ⟨?_, ?_⟩ <;> omega)⟩
    · skip
      refine CV.mono (ct_46   g_m r_v1) (by decide) ?_
      rintro m129 ⟨g_m129, h_m129⟩
      exact ⟨g_m129, by first | trivial | omega | (refine ⟨?_, ?_⟩ <;> omega)⟩
    · skip
      refine CV.mono (ct_46   g_m r_v1) (by decide) ?_
      rintro m129 ⟨g_m129, h_m129⟩
      exact ⟨g_m129, by first | trivial | omega | (refine ⟨?_, ?_⟩ <;> omega)⟩
    · skip
      refine CV.mono (ct_46   g_m r_v1) (by decide) ?_
      rintro m129 ⟨g_m129, h_m129⟩
      exact ⟨g_m129, by first | trivial | omega | (refine ⟨?_, ?_⟩ <;> omega)⟩
    · skip
      refine CK.mono (ct_39   g_m.1 r_v1) (by decide) ?_
      rintro m108 v108 r_v108 ⟨hx_m108, h_m108⟩
      have g_m108 : RX m0 m108 := RX.tk g_m hx_m108 (by omega) (by omega)
      refine CK.mono (ct_40   g_m108.1 (by unfold rg; decide) (by unfold rg; decide) (by omega) g_m108.2.2.2.1) (by decide) ?_
      rintro m118 v118 r_v118 ⟨hx_m118, h_m118⟩
      have g_m118 : RX m0 m118 := RX.tk g_m108 hx_m118 (by omega) (by omega)
      intro m121 e_m121
      have g_m121 : RX m0 m121 := by rw [e_m121]; exact RX.f10 g_m118 r_v118
      exact ⟨g_m121, by first | trivial | omega | (refine ⟨?_, ?_⟩ <;> omega)⟩
    · skip
      refine CV.mono (ct_46   g_m r_v1) (by decide) ?_
      rintro m129 ⟨g_m129, h_m129⟩
      exact ⟨g_m129, by first | trivial | omega | (refine ⟨?_, ?_⟩ <;> omega)⟩
  · intro m_132  hR_132
    obtain ⟨g_m_132, hR_132⟩ := hR_132
    refine CK.mono (ct_39   g_m_132.1 (by unfold rg; decide)) (by decide) ?_
    rintro m135 v135 r_v135 ⟨hx_m135, h_m135⟩
    have g_m135 : RX m0 m135 := RX.tk g_m_132 hx_m135 (by omega) (by omega)
    exact ⟨g_m135, by first | trivial | omega | (refine ⟨?_, ?_⟩ <;> omega)⟩
