/-- the reader's laws as they were, tokens gone on -/
def lwT (m m2 : Mm) : Prop := lwS m m2 ∧ (rd m2 19 5 = 0 → rd m 19 5 = 0 ∧ rd m 19 4 ≤ rd m2 19 4)
theorem lwS_t {a b c : Mm} (h : lwS a b) (k : lwS b c) : lwS a c := ⟨k.1.trans h.1, fun j => (k.2.1 j).trans (h.2.1 j), fun j => (k.2.2 j).trans (h.2.2 j)⟩
theorem lwT_t {a b c : Mm} (h : lwT a b) (k : lwT b c) : lwT a c := ⟨lwS_t h.1 k.1, fun z => by
  have x := k.2 z
  have y := h.2 x.1
  exact ⟨y.1, by omega⟩⟩
theorem lwT_tk {m m2 : Mm} {k v : Int} (h : GX sTk m m2) (t : tkP m m2 k v) : lwT m m2 := ⟨lwS_tk h, fun z => by
  have x := tk_k t z
  exact ⟨x.1, by omega⟩⟩
theorem lwT_ti {m m2 : Mm} (h : GX sTk m m2) (t : rd m2 19 5 = 0 → rd m 19 5 = 0 ∧ rd m2 19 4 = rd m 19 4 + 1) : lwT m m2 := ⟨lwS_tk h, fun z => by
  have x := t z
  exact ⟨x.1, by omega⟩⟩
theorem lwT_f {m m2 : Mm} (h : GX sTk m m2) (t : ¬ rd m2 19 5 = 0) : lwT m m2 := ⟨lwS_tk h, fun z => absurd z t⟩
theorem lwT_fl {m m2 : Mm} (h : GX sTk m m2) (t : rd m2 19 5 = rd m 19 5 ∧ rd m2 19 4 = rd m 19 4) : lwT m m2 := ⟨lwS_tk h, fun z => ⟨t.1.symm.trans z, by omega⟩⟩
theorem lwT_wt {m m2 : Mm} {i j : Nat} {v : Int} (hi : ¬ (i = 20 ∨ i = 22 ∨ i = 23) ∧ ¬ (i = 19 ∧ (j = 4 ∨ j = 5))) (e : m2 = wt m i j v) : lwT m m2 :=
  ⟨⟨by rw [e, rd_wt, if_neg (by omega)], fun q => by rw [e, rd_wt, if_neg (by omega)], fun q => by rw [e, rd_wt, if_neg (by omega)]⟩, fun z => by
    have e5 : rd m2 19 5 = rd m 19 5 := by rw [e, rd_wt, if_neg (by omega)]
    have e4 : rd m2 19 4 = rd m 19 4 := by rw [e, rd_wt, if_neg (by omega)]
    exact ⟨e5.symm.trans z, by omega⟩⟩
theorem lwT_wl {m m2 : Mm} {i j : Nat} {v : Int} (e : m2 = wl m i j v) : lwT m m2 :=
  ⟨⟨by rw [e, rd_wl], fun q => by rw [e, rd_wl], fun q => by rw [e, rd_wl]⟩, fun z => by
    have e5 : rd m2 19 5 = rd m 19 5 := by rw [e, rd_wl]
    have e4 : rd m2 19 4 = rd m 19 4 := by rw [e, rd_wl]
    exact ⟨e5.symm.trans z, by omega⟩⟩
/-- a sentence: a law told anew, or none -/
def tlQ (m m2 : Mm) : Prop := (lwT m m2 ∧ ¬ (4 ≤ kC m (rd m 19 4) ∧ kC m (rd m 19 4) ≤ 7)) ∨ lwP m m2 (kC m (rd m 19 4))
theorem tl_o {m m2 : Mm} (h : lwT m m2) (k : ¬ (4 ≤ kC m (rd m 19 4) ∧ kC m (rd m 19 4) ≤ 7)) : tlQ m m2 := Or.inl ⟨h, k⟩
theorem tl_l {m m2 : Mm} {v : Int} (h : lwP m m2 v) (k : v = rd m 2 (Int.toNat (rd m 19 4))) : tlQ m m2 := by
  subst k
  exact Or.inr h
theorem tl_t {m m1 m2 : Mm} (h : tlQ m m1) (k : lwT m1 m2) (u : 0 ≤ rd m 20 4 ∧ rd m 20 4 ≤ 420) : tlQ m m2 := by
  rcases h with h | h
  · exact Or.inl ⟨lwT_t h.1 k, h.2⟩
  · refine Or.inr fun z p => ?_
    have x := k.2 z
    obtain ⟨a, w, b, c, d, e, f, g⟩ := h x.1 p
    obtain ⟨k1, k2, k3⟩ := k.1
    exact ⟨a, w, by omega, (k3 _).trans c, fun j q => (k3 j).trans (d j q), fun j q => (k2 j).trans (e j q), k1.trans f, sg_fr u.1 (fun j _ _ => k2 j) g⟩
-- TippedCrates$Reader.readShut()V
set_option maxRecDepth 20000 in
theorem ey_42 {m0 m : Mm}   (g_m : RX m0 m)   : CV 3 42 [.ref 19] m (fun m2 => RX m0 m2 ∧ (((True) ∧ (∀ s : Ps, RC s m → s 0 1 = 0 → RC (pShut (tX m0) s) m2)) ∧ (lwT m m2))) := by
  refine br_42  ?_
  unfold P_42
  have ts := ty_19_11 g_m.1
  have t1 := ty_19_11 g_m.1
  refine ⟨fun hq => ?_, fun hq => ?_⟩
  · skip
    refine CK.mono (ct_39   g_m.1 (by unfold rg; decide)) (by decide) ?_
    rintro m17 v17 r_v17 ⟨hx_m17, h_m17⟩
    have g_m17 : RX m0 m17 := RX.tk g_m hx_m17 (by omega) (by omega)
    have c11_m17 : rd m17 19 11 = rd m 19 11 := hx_m17.2.1 19 11 rfl
    have c17 : ∀ s : Ps, RC s m → RC (pT (tX m0) 1 s) m17 := fun s h => rc_T h hx_m17 (tX_rx g_m) h_m17
    have A_m17 : lwT m m17 := lwT_tk hx_m17 h_m17
    refine CK.mono (cx_40   g_m17.1 (by unfold rg; decide) (by unfold rg; decide) (by omega) g_m17.2.2.2.1) (by decide) ?_
    rintro m34 v34 r_v34 ⟨hx_m34, h_m34⟩
    have g_m34 : RX m0 m34 := RX.tk g_m17 hx_m34 (by omega) (by omega)
    have c11_m34 : rd m34 19 11 = rd m17 19 11 := hx_m34.2.1 19 11 rfl
    have c34 : ∀ s : Ps, RC s m17 → RC (pI (tX m0) 0 4 s) m34 ∧ (pI (tX m0) 0 4 s 0 1 = 0 → v34 = (tX m0) 2 (s 0 0)) := fun s h => rc_I h hx_m34 (tX_rx g_m17) h_m34.2
    have A_m34 : lwT m m34 := lwT_t A_m17 (lwT_ti hx_m34 h_m34.1.2.2.1)
    have t2 := ty_19_11 g_m17.1
    try have w3 : wr ((rd m17 19 11) * 2) = (rd m17 19 11) * 2 := wr_id (by omega) (by omega)
    refine ⟨⟨by omega, by omega⟩, ?_⟩
    intro m37 e_m37
    have g_m37 : RX m0 m37 := by rw [e_m37]; exact RX.w25 g_m34 ⟨by omega, by omega⟩
    have c11_m37 : rd m37 19 11 = rd m34 19 11 := by rw [e_m37, rd_wt, if_neg (by omega)]
    have A_m37 : lwT m m37 := lwT_t A_m34 (lwT_wt (by omega) e_m37)
    refine CK.mono (cx_40   g_m37.1 (by unfold rg; decide) (by unfold rg; decide) (by omega) g_m37.2.2.2.1) (by decide) ?_
    rintro m53 v53 r_v53 ⟨hx_m53, h_m53⟩
    have g_m53 : RX m0 m53 := RX.tk g_m37 hx_m53 (by omega) (by omega)
    have c11_m53 : rd m53 19 11 = rd m37 19 11 := hx_m53.2.1 19 11 rfl
    have c53 : ∀ s : Ps, RC s m37 → RC (pI (tX m0) 0 4 s) m53 ∧ (pI (tX m0) 0 4 s 0 1 = 0 → v53 = (tX m0) 2 (s 0 0)) := fun s h => rc_I h hx_m53 (tX_rx g_m37) h_m53.2
    have A_m53 : lwT m m53 := lwT_t A_m37 (lwT_ti hx_m53 h_m53.1.2.2.1)
    have t4 := ty_19_11 g_m37.1
    try have w5 : wr ((rd m37 19 11) * 2) = (rd m37 19 11) * 2 := wr_id (by omega) (by omega)
    try have w6 : wr ((wr ((rd m37 19 11) * 2)) + 1) = (wr ((rd m37 19 11) * 2)) + 1 := wr_id (by omega) (by omega)
    refine ⟨⟨by omega, by omega⟩, ?_⟩
    intro m56 e_m56
    have g_m56 : RX m0 m56 := by rw [e_m56]; exact RX.w25 g_m53 ⟨by omega, by omega⟩
    have c11_m56 : rd m56 19 11 = rd m53 19 11 := by rw [e_m56, rd_wt, if_neg (by omega)]
    have A_m56 : lwT m m56 := lwT_t A_m53 (lwT_wt (by omega) e_m56)
    have t7 := ty_19_11 g_m56.1
    try have w8 : wr ((rd m56 19 11) + 1) = (rd m56 19 11) + 1 := wr_id (by omega) (by omega)
    intro m64 e_m64
    have g_m64 : RX m0 m64 := by rw [e_m64]; exact RX.f11 g_m56 ⟨by omega, by omega⟩
    have i37 : Int.toNat (wr ((rd m17 19 11) * 2)) = 2 * Int.toNat (rd m 19 11) := by omega
    have i56 : Int.toNat (wr ((wr ((rd m37 19 11) * 2)) + 1)) = 2 * Int.toNat (rd m 19 11) + 1 := by omega
    have x56 : rd m56 25 (2 * Int.toNat (rd m 19 11)) = v34 := by rw [e_m56, i56, rd_wt, if_neg (by omega), hx_m53.2.1 25 _ rfl, e_m37, i37, rd_wt, if_pos ⟨rfl, rfl⟩, wr_i r_v34]
    have y56 : rd m56 25 (2 * Int.toNat (rd m 19 11) + 1) = v53 := by rw [e_m56, i56, rd_wt, if_pos ⟨rfl, rfl⟩, wr_i r_v53]
    have f64 : ∀ s : Ps, RC s m → s 0 1 = 0 → RC (pShut (tX m0) s) m64 := fun s h z => by
      have en := (h.2 z).2.1.2.2.2.1
      have d34 := c34 _ (c17 s h)
      have k2 : sd s (pI (tX m0) 0 4 (pT (tX m0) 1 s)) := sd_t sd_T sd_I
      have d37 : RC _ m37 := rc_w25 d34.1 e_m37 (fun _ => by rw [k2 0 8 (by omega)]; omega)
      have d53 := c53 _ d37
      have k3 := sd_t k2 (sd_I (X := tX m0) (lo := 0) (hi := 4))
      have d56 : RC _ m56 := rc_w25 d53.1 e_m56 (fun _ => by rw [k3 0 8 (by omega)]; omega)
      unfold pShut
      rw [if_neg (by omega), ← en]
      exact rc_sh d56 ((k3 0 8 (by omega)).trans en.symm) (by omega) (fun y => x56.trans (d34.2 (pI_z y))) (fun y => y56.trans (d53.2 y)) e_m64 (by omega)
    have A_m64 : lwT m m64 := lwT_t A_m56 (lwT_wt (by omega) e_m64)
    exact ⟨g_m64, by exact ⟨by exact ⟨by first | trivial | omega | (refine ⟨?_, ?_⟩ <;> omega), by first | exact f64 | exact fun s h z => by have en := (h.2 z).2.1.2.2.2.1; unfold pShut; rw [if_pos (by omega)]; exact f11 s h⟩, by first | exact A_m64 | exact lwT_f hx_m11 (by omega)⟩⟩
  · skip
    refine CV.mono (ct_37   g_m.1 (by unfold rg; decide) (by omega)) (by decide) ?_
    rintro m11 ⟨hx_m11, h_m11⟩
    have g_m11 : RX m0 m11 := RX.tk g_m hx_m11 (by omega) (by omega)
    have f11 : ∀ s : Ps, RC s m → RC (pF (tX m0) 2 s) m11 := fun s h => rc_F h (tX_rx g_m) (by decide) h_m11
    exact ⟨g_m11, by exact ⟨by exact ⟨by first | trivial | omega | (refine ⟨?_, ?_⟩ <;> omega), by first | exact f64 | exact fun s h z => by have en := (h.2 z).2.1.2.2.2.1; unfold pShut; rw [if_pos (by omega)]; exact f11 s h⟩, by first | exact A_m64 | exact lwT_f hx_m11 (by omega)⟩⟩
-- TippedCrates$Reader.readPaint()V
set_option maxRecDepth 20000 in
theorem ey_43 {m0 m : Mm}   (g_m : RX m0 m)   : CV 3 43 [.ref 19] m (fun m2 => RX m0 m2 ∧ (((True) ∧ (∀ s : Ps, RC s m → s 0 1 = 0 → RC (pPaint (tX m0) s) m2)) ∧ (lwT m m2))) := by
  refine br_43  ?_
  unfold P_43
  have ts := ty_19_12 g_m.1
  have t1 := ty_19_12 g_m.1
  refine ⟨fun hq => ?_, fun hq => ?_⟩
  · skip
    refine CK.mono (ct_39   g_m.1 (by unfold rg; decide)) (by decide) ?_
    rintro m17 v17 r_v17 ⟨hx_m17, h_m17⟩
    have g_m17 : RX m0 m17 := RX.tk g_m hx_m17 (by omega) (by omega)
    have c12_m17 : rd m17 19 12 = rd m 19 12 := hx_m17.2.1 19 12 rfl
    have c17 : ∀ s : Ps, RC s m → RC (pT (tX m0) 2 s) m17 := fun s h => rc_T h hx_m17 (tX_rx g_m) h_m17
    have A_m17 : lwT m m17 := lwT_tk hx_m17 h_m17
    refine CK.mono (cx_40   g_m17.1 (by unfold rg; decide) (by unfold rg; decide) (by omega) g_m17.2.2.2.1) (by decide) ?_
    rintro m34 v34 r_v34 ⟨hx_m34, h_m34⟩
    have g_m34 : RX m0 m34 := RX.tk g_m17 hx_m34 (by omega) (by omega)
    have c12_m34 : rd m34 19 12 = rd m17 19 12 := hx_m34.2.1 19 12 rfl
    have c34 : ∀ s : Ps, RC s m17 → RC (pI (tX m0) 0 4 s) m34 ∧ (pI (tX m0) 0 4 s 0 1 = 0 → v34 = (tX m0) 2 (s 0 0)) := fun s h => rc_I h hx_m34 (tX_rx g_m17) h_m34.2
    have A_m34 : lwT m m34 := lwT_t A_m17 (lwT_ti hx_m34 h_m34.1.2.2.1)
    have t2 := ty_19_12 g_m17.1
    try have w3 : wr ((rd m17 19 12) * 3) = (rd m17 19 12) * 3 := wr_id (by omega) (by omega)
    refine ⟨⟨by omega, by omega⟩, ?_⟩
    intro m37 e_m37
    have g_m37 : RX m0 m37 := by rw [e_m37]; exact RX.w26 g_m34 ⟨by omega, by omega⟩ (by omega)
    have c12_m37 : rd m37 19 12 = rd m34 19 12 := by rw [e_m37, rd_wt, if_neg (by omega)]
    have A_m37 : lwT m m37 := lwT_t A_m34 (lwT_wt (by omega) e_m37)
    refine CK.mono (cx_40   g_m37.1 (by unfold rg; decide) (by unfold rg; decide) (by omega) g_m37.2.2.2.1) (by decide) ?_
    rintro m53 v53 r_v53 ⟨hx_m53, h_m53⟩
    have g_m53 : RX m0 m53 := RX.tk g_m37 hx_m53 (by omega) (by omega)
    have c12_m53 : rd m53 19 12 = rd m37 19 12 := hx_m53.2.1 19 12 rfl
    have c53 : ∀ s : Ps, RC s m37 → RC (pI (tX m0) 0 4 s) m53 ∧ (pI (tX m0) 0 4 s 0 1 = 0 → v53 = (tX m0) 2 (s 0 0)) := fun s h => rc_I h hx_m53 (tX_rx g_m37) h_m53.2
    have A_m53 : lwT m m53 := lwT_t A_m37 (lwT_ti hx_m53 h_m53.1.2.2.1)
    have t4 := ty_19_12 g_m37.1
    try have w5 : wr ((rd m37 19 12) * 3) = (rd m37 19 12) * 3 := wr_id (by omega) (by omega)
    try have w6 : wr ((wr ((rd m37 19 12) * 3)) + 1) = (wr ((rd m37 19 12) * 3)) + 1 := wr_id (by omega) (by omega)
    refine ⟨⟨by omega, by omega⟩, ?_⟩
    intro m56 e_m56
    have g_m56 : RX m0 m56 := by rw [e_m56]; exact RX.w26 g_m53 ⟨by omega, by omega⟩ (by omega)
    have c12_m56 : rd m56 19 12 = rd m53 19 12 := by rw [e_m56, rd_wt, if_neg (by omega)]
    have A_m56 : lwT m m56 := lwT_t A_m53 (lwT_wt (by omega) e_m56)
    refine CK.mono (cx_40   g_m56.1 (by unfold rg; decide) (by unfold rg; decide) (by omega) g_m56.2.2.2.1) (by decide) ?_
    rintro m73 v73 r_v73 ⟨hx_m73, h_m73⟩
    have g_m73 : RX m0 m73 := RX.tk g_m56 hx_m73 (by omega) (by omega)
    have c12_m73 : rd m73 19 12 = rd m56 19 12 := hx_m73.2.1 19 12 rfl
    have c73 : ∀ s : Ps, RC s m56 → RC (pI (tX m0) 0 9 s) m73 ∧ (pI (tX m0) 0 9 s 0 1 = 0 → v73 = (tX m0) 2 (s 0 0)) := fun s h => rc_I h hx_m73 (tX_rx g_m56) h_m73.2
    have A_m73 : lwT m m73 := lwT_t A_m56 (lwT_ti hx_m73 h_m73.1.2.2.1)
    have t7 := ty_19_12 g_m56.1
    try have w8 : wr ((rd m56 19 12) * 3) = (rd m56 19 12) * 3 := wr_id (by omega) (by omega)
    try have w9 : wr ((wr ((rd m56 19 12) * 3)) + 2) = (wr ((rd m56 19 12) * 3)) + 2 := wr_id (by omega) (by omega)
    refine ⟨⟨by omega, by omega⟩, ?_⟩
    intro m76 e_m76
    have g_m76 : RX m0 m76 := by rw [e_m76]; exact RX.w26 g_m73 ⟨by omega, by omega⟩ (by omega)
    have c12_m76 : rd m76 19 12 = rd m73 19 12 := by rw [e_m76, rd_wt, if_neg (by omega)]
    have c5_m76 : rd m76 19 5 = rd m73 19 5 := by rw [e_m76, rd_wt, if_neg (by omega)]
    have c6_m76 : rd m76 19 6 = rd m73 19 6 := by rw [e_m76, rd_wt, if_neg (by omega)]
    have l76 : rd m76 26 (3 * Int.toNat (rd m76 19 12) + 2) = v73 := by rw [e_m76, rd_wt, if_pos ⟨rfl, by rw [← e_m76]; omega⟩, wr_id (by omega) (by omega)]
    have A_m76 : lwT m m76 := lwT_t A_m73 (lwT_wt (by omega) e_m76)
    have t10 := ty_19_12 g_m76.1
    try have w11 : wr ((rd m76 19 12) + 1) = (rd m76 19 12) + 1 := wr_id (by omega) (by omega)
    intro m84 e_m84
    have g_m84 : RX m0 m84 := by rw [e_m84]; exact RX.f12 g_m76 (by omega) (by omega) (fun h1 h2 => by omega)
    have i37 : Int.toNat (wr ((rd m17 19 12) * 3)) = 3 * Int.toNat (rd m 19 12) := by omega
    have i56 : Int.toNat (wr ((wr ((rd m37 19 12) * 3)) + 1)) = 3 * Int.toNat (rd m 19 12) + 1 := by omega
    have i76 : Int.toNat (wr ((wr ((rd m56 19 12) * 3)) + 2)) = 3 * Int.toNat (rd m 19 12) + 2 := by omega
    have x76 : rd m76 26 (3 * Int.toNat (rd m 19 12)) = v34 := by rw [e_m76, i76, rd_wt, if_neg (by omega), hx_m73.2.1 26 _ rfl, e_m56, i56, rd_wt, if_neg (by omega), hx_m53.2.1 26 _ rfl, e_m37, i37, rd_wt, if_pos ⟨rfl, rfl⟩, wr_i r_v34]
    have y76 : rd m76 26 (3 * Int.toNat (rd m 19 12) + 1) = v53 := by rw [e_m76, i76, rd_wt, if_neg (by omega), hx_m73.2.1 26 _ rfl, e_m56, i56, rd_wt, if_pos ⟨rfl, rfl⟩, wr_i r_v53]
    have w76 : rd m76 26 (3 * Int.toNat (rd m 19 12) + 2) = v73 := by rw [e_m76, i76, rd_wt, if_pos ⟨rfl, rfl⟩, wr_i r_v73]
    have f84 : ∀ s : Ps, RC s m → s 0 1 = 0 → RC (pPaint (tX m0) s) m84 := fun s h z => by
      have en := (h.2 z).2.1.2.2.2.2.1
      have d34 := c34 _ (c17 s h)
      have k2 : sd s (pI (tX m0) 0 4 (pT (tX m0) 2 s)) := sd_t sd_T sd_I
      have d37 : RC _ m37 := rc_w26 d34.1 e_m37 (fun _ => by rw [k2 0 9 (by omega)]; omega)
      have d53 := c53 _ d37
      have k3 := sd_t k2 (sd_I (X := tX m0) (lo := 0) (hi := 4))
      have d56 : RC _ m56 := rc_w26 d53.1 e_m56 (fun _ => by rw [k3 0 9 (by omega)]; omega)
      have d73 := c73 _ d56
      have k4 := sd_t k3 (sd_I (X := tX m0) (lo := 0) (hi := 9))
      have d76 : RC _ m76 := rc_w26 d73.1 e_m76 (fun _ => by rw [k4 0 9 (by omega)]; omega)
      unfold pPaint
      rw [if_neg (by omega), ← en]
      exact rc_pa d76 ((k4 0 9 (by omega)).trans en.symm) (by omega) (fun y => x76.trans (d34.2 (pI_z (pI_z y)))) (fun y => y76.trans (d53.2 (pI_z y))) (fun y => w76.trans (d73.2 y)) e_m84 (by omega)
    have A_m84 : lwT m m84 := lwT_t A_m76 (lwT_wt (by omega) e_m84)
    exact ⟨g_m84, by exact ⟨by exact ⟨by first | trivial | omega | (refine ⟨?_, ?_⟩ <;> omega), by first | exact f84 | exact fun s h z => by have en := (h.2 z).2.1.2.2.2.2.1; unfold pPaint; rw [if_pos (by omega)]; exact f11 s h⟩, by first | exact A_m84 | exact lwT_f hx_m11 (by omega)⟩⟩
  · skip
    refine CV.mono (ct_37   g_m.1 (by unfold rg; decide) (by omega)) (by decide) ?_
    rintro m11 ⟨hx_m11, h_m11⟩
    have g_m11 : RX m0 m11 := RX.tk g_m hx_m11 (by omega) (by omega)
    have f11 : ∀ s : Ps, RC s m → RC (pF (tX m0) 2 s) m11 := fun s h => rc_F h (tX_rx g_m) (by decide) h_m11
    exact ⟨g_m11, by exact ⟨by exact ⟨by first | trivial | omega | (refine ⟨?_, ?_⟩ <;> omega), by first | exact f84 | exact fun s h z => by have en := (h.2 z).2.1.2.2.2.2.1; unfold pPaint; rw [if_pos (by omega)]; exact f11 s h⟩, by first | exact A_m84 | exact lwT_f hx_m11 (by omega)⟩⟩
-- TippedCrates$Reader.takeName()V
set_option maxRecDepth 20000 in
theorem ey_45 {m0 m : Mm}   (g_m : RX m0 m)  (p0 : rd m 19 13 ≤ 2) : CV 2 45 [.ref 19] m (fun m2 => RX m0 m2 ∧ (((rd m2 19 13 = rd m 19 13) ∧ (∀ s : Ps, RC s m → RC (pN (tX m0) s) m2 ∧ (pN (tX m0) s 0 1 = 0 → ld m2 29 (Int.toNat (rd m 19 13)) = (tX m0) 2 (s 0 0)))) ∧ (lwT m m2))) := by
  refine br_45  ?_
  unfold P_45
  have t1 := ty_19_4 g_m.1
  refine ⟨⟨by omega, by omega⟩, ?_⟩
  intro z1_12 e_z1_12
  have r_z1_12 : rgl z1_12 := by rw [e_z1_12]; exact (ld_rg _ _ _)
  refine ⟨⟨by omega, by omega⟩, ?_⟩
  intro z3_25 e_z3_25
  have r_z3_25 : rg z3_25 := by rw [e_z3_25]; exact (rd_rg _ _ _)
  refine CK.mono (ct_39   g_m.1 (by unfold rg; decide)) (by decide) ?_
  rintro m29 v29 r_v29 ⟨hx_m29, h_m29⟩
  have g_m29 : RX m0 m29 := RX.tk g_m hx_m29 (by omega) (by omega)
  have c13_m29 : rd m29 19 13 = rd m 19 13 := hx_m29.2.1 19 13 rfl
  have c29 : ∀ s : Ps, RC s m → RC (pT (tX m0) 21 s) m29 := fun s h => rc_T h hx_m29 (tX_rx g_m) h_m29
  have A_m29 : lwT m m29 := lwT_tk hx_m29 h_m29
  refine ⟨fun hq => ?_, fun hq => ?_⟩
  · skip
    refine ⟨fun x4_39 m_39 => RX m0 m_39 ∧ (((0 ≤ x4_39 ∧ x4_39 ≤ 3 ∧ rd m_39 19 13 = rd m 19 13) ∧ (x4_39 ≤ rd m_39 19 13 ∧ ∀ s : Ps, RC s m → (s 0 1 = 0 ∧ pT (tX m0) 21 s 0 1 = 0) ∧ RC (nmI (tX m0) s (Int.toNat x4_39)) m_39)) ∧ (lwT m m_39)), fun x4_39 m_39 => Int.toNat (3 - x4_39), ?_, ?_⟩
    · exact ⟨g_m29, by exact ⟨by exact ⟨by first | omega | (refine ⟨?_, ?_⟩ <;> omega) | trivial, by exact ⟨by have := ty_19_13 g_m29.1; omega, fun s h => nm_0 h (c29 s h) h_m29 (by omega)⟩⟩, by exact A_m29⟩⟩
    · intro x4_39 m_39 r_x4_39 hI_39
      obtain ⟨g_m_39, hI_39⟩ := hI_39
      obtain ⟨hI_39, dI_39⟩ := hI_39
      obtain ⟨hI_39, cI_39⟩ := hI_39
      have t3 := ty_19_13 g_m_39.1
      refine ⟨fun hq => ?_, fun hq => ?_⟩
      · skip
        refine ⟨⟨by omega, by omega⟩, ?_⟩
        intro m81 e_m81
        have g_m81 : RX m0 m81 := by rw [e_m81]; exact RX.wl g_m_39
        have A_m81 : lwT m m81 := lwT_t dI_39 (lwT_wl e_m81)
        exact ⟨g_m81, by exact ⟨by exact ⟨by first | omega | (rw [e_m81, rd_wl]; omega), by first | exact fun s h => nm_f (c29 s h) h_m29 (by omega) | exact fun s h => nc_e h (tX_rx g_m) (cI_39.2 s h).1 (cI_39.2 s h).2 (by omega) (by omega) e_z1_12 e_m81⟩, by first | exact A_m29 | exact A_m81⟩⟩
      · skip
        refine ⟨⟨by omega, by omega⟩, ?_⟩
        refine ⟨fun m_66 => RX m0 m_66 ∧ (((rd m_66 19 13 = rd m 19 13) ∧ (∀ s : Ps, RC s m → RC (nmI (tX m0) s (Int.toNat x4_39 + 1)) m_66)) ∧ (lwT m m_66)), ?_, ?_⟩
        · skip
          refine ⟨fun hq => ?_, fun hq => ?_⟩
          · skip
            exact ⟨g_m_39, by exact ⟨by exact ⟨by first | trivial | omega | (refine ⟨?_, ?_⟩ <;> omega), by first | exact fun s h => nm_n h (tX_rx g_m) (cI_39.2 s h).1 (cI_39.2 s h).2 (by omega) (by omega) e_z1_12 (fun w => hq (lcm_z.mpr w)) | exact fun s h => nm_y h (tX_rx g_m) (cI_39.2 s h).1 (cI_39.2 s h).2 (by omega) (by omega) e_z1_12 (lcm_z.mp hq) e_z3_25 hx_m63 h_m63⟩, by first | exact dI_39 | exact A_m63⟩⟩
          · skip
            refine CV.mono (ct_38   g_m_39.1 (by unfold rg; decide) r_z3_25) (by decide) ?_
            rintro m63 ⟨hx_m63, h_m63⟩
            have g_m63 : RX m0 m63 := RX.tk g_m_39 hx_m63 (by omega) (by omega)
            have c13_m63 : rd m63 19 13 = rd m_39 19 13 := hx_m63.2.1 19 13 rfl
            have A_m63 : lwT m m63 := lwT_t dI_39 (lwT_fl hx_m63 (by omega))
            exact ⟨g_m63, by exact ⟨by exact ⟨by first | trivial | omega | (refine ⟨?_, ?_⟩ <;> omega), by first | exact fun s h => nm_n h (tX_rx g_m) (cI_39.2 s h).1 (cI_39.2 s h).2 (by omega) (by omega) e_z1_12 (fun w => hq (lcm_z.mpr w)) | exact fun s h => nm_y h (tX_rx g_m) (cI_39.2 s h).1 (cI_39.2 s h).2 (by omega) (by omega) e_z1_12 (lcm_z.mp hq) e_z3_25 hx_m63 h_m63⟩, by first | exact dI_39 | exact A_m63⟩⟩
        · intro m_66  hR_66
          obtain ⟨g_m_66, hR_66⟩ := hR_66
          obtain ⟨hR_66, dR_66⟩ := hR_66
          obtain ⟨hR_66, cR_66⟩ := hR_66
          try have w4 : wr (x4_39 + 1) = x4_39 + 1 := wr_id (by omega) (by omega)
          intro z4_66 e_z4_66
          have r_z4_66 : rg z4_66 := by rw [e_z4_66]; exact wr_rg _
          have xr : x4_39 + 1 ≤ rd m_66 19 13 := by omega
          exact ⟨⟨g_m_66, by exact ⟨by exact ⟨by first | omega | (refine ⟨?_, ?_⟩ <;> omega) | trivial, by exact ⟨by omega, fun s h => by rw [show Int.toNat z4_66 = Int.toNat x4_39 + 1 by omega]; exact ⟨(cI_39.2 s h).1, cR_66 s h⟩⟩⟩, by exact dR_66⟩⟩, by (try dsimp only); omega⟩
  · skip
    exact ⟨g_m29, by exact ⟨by exact ⟨by first | omega | (rw [e_m81, rd_wl]; omega), by first | exact fun s h => nm_f (c29 s h) h_m29 (by omega) | exact fun s h => nc_e h (tX_rx g_m) (cI_39.2 s h).1 (cI_39.2 s h).2 (by omega) (by omega) e_z1_12 e_m81⟩, by first | exact A_m29 | exact A_m81⟩⟩
-- TippedCrates$Reader.readCrate()V
set_option maxRecDepth 20000 in
theorem ey_44 {m0 m : Mm}   (g_m : RX m0 m)   : CV 3 44 [.ref 19] m (fun m2 => RX m0 m2 ∧ (((True) ∧ (∀ s : Ps, RC s m → s 0 1 = 0 → RC (pCrate (tX m0) s) m2)) ∧ (lwT m m2))) := by
  refine br_44  ?_
  unfold P_44
  have ts := ty_19_13 g_m.1
  have t1 := ty_19_13 g_m.1
  refine ⟨fun hq => ?_, fun hq => ?_⟩
  · skip
    refine CK.mono (ct_39   g_m.1 (by unfold rg; decide)) (by decide) ?_
    rintro m16 v16 r_v16 ⟨hx_m16, h_m16⟩
    have g_m16 : RX m0 m16 := RX.tk g_m hx_m16 (by omega) (by omega)
    have c13_m16 : rd m16 19 13 = rd m 19 13 := hx_m16.2.1 19 13 rfl
    have c16 : ∀ s : Ps, RC s m → RC (pT (tX m0) 3 s) m16 := fun s h => rc_T h hx_m16 (tX_rx g_m) h_m16
    have A_m16 : lwT m m16 := lwT_tk hx_m16 h_m16
    refine CV.mono (ey_45   g_m16 (by omega)) (by decide) ?_
    rintro m21 ⟨g_m21, h_m21⟩
    obtain ⟨h_m21, l_m21⟩ := h_m21
    have hn21 := h_m21.2
    have hk21 : rd m21 19 13 = rd m16 19 13 := h_m21.1
    have A_m21 : lwT m m21 := lwT_t A_m16 l_m21
    refine CK.mono (cx_40   g_m21.1 (by unfold rg; decide) (by unfold rg; decide) (by omega) g_m21.2.2.2.1) (by decide) ?_
    rintro m37 v37 r_v37 ⟨hx_m37, h_m37⟩
    have g_m37 : RX m0 m37 := RX.tk g_m21 hx_m37 (by omega) (by omega)
    have c13_m37 : rd m37 19 13 = rd m21 19 13 := hx_m37.2.1 19 13 rfl
    have c37 : ∀ s : Ps, RC s m21 → RC (pI (tX m0) 0 4 s) m37 ∧ (pI (tX m0) 0 4 s 0 1 = 0 → v37 = (tX m0) 2 (s 0 0)) := fun s h => rc_I h hx_m37 (tX_rx g_m21) h_m37.2
    have A_m37 : lwT m m37 := lwT_t A_m21 (lwT_ti hx_m37 h_m37.1.2.2.1)
    have t2 := ty_19_13 g_m21.1
    try have w3 : wr ((rd m21 19 13) * 2) = (rd m21 19 13) * 2 := wr_id (by omega) (by omega)
    refine ⟨⟨by omega, by omega⟩, ?_⟩
    intro m40 e_m40
    have g_m40 : RX m0 m40 := by rw [e_m40]; exact RX.w27 g_m37 ⟨by omega, by omega⟩
    have c13_m40 : rd m40 19 13 = rd m37 19 13 := by rw [e_m40, rd_wt, if_neg (by omega)]
    have A_m40 : lwT m m40 := lwT_t A_m37 (lwT_wt (by omega) e_m40)
    refine CK.mono (cx_40   g_m40.1 (by unfold rg; decide) (by unfold rg; decide) (by omega) g_m40.2.2.2.1) (by decide) ?_
    rintro m56 v56 r_v56 ⟨hx_m56, h_m56⟩
    have g_m56 : RX m0 m56 := RX.tk g_m40 hx_m56 (by omega) (by omega)
    have c13_m56 : rd m56 19 13 = rd m40 19 13 := hx_m56.2.1 19 13 rfl
    have c56 : ∀ s : Ps, RC s m40 → RC (pI (tX m0) 0 4 s) m56 ∧ (pI (tX m0) 0 4 s 0 1 = 0 → v56 = (tX m0) 2 (s 0 0)) := fun s h => rc_I h hx_m56 (tX_rx g_m40) h_m56.2
    have A_m56 : lwT m m56 := lwT_t A_m40 (lwT_ti hx_m56 h_m56.1.2.2.1)
    have t4 := ty_19_13 g_m40.1
    try have w5 : wr ((rd m40 19 13) * 2) = (rd m40 19 13) * 2 := wr_id (by omega) (by omega)
    try have w6 : wr ((wr ((rd m40 19 13) * 2)) + 1) = (wr ((rd m40 19 13) * 2)) + 1 := wr_id (by omega) (by omega)
    refine ⟨⟨by omega, by omega⟩, ?_⟩
    intro m59 e_m59
    have g_m59 : RX m0 m59 := by rw [e_m59]; exact RX.w27 g_m56 ⟨by omega, by omega⟩
    have c13_m59 : rd m59 19 13 = rd m56 19 13 := by rw [e_m59, rd_wt, if_neg (by omega)]
    have i40 : Int.toNat (wr ((rd m21 19 13) * 2)) = 2 * Int.toNat (rd m 19 13) := by omega
    have i59 : Int.toNat (wr ((wr ((rd m40 19 13) * 2)) + 1)) = 2 * Int.toNat (rd m 19 13) + 1 := by omega
    have x59 : rd m59 27 (2 * Int.toNat (rd m 19 13)) = v37 := by rw [e_m59, i59, rd_wt, if_neg (by omega), hx_m56.2.1 27 _ rfl, e_m40, i40, rd_wt, if_pos ⟨rfl, rfl⟩, wr_i r_v37]
    have y59 : rd m59 27 (2 * Int.toNat (rd m 19 13) + 1) = v56 := by rw [e_m59, i59, rd_wt, if_pos ⟨rfl, rfl⟩, wr_i r_v56]
    have n59 : ∀ j, ld m59 29 j = ld m21 29 j := fun j => by rw [e_m59, ld_wt, hx_m56.2.2, e_m40, ld_wt, hx_m37.2.2]
    have f59 : ∀ s : Ps, RC s m → s 0 1 = 0 → RC (pC3 (tX m0) s) m59 ∧ (pC3 (tX m0) s 0 1 = 0 → crV (tX m0) s (Int.toNat (rd m 19 13)) m59 0) := fun s h z => by
      have en := (h.2 z).2.1.2.2.2.2.2
      have d16 := c16 s h
      have d21 := hn21 _ d16
      have k1 : sd s (pN (tX m0) (pT (tX m0) 3 s)) := sd_t sd_T sd_N
      have d37 := c37 _ d21.1
      have k2 := sd_t k1 (sd_I (X := tX m0) (lo := 0) (hi := 4))
      have d40 : RC _ m40 := rc_w27 d37.1 e_m40 (fun _ => by rw [k2 0 10 (by omega)]; omega)
      have d56 := c56 _ d40
      have k3 := sd_t k2 (sd_I (X := tX m0) (lo := 0) (hi := 4))
      have d59 : RC _ m59 := rc_w27 d56.1 e_m59 (fun _ => by rw [k3 0 10 (by omega)]; omega)
      refine ⟨d59, fun y => ⟨x59.trans (d37.2 (pI_z y)), y59.trans (d56.2 y), ?_, fun j hj => by omega⟩⟩
      rw [n59, ← show rd m16 19 13 = rd m 19 13 by omega]
      exact d21.2 (pI_z (pI_z y))
    have A_m59 : lwT m m59 := lwT_t A_m56 (lwT_wt (by omega) e_m59)
    refine ⟨fun x1_62 m_62 => RX m0 m_62 ∧ ((((0 ≤ x1_62 ∧ x1_62 ≤ 6) ∧ (rd m_62 19 13 = rd m 19 13) ∧ (rd m_62 19 5 = 0 → rd m_62 19 6 = 0 → ∀ q : Nat, (q : Int) < x1_62 → rd m_62 28 (6 * Int.toNat (rd m_62 19 13) + q) ≤ 9)) ∧ (∀ s : Ps, RC s m → s 0 1 = 0 → RC (pIs (tX m0) (pC3 (tX m0) s) (Int.toNat x1_62)) m_62 ∧ (pIs (tX m0) (pC3 (tX m0) s) (Int.toNat x1_62) 0 1 = 0 → crV (tX m0) s (Int.toNat (rd m 19 13)) m_62 (Int.toNat x1_62)))) ∧ (lwT m m_62)), fun x1_62 m_62 => Int.toNat (6 - x1_62), ?_, ?_⟩
    · exact ⟨g_m59, by exact ⟨by exact ⟨by exact ⟨by omega, by omega, fun _ _ q hq => by omega⟩, by exact f59⟩, by exact A_m59⟩⟩
    · intro x1_62 m_62 r_x1_62 hI_62
      obtain ⟨g_m_62, hI_62⟩ := hI_62
      obtain ⟨hI_62, dI_62⟩ := hI_62
      obtain ⟨hI_62, cI_62⟩ := hI_62
      refine ⟨fun hq => ?_, fun hq => ?_⟩
      · skip
        have t7 := ty_19_13 g_m_62.1
        try have w8 : wr ((rd m_62 19 13) + 1) = (rd m_62 19 13) + 1 := wr_id (by omega) (by omega)
        intro m102 e_m102
        have g_m102 : RX m0 m102 := by rw [e_m102]; exact RX.f13 g_m_62 (by omega) (by omega) (fun h1 h2 q hq => hI_62.2.2 h1 h2 q (by omega))
        have A_m102 : lwT m m102 := lwT_t dI_62 (lwT_wt (by omega) e_m102)
        exact ⟨g_m102, by exact ⟨by exact ⟨by first | trivial | omega | (refine ⟨?_, ?_⟩ <;> omega), by first | exact fun s h z => by have en := (h.2 z).2.1.2.2.2.2.2; have k := cI_62 s h z; rw [show Int.toNat x1_62 = 6 by omega] at k; unfold pCrate; rw [if_neg (by omega), ← en]; exact rc_cr k.1 (((sd_t (sd_t (sd_t (sd_t sd_T sd_N) sd_I) sd_I) (sd_Is 6)) 0 10 (by omega)).trans en.symm) (by omega) k.2 e_m102 (by omega) | exact fun s h z => by have en := (h.2 z).2.1.2.2.2.2.2; unfold pCrate; rw [if_pos (by omega)]; exact f10 s h⟩, by first | exact A_m102 | exact lwT_f hx_m10 (by omega)⟩⟩
      · skip
        refine CK.mono (cx_40   g_m_62.1 (by unfold rg; decide) (by unfold rg; decide) (by omega) g_m_62.2.2.2.1) (by decide) ?_
        rintro m85 v85 r_v85 ⟨hx_m85, h_m85⟩
        have g_m85 : RX m0 m85 := RX.tk g_m_62 hx_m85 (by omega) (by omega)
        have c13_m85 : rd m85 19 13 = rd m_62 19 13 := hx_m85.2.1 19 13 rfl
        have f85 : ∀ q, rd m85 28 q = rd m_62 28 q := fun q => hx_m85.2.1 28 q rfl
        have c85 : ∀ s : Ps, RC s m_62 → RC (pI (tX m0) 0 9 s) m85 ∧ (pI (tX m0) 0 9 s 0 1 = 0 → v85 = (tX m0) 2 (s 0 0)) := fun s h => rc_I h hx_m85 (tX_rx g_m_62) h_m85.2
        have A_m85 : lwT m m85 := lwT_t dI_62 (lwT_ti hx_m85 h_m85.1.2.2.1)
        have t9 := ty_19_13 g_m_62.1
        try have w10 : wr ((rd m_62 19 13) * 6) = (rd m_62 19 13) * 6 := wr_id (by omega) (by omega)
        try have w11 : wr ((wr ((rd m_62 19 13) * 6)) + x1_62) = (wr ((rd m_62 19 13) * 6)) + x1_62 := wr_id (by omega) (by omega)
        refine ⟨⟨by omega, by omega⟩, ?_⟩
        intro m88 e_m88
        have g_m88 : RX m0 m88 := by rw [e_m88]; exact RX.w28 g_m85 ⟨by omega, by omega⟩ (by omega)
        have c13_m88 : rd m88 19 13 = rd m85 19 13 := by rw [e_m88, rd_wt, if_neg (by omega)]
        have c5_m88 : rd m88 19 5 = rd m85 19 5 := by rw [e_m88, rd_wt, if_neg (by omega)]
        have c6_m88 : rd m88 19 6 = rd m85 19 6 := by rw [e_m88, rd_wt, if_neg (by omega)]
        have i88 : Int.toNat (wr ((wr ((rd m_62 19 13) * 6)) + x1_62)) = 6 * Int.toNat (rd m 19 13) + Int.toNat x1_62 := by omega
        have f88 : ∀ s : Ps, RC s m → s 0 1 = 0 → RC (pIs (tX m0) (pC3 (tX m0) s) (Int.toNat x1_62 + 1)) m88 ∧ (pIs (tX m0) (pC3 (tX m0) s) (Int.toNat x1_62 + 1) 0 1 = 0 → crV (tX m0) s (Int.toNat (rd m 19 13)) m88 (Int.toNat x1_62 + 1)) := fun s h z => by
          have en := (h.2 z).2.1.2.2.2.2.2
          have a := cI_62 s h z
          have d85 := c85 _ a.1
          have k : sd s (pIs (tX m0) (pC3 (tX m0) s) (Int.toNat x1_62 + 1)) := sd_t (sd_t (sd_t (sd_t sd_T sd_N) sd_I) sd_I) (sd_Is _)
          have d88 : RC (pIs (tX m0) (pC3 (tX m0) s) (Int.toNat x1_62 + 1)) m88 := rc_w28 d85.1 e_m88 (fun _ => by rw [k 0 10 (by omega)]; omega)
          exact ⟨d88, fun y => cv_s (a.2 (pI_z y)) hx_m85 e_m88 i88 r_v85 (d85.2 y)⟩
        have A_m88 : lwT m m88 := lwT_t A_m85 (lwT_wt (by omega) e_m88)
        try have w12 : wr (x1_62 + 1) = x1_62 + 1 := wr_id (by omega) (by omega)
        intro z1_89 e_z1_89
        have r_z1_89 : rg z1_89 := by rw [e_z1_89]; exact wr_rg _
        have ne : rd m88 19 13 = rd m_62 19 13 := by omega
        have k88 : rd m88 19 5 = 0 → rd m88 19 6 = 0 → ∀ q : Nat, (q : Int) < z1_89 → rd m88 28 (6 * Int.toNat (rd m88 19 13) + q) ≤ 9 := by
          intro h1 h2 q hq
          rw [ne]
          by_cases e : (q : Int) = x1_62
          · rw [show 6 * Int.toNat (rd m_62 19 13) + q = Int.toNat (wr ((wr ((rd m_62 19 13) * 6)) + x1_62)) by omega, e_m88, rd_wt, if_pos ⟨rfl, rfl⟩, wr_id (by omega) (by omega)]
            omega
          · rw [e_m88, rd_wt, if_neg (by omega), f85]
            exact hI_62.2.2 (by omega) (by omega) q (by omega)
        exact ⟨⟨g_m88, by exact ⟨by exact ⟨by exact ⟨by omega, by omega, k88⟩, by exact fun s h z => by rw [show Int.toNat z1_89 = Int.toNat x1_62 + 1 by omega]; exact f88 s h z⟩, by exact A_m88⟩⟩, by (try dsimp only); omega⟩
  · skip
    refine CV.mono (ct_37   g_m.1 (by unfold rg; decide) (by omega)) (by decide) ?_
    rintro m10 ⟨hx_m10, h_m10⟩
    have g_m10 : RX m0 m10 := RX.tk g_m hx_m10 (by omega) (by omega)
    have f10 : ∀ s : Ps, RC s m → RC (pF (tX m0) 2 s) m10 := fun s h => rc_F h (tX_rx g_m) (by decide) h_m10
    exact ⟨g_m10, by exact ⟨by exact ⟨by first | trivial | omega | (refine ⟨?_, ?_⟩ <;> omega), by first | exact fun s h z => by have en := (h.2 z).2.1.2.2.2.2.2; have k := cI_62 s h z; rw [show Int.toNat x1_62 = 6 by omega] at k; unfold pCrate; rw [if_neg (by omega), ← en]; exact rc_cr k.1 (((sd_t (sd_t (sd_t (sd_t sd_T sd_N) sd_I) sd_I) (sd_Is 6)) 0 10 (by omega)).trans en.symm) (by omega) k.2 e_m102 (by omega) | exact fun s h z => by have en := (h.2 z).2.1.2.2.2.2.2; unfold pCrate; rw [if_pos (by omega)]; exact f10 s h⟩, by first | exact A_m102 | exact lwT_f hx_m10 (by omega)⟩⟩
-- TippedCrates$Reader.readTell()V
set_option maxRecDepth 20000 in
theorem ey_41 {m0 m : Mm}   (g_m : RX m0 m)   : CV 35 41 [.ref 19] m (fun m2 => RX m0 m2 ∧ (((True) ∧ (∀ s : Ps, RC s m → s 0 1 = 0 → RC (pStep (tX m0) s) m2)) ∧ (tlQ m m2))) := by
  refine br_41  ?_
  unfold P_41
  refine CK.mono (ct_36   g_m.1) (by decide) ?_
  rintro m1 v1 r_v1 ⟨e_m1, h_m1⟩
  replace e_m1 := e_m1.symm
  subst e_m1
  refine ⟨fun m_132 => RX m0 m_132 ∧ (((True) ∧ (∀ s : Ps, RC s m → s 0 1 = 0 → RC (pTell (tX m0) v1 s) m_132)) ∧ (tlQ m m_132)), ?_, ?_⟩
  · skip
    refine ⟨fun hq => ?_, fun hq => ?_, fun hq => ?_, fun hq => ?_, fun hq => ?_, fun hq => ?_, fun hq => ?_, fun hq => ?_, fun hq => ?_, fun hq => ?_⟩
    · skip
      refine CK.mono (ct_39   g_m.1 r_v1) (by decide) ?_
      rintro m58 v58 r_v58 ⟨hx_m58, h_m58⟩
      have g_m58 : RX m0 m58 := RX.tk g_m hx_m58 (by omega) (by omega)
      have A_m58 : lwT m m58 := lwT_tk hx_m58 h_m58
      refine CK.mono (cx_40   g_m58.1 (by unfold rg; decide) (by unfold rg; decide) (by omega) g_m58.2.2.2.1) (by decide) ?_
      rintro m66 v66 r_v66 ⟨hx_m66, h_m66⟩
      have g_m66 : RX m0 m66 := RX.tk g_m58 hx_m66 (by omega) (by omega)
      have A_m66 : lwT m m66 := lwT_t A_m58 (lwT_ti hx_m66 h_m66.1.2.2.1)
      intro m69 e_m69
      have g_m69 : RX m0 m69 := by rw [e_m69]; exact RX.f8 g_m66 ⟨by omega, by omega⟩ (fun h1 h2 => by omega)
      have c5_m69 : rd m69 19 5 = rd m66 19 5 := by rw [e_m69, rd_wt, if_neg (by omega)]
      have c6_m69 : rd m69 19 6 = rd m66 19 6 := by rw [e_m69, rd_wt, if_neg (by omega)]
      have A_m69 : lwT m m69 := lwT_t A_m66 (lwT_wt (by omega) e_m69)
      refine CK.mono (cx_40   g_m69.1 (by unfold rg; decide) (by unfold rg; decide) (by omega) g_m69.2.2.2.1) (by decide) ?_
      rintro m76 v76 r_v76 ⟨hx_m76, h_m76⟩
      have g_m76 : RX m0 m76 := RX.tk g_m69 hx_m76 (by omega) (by omega)
      have A_m76 : lwT m m76 := lwT_t A_m69 (lwT_ti hx_m76 h_m76.1.2.2.1)
      intro m79 e_m79
      have g_m79 : RX m0 m79 := by rw [e_m79]; exact RX.f9 g_m76 ⟨by omega, by omega⟩ (fun h1 h2 => by omega)
      have c79 : ∀ s : Ps, RC s m → RC (pYard (tX m0) s) m79 := fun s h => by
        have h58 : tkP m m58 0 v58 := by have q := h_m58; rw [show v1 = 0 by omega] at q; exact q
        have a1 := rc_T h hx_m58 (tX_rx g_m) h58
        have a2 := rc_I a1 hx_m66 (tX_rx g_m58) h_m66.2
        have a3 : RC (pY1 (tX m0) s) m69 := rc_f8 a2.1 e_m69 r_v66 a2.2
        have a4 := rc_I a3 hx_m76 (tX_rx g_m69) h_m76.2
        exact rc_f9 a4.1 e_m79 r_v76 a4.2
      have A_m79 : lwT m m79 := lwT_t A_m76 (lwT_wt (by omega) e_m79)
      exact ⟨g_m79, by exact ⟨by exact ⟨by first | trivial | omega | (refine ⟨?_, ?_⟩ <;> omega), by first | exact fun s h z => by rw [tell_0 (by omega)]; exact c79 s h | exact fun s h z => by rw [tell_1 (by omega)]; exact h_m86.2 s h z | exact fun s h z => by rw [tell_2 (by omega)]; exact h_m93.2 s h z | exact fun s h z => by rw [tell_3 (by omega)]; exact h_m100.2 s h z | exact fun s h z => by rw [tell_8 (by omega)]; exact c121 s h | exact fun s h z => by rw [tell_d (by omega)]; exact h_m129.2 s h⟩, by first | exact tl_o A_m79 (by show ¬ (4 ≤ rd m 2 _ ∧ rd m 2 _ ≤ 7); omega) | exact tl_o l_m86 (by show ¬ (4 ≤ rd m 2 _ ∧ rd m 2 _ ≤ 7); omega) | exact tl_o l_m93 (by show ¬ (4 ≤ rd m 2 _ ∧ rd m 2 _ ≤ 7); omega) | exact tl_o l_m100 (by show ¬ (4 ≤ rd m 2 _ ∧ rd m 2 _ ≤ 7); omega) | exact tl_o A_m121 (by show ¬ (4 ≤ rd m 2 _ ∧ rd m 2 _ ≤ 7); omega) | exact tl_l l_m129 h_m1⟩⟩
    · skip
      refine CV.mono (ey_42   g_m) (by decide) ?_
      rintro m86 ⟨g_m86, h_m86⟩
      obtain ⟨h_m86, l_m86⟩ := h_m86
      exact ⟨g_m86, by exact ⟨by exact ⟨by first | trivial | omega | (refine ⟨?_, ?_⟩ <;> omega), by first | exact fun s h z => by rw [tell_0 (by omega)]; exact c79 s h | exact fun s h z => by rw [tell_1 (by omega)]; exact h_m86.2 s h z | exact fun s h z => by rw [tell_2 (by omega)]; exact h_m93.2 s h z | exact fun s h z => by rw [tell_3 (by omega)]; exact h_m100.2 s h z | exact fun s h z => by rw [tell_8 (by omega)]; exact c121 s h | exact fun s h z => by rw [tell_d (by omega)]; exact h_m129.2 s h⟩, by first | exact tl_o A_m79 (by show ¬ (4 ≤ rd m 2 _ ∧ rd m 2 _ ≤ 7); omega) | exact tl_o l_m86 (by show ¬ (4 ≤ rd m 2 _ ∧ rd m 2 _ ≤ 7); omega) | exact tl_o l_m93 (by show ¬ (4 ≤ rd m 2 _ ∧ rd m 2 _ ≤ 7); omega) | exact tl_o l_m100 (by show ¬ (4 ≤ rd m 2 _ ∧ rd m 2 _ ≤ 7); omega) | exact tl_o A_m121 (by show ¬ (4 ≤ rd m 2 _ ∧ rd m 2 _ ≤ 7); omega) | exact tl_l l_m129 h_m1⟩⟩
    · skip
      refine CV.mono (ey_43   g_m) (by decide) ?_
      rintro m93 ⟨g_m93, h_m93⟩
      obtain ⟨h_m93, l_m93⟩ := h_m93
      exact ⟨g_m93, by exact ⟨by exact ⟨by first | trivial | omega | (refine ⟨?_, ?_⟩ <;> omega), by first | exact fun s h z => by rw [tell_0 (by omega)]; exact c79 s h | exact fun s h z => by rw [tell_1 (by omega)]; exact h_m86.2 s h z | exact fun s h z => by rw [tell_2 (by omega)]; exact h_m93.2 s h z | exact fun s h z => by rw [tell_3 (by omega)]; exact h_m100.2 s h z | exact fun s h z => by rw [tell_8 (by omega)]; exact c121 s h | exact fun s h z => by rw [tell_d (by omega)]; exact h_m129.2 s h⟩, by first | exact tl_o A_m79 (by show ¬ (4 ≤ rd m 2 _ ∧ rd m 2 _ ≤ 7); omega) | exact tl_o l_m86 (by show ¬ (4 ≤ rd m 2 _ ∧ rd m 2 _ ≤ 7); omega) | exact tl_o l_m93 (by show ¬ (4 ≤ rd m 2 _ ∧ rd m 2 _ ≤ 7); omega) | exact tl_o l_m100 (by show ¬ (4 ≤ rd m 2 _ ∧ rd m 2 _ ≤ 7); omega) | exact tl_o A_m121 (by show ¬ (4 ≤ rd m 2 _ ∧ rd m 2 _ ≤ 7); omega) | exact tl_l l_m129 h_m1⟩⟩
    · skip
      refine CV.mono (ey_44   g_m) (by decide) ?_
      rintro m100 ⟨g_m100, h_m100⟩
      obtain ⟨h_m100, l_m100⟩ := h_m100
      exact ⟨g_m100, by exact ⟨by exact ⟨by first | trivial | omega | (refine ⟨?_, ?_⟩ <;> omega), by first | exact fun s h z => by rw [tell_0 (by omega)]; exact c79 s h | exact fun s h z => by rw [tell_1 (by omega)]; exact h_m86.2 s h z | exact fun s h z => by rw [tell_2 (by omega)]; exact h_m93.2 s h z | exact fun s h z => by rw [tell_3 (by omega)]; exact h_m100.2 s h z | exact fun s h z => by rw [tell_8 (by omega)]; exact c121 s h | exact fun s h z => by rw [tell_d (by omega)]; exact h_m129.2 s h⟩, by first | exact tl_o A_m79 (by show ¬ (4 ≤ rd m 2 _ ∧ rd m 2 _ ≤ 7); omega) | exact tl_o l_m86 (by show ¬ (4 ≤ rd m 2 _ ∧ rd m 2 _ ≤ 7); omega) | exact tl_o l_m93 (by show ¬ (4 ≤ rd m 2 _ ∧ rd m 2 _ ≤ 7); omega) | exact tl_o l_m100 (by show ¬ (4 ≤ rd m 2 _ ∧ rd m 2 _ ≤ 7); omega) | exact tl_o A_m121 (by show ¬ (4 ≤ rd m 2 _ ∧ rd m 2 _ ≤ 7); omega) | exact tl_l l_m129 h_m1⟩⟩
    · skip
      refine CV.mono (ey_46   g_m r_v1) (by decide) ?_
      rintro m129 ⟨g_m129, h_m129⟩
      obtain ⟨h_m129, l_m129⟩ := h_m129
      exact ⟨g_m129, by exact ⟨by exact ⟨by first | trivial | omega | (refine ⟨?_, ?_⟩ <;> omega), by first | exact fun s h z => by rw [tell_0 (by omega)]; exact c79 s h | exact fun s h z => by rw [tell_1 (by omega)]; exact h_m86.2 s h z | exact fun s h z => by rw [tell_2 (by omega)]; exact h_m93.2 s h z | exact fun s h z => by rw [tell_3 (by omega)]; exact h_m100.2 s h z | exact fun s h z => by rw [tell_8 (by omega)]; exact c121 s h | exact fun s h z => by rw [tell_d (by omega)]; exact h_m129.2 s h⟩, by first | exact tl_o A_m79 (by show ¬ (4 ≤ rd m 2 _ ∧ rd m 2 _ ≤ 7); omega) | exact tl_o l_m86 (by show ¬ (4 ≤ rd m 2 _ ∧ rd m 2 _ ≤ 7); omega) | exact tl_o l_m93 (by show ¬ (4 ≤ rd m 2 _ ∧ rd m 2 _ ≤ 7); omega) | exact tl_o l_m100 (by show ¬ (4 ≤ rd m 2 _ ∧ rd m 2 _ ≤ 7); omega) | exact tl_o A_m121 (by show ¬ (4 ≤ rd m 2 _ ∧ rd m 2 _ ≤ 7); omega) | exact tl_l l_m129 h_m1⟩⟩
    · skip
      refine CV.mono (ey_46   g_m r_v1) (by decide) ?_
      rintro m129 ⟨g_m129, h_m129⟩
      obtain ⟨h_m129, l_m129⟩ := h_m129
      exact ⟨g_m129, by exact ⟨by exact ⟨by first | trivial | omega | (refine ⟨?_, ?_⟩ <;> omega), by first | exact fun s h z => by rw [tell_0 (by omega)]; exact c79 s h | exact fun s h z => by rw [tell_1 (by omega)]; exact h_m86.2 s h z | exact fun s h z => by rw [tell_2 (by omega)]; exact h_m93.2 s h z | exact fun s h z => by rw [tell_3 (by omega)]; exact h_m100.2 s h z | exact fun s h z => by rw [tell_8 (by omega)]; exact c121 s h | exact fun s h z => by rw [tell_d (by omega)]; exact h_m129.2 s h⟩, by first | exact tl_o A_m79 (by show ¬ (4 ≤ rd m 2 _ ∧ rd m 2 _ ≤ 7); omega) | exact tl_o l_m86 (by show ¬ (4 ≤ rd m 2 _ ∧ rd m 2 _ ≤ 7); omega) | exact tl_o l_m93 (by show ¬ (4 ≤ rd m 2 _ ∧ rd m 2 _ ≤ 7); omega) | exact tl_o l_m100 (by show ¬ (4 ≤ rd m 2 _ ∧ rd m 2 _ ≤ 7); omega) | exact tl_o A_m121 (by show ¬ (4 ≤ rd m 2 _ ∧ rd m 2 _ ≤ 7); omega) | exact tl_l l_m129 h_m1⟩⟩
    · skip
      refine CV.mono (ey_46   g_m r_v1) (by decide) ?_
      rintro m129 ⟨g_m129, h_m129⟩
      obtain ⟨h_m129, l_m129⟩ := h_m129
      exact ⟨g_m129, by exact ⟨by exact ⟨by first | trivial | omega | (refine ⟨?_, ?_⟩ <;> omega), by first | exact fun s h z => by rw [tell_0 (by omega)]; exact c79 s h | exact fun s h z => by rw [tell_1 (by omega)]; exact h_m86.2 s h z | exact fun s h z => by rw [tell_2 (by omega)]; exact h_m93.2 s h z | exact fun s h z => by rw [tell_3 (by omega)]; exact h_m100.2 s h z | exact fun s h z => by rw [tell_8 (by omega)]; exact c121 s h | exact fun s h z => by rw [tell_d (by omega)]; exact h_m129.2 s h⟩, by first | exact tl_o A_m79 (by show ¬ (4 ≤ rd m 2 _ ∧ rd m 2 _ ≤ 7); omega) | exact tl_o l_m86 (by show ¬ (4 ≤ rd m 2 _ ∧ rd m 2 _ ≤ 7); omega) | exact tl_o l_m93 (by show ¬ (4 ≤ rd m 2 _ ∧ rd m 2 _ ≤ 7); omega) | exact tl_o l_m100 (by show ¬ (4 ≤ rd m 2 _ ∧ rd m 2 _ ≤ 7); omega) | exact tl_o A_m121 (by show ¬ (4 ≤ rd m 2 _ ∧ rd m 2 _ ≤ 7); omega) | exact tl_l l_m129 h_m1⟩⟩
    · skip
      refine CV.mono (ey_46   g_m r_v1) (by decide) ?_
      rintro m129 ⟨g_m129, h_m129⟩
      obtain ⟨h_m129, l_m129⟩ := h_m129
      exact ⟨g_m129, by exact ⟨by exact ⟨by first | trivial | omega | (refine ⟨?_, ?_⟩ <;> omega), by first | exact fun s h z => by rw [tell_0 (by omega)]; exact c79 s h | exact fun s h z => by rw [tell_1 (by omega)]; exact h_m86.2 s h z | exact fun s h z => by rw [tell_2 (by omega)]; exact h_m93.2 s h z | exact fun s h z => by rw [tell_3 (by omega)]; exact h_m100.2 s h z | exact fun s h z => by rw [tell_8 (by omega)]; exact c121 s h | exact fun s h z => by rw [tell_d (by omega)]; exact h_m129.2 s h⟩, by first | exact tl_o A_m79 (by show ¬ (4 ≤ rd m 2 _ ∧ rd m 2 _ ≤ 7); omega) | exact tl_o l_m86 (by show ¬ (4 ≤ rd m 2 _ ∧ rd m 2 _ ≤ 7); omega) | exact tl_o l_m93 (by show ¬ (4 ≤ rd m 2 _ ∧ rd m 2 _ ≤ 7); omega) | exact tl_o l_m100 (by show ¬ (4 ≤ rd m 2 _ ∧ rd m 2 _ ≤ 7); omega) | exact tl_o A_m121 (by show ¬ (4 ≤ rd m 2 _ ∧ rd m 2 _ ≤ 7); omega) | exact tl_l l_m129 h_m1⟩⟩
    · skip
      refine CK.mono (ct_39   g_m.1 r_v1) (by decide) ?_
      rintro m108 v108 r_v108 ⟨hx_m108, h_m108⟩
      have g_m108 : RX m0 m108 := RX.tk g_m hx_m108 (by omega) (by omega)
      have A_m108 : lwT m m108 := lwT_tk hx_m108 h_m108
      refine CK.mono (cx_40   g_m108.1 (by unfold rg; decide) (by unfold rg; decide) (by omega) g_m108.2.2.2.1) (by decide) ?_
      rintro m118 v118 r_v118 ⟨hx_m118, h_m118⟩
      have g_m118 : RX m0 m118 := RX.tk g_m108 hx_m118 (by omega) (by omega)
      have A_m118 : lwT m m118 := lwT_t A_m108 (lwT_ti hx_m118 h_m118.1.2.2.1)
      intro m121 e_m121
      have g_m121 : RX m0 m121 := by rw [e_m121]; exact RX.f10 g_m118 r_v118
      have c121 : ∀ s : Ps, RC s m → RC (pSeed (tX m0) s) m121 := fun s h => by
        have h108 : tkP m m108 8 v108 := by have q := h_m108; rw [show v1 = 8 by omega] at q; exact q
        have a1 := rc_T h hx_m108 (tX_rx g_m) h108
        have a2 := rc_I a1 hx_m118 (tX_rx g_m108) h_m118.2
        exact rc_f10 a2.1 e_m121 r_v118 a2.2
      have A_m121 : lwT m m121 := lwT_t A_m118 (lwT_wt (by omega) e_m121)
      exact ⟨g_m121, by exact ⟨by exact ⟨by first | trivial | omega | (refine ⟨?_, ?_⟩ <;> omega), by first | exact fun s h z => by rw [tell_0 (by omega)]; exact c79 s h | exact fun s h z => by rw [tell_1 (by omega)]; exact h_m86.2 s h z | exact fun s h z => by rw [tell_2 (by omega)]; exact h_m93.2 s h z | exact fun s h z => by rw [tell_3 (by omega)]; exact h_m100.2 s h z | exact fun s h z => by rw [tell_8 (by omega)]; exact c121 s h | exact fun s h z => by rw [tell_d (by omega)]; exact h_m129.2 s h⟩, by first | exact tl_o A_m79 (by show ¬ (4 ≤ rd m 2 _ ∧ rd m 2 _ ≤ 7); omega) | exact tl_o l_m86 (by show ¬ (4 ≤ rd m 2 _ ∧ rd m 2 _ ≤ 7); omega) | exact tl_o l_m93 (by show ¬ (4 ≤ rd m 2 _ ∧ rd m 2 _ ≤ 7); omega) | exact tl_o l_m100 (by show ¬ (4 ≤ rd m 2 _ ∧ rd m 2 _ ≤ 7); omega) | exact tl_o A_m121 (by show ¬ (4 ≤ rd m 2 _ ∧ rd m 2 _ ≤ 7); omega) | exact tl_l l_m129 h_m1⟩⟩
    · skip
      refine CV.mono (ey_46   g_m r_v1) (by decide) ?_
      rintro m129 ⟨g_m129, h_m129⟩
      obtain ⟨h_m129, l_m129⟩ := h_m129
      exact ⟨g_m129, by exact ⟨by exact ⟨by first | trivial | omega | (refine ⟨?_, ?_⟩ <;> omega), by first | exact fun s h z => by rw [tell_0 (by omega)]; exact c79 s h | exact fun s h z => by rw [tell_1 (by omega)]; exact h_m86.2 s h z | exact fun s h z => by rw [tell_2 (by omega)]; exact h_m93.2 s h z | exact fun s h z => by rw [tell_3 (by omega)]; exact h_m100.2 s h z | exact fun s h z => by rw [tell_8 (by omega)]; exact c121 s h | exact fun s h z => by rw [tell_d (by omega)]; exact h_m129.2 s h⟩, by first | exact tl_o A_m79 (by show ¬ (4 ≤ rd m 2 _ ∧ rd m 2 _ ≤ 7); omega) | exact tl_o l_m86 (by show ¬ (4 ≤ rd m 2 _ ∧ rd m 2 _ ≤ 7); omega) | exact tl_o l_m93 (by show ¬ (4 ≤ rd m 2 _ ∧ rd m 2 _ ≤ 7); omega) | exact tl_o l_m100 (by show ¬ (4 ≤ rd m 2 _ ∧ rd m 2 _ ≤ 7); omega) | exact tl_o A_m121 (by show ¬ (4 ≤ rd m 2 _ ∧ rd m 2 _ ≤ 7); omega) | exact tl_l l_m129 h_m1⟩⟩
  · intro m_132  hR_132
    obtain ⟨g_m_132, hR_132⟩ := hR_132
    obtain ⟨hR_132, dR_132⟩ := hR_132
    obtain ⟨hR_132, cR_132⟩ := hR_132
    refine CK.mono (ct_39   g_m_132.1 (by unfold rg; decide)) (by decide) ?_
    rintro m135 v135 r_v135 ⟨hx_m135, h_m135⟩
    have g_m135 : RX m0 m135 := RX.tk g_m_132 hx_m135 (by omega) (by omega)
    exact ⟨g_m135, by exact ⟨by exact ⟨by first | trivial | omega | (refine ⟨?_, ?_⟩ <;> omega), by exact fun s h z => by unfold pStep; rw [rc_k h z (tX_rx g_m), ← h_m1]; exact rc_T (cR_132 s h z) hx_m135 (tX_rx g_m_132) h_m135⟩, by exact tl_t dR_132 (lwT_tk hx_m135 h_m135) (ty_lw4 g_m.1 lw_20)⟩⟩
