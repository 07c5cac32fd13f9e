theorem mk_q {m : Mm} {x1 x3 v a b : Int} (e : a = b) (h : v = rd m 323 (Int.toNat (25 + 6 * x1 + rd m 319 (Int.toNat (6 * a + x3))))) : v = rd m 323 (Int.toNat (25 + 6 * x1 + rd m 319 (Int.toNat (6 * b + x3)))) := by subst e; exact h
def fl5 (m m2 : Mm) : Prop := ∀ i j : Nat, ¬ i = 325 → rd m2 i j = rd m i j
theorem cf_fl {m m2 : Mm} {c f k : Int} (h : fl5 m m2) (w : cfM m2 c f k) : cfM m c f k := by
  unfold cfM tknM at w ⊢
  simp only [h 284 _ (by decide), h 293 _ (by decide), h 294 _ (by decide), h 302 _ (by decide), h 323 _ (by decide)] at w
  exact w
theorem cf_lf {m m2 : Mm} {c f k : Int} (h : fl5 m m2) (w : cfM m c f k) : cfM m2 c f k := by
  unfold cfM tknM at w ⊢
  simp only [h 284 _ (by decide), h 293 _ (by decide), h 294 _ (by decide), h 302 _ (by decide), h 323 _ (by decide)]
  exact w
theorem fb_fl {m m2 : Mm} {f k : Int} (h : fl5 m m2) : fbyI (rd m2 293 (Int.toNat (rd m2 284 18))) (rd m2 294 (Int.toNat (rd m2 284 18))) f k = fbyI (rd m 293 (Int.toNat (rd m 284 18))) (rd m 294 (Int.toNat (rd m 284 18))) f k := by
  rw [h 284 18 (by decide), h 293 _ (by decide), h 294 _ (by decide)]
/-- where the model says that a crate can go from a flag -/
def tdP (m : Mm) (c f k t : Int) : Prop := (t = -1 ∧ ¬ cfM m c f k) ∨ (cfM m c f k ∧ t = fbyI (rd m 293 (Int.toNat (rd m 284 18))) (rd m 294 (Int.toNat (rd m 284 18))) f k)
def ldI (m m2 : Mm) (c x y z : Int) : Prop := ∀ f k l : Int, 0 ≤ f → 0 ≤ k → k ≤ 3 → 0 ≤ l → l ≤ 23 → (f < x ∨ (f = x ∧ (k < y ∨ (k = y ∧ l < z)))) → ∃ t, tdP m c f k t ∧ rd m2 325 (Int.toNat (96 * f + 4 * l + k)) = if 0 ≤ t then 24 * t + rd m 320 (Int.toNat (4 * l + k)) else -1
theorem ld_0 {m m2 : Mm} {c : Int} : ldI m m2 c 0 0 0 := fun f k l f0 k0 k1 l0 l1 h => by omega
theorem ls_1 {m m2 : Mm} {t l k : Int} {q : Nat} (h : 0 ≤ t) (f : fl5 m m2) (b : wr (wr (24 * t) + rd m2 320 q) = 24 * t + rd m2 320 q) (eq : q = Int.toNat (4 * l + k)) : wr (wr (24 * t) + rd m2 320 q) = if 0 ≤ t then 24 * t + rd m 320 (Int.toNat (4 * l + k)) else -1 := by
  rw [if_pos h, b, f 320 _ (by decide), eq]
theorem ls_0 {t u : Int} (h : ¬ 0 ≤ t) : (-1 : Int) = if 0 ≤ t then u else -1 := (if_neg h).symm
theorem ld_k {m m2 : Mm} {c x y z u : Int} (h : ldI m m2 c x y z) (hz : 24 ≤ z) (eu : u = y + 1) : ldI m m2 c x u 0 := fun f k l f0 k0 k1 l0 l1 w => h f k l f0 k0 k1 l0 l1 (by omega)
theorem ld_f {m m2 : Mm} {c x y u : Int} (h : ldI m m2 c x y 0) (hy : 4 ≤ y) (eu : u = x + 1) : ldI m m2 c u 0 0 := fun f k l f0 k0 k1 l0 l1 w => h f k l f0 k0 k1 l0 l1 (by omega)
theorem ld_s {m m46 m94 : Mm} {c x y z u t v w : Int} (d : fl5 m m46 ∧ ldI m m46 c x y z) (td : tdP m c x y t) (ev : v = if 0 ≤ t then 24 * t + rd m 320 (Int.toNat (4 * z + y)) else -1) (rv : rg v) (e : m94 = wt m46 325 (Int.toNat w) v) (ew : w = 96 * x + 4 * z + y) (b : 0 ≤ x ∧ (0 ≤ y ∧ y ≤ 3) ∧ 0 ≤ z ∧ z ≤ 23) (eu : u = z + 1) : fl5 m m94 ∧ ldI m m94 c x y u := by
  refine ⟨fun i j q => by rw [e, rd_wt, if_neg (by omega)]; exact d.1 i j q, fun f k l f0 k0 k1 l0 l1 h => ?_⟩
  rw [e, rd_wt, ew]
  by_cases q : f = x ∧ k = y ∧ l = z
  · obtain ⟨rfl, rfl, rfl⟩ := q
    exact ⟨t, td, by rw [if_pos ⟨rfl, rfl⟩, wr_i rv]; exact ev⟩
  · rw [if_neg (by omega)]
    exact d.2 f k l f0 k0 k1 l0 l1 (by omega)
/-- behind fillsLeads -/
def fsP (m m2 : Mm) (c : Int) : Prop := ∃ m1, cpR m m1 ∧ fl5 m1 m2 ∧ ∀ f k l : Int, 0 ≤ f → f < rd m2 293 (Int.toNat (rd m2 284 18)) * rd m2 294 (Int.toNat (rd m2 284 18)) → 0 ≤ k → k ≤ 3 → 0 ≤ l → l ≤ 23 → ∃ t, tdP m1 c f k t ∧ rd m2 325 (Int.toNat (96 * f + 4 * l + k)) = if 0 ≤ t then 24 * t + rd m1 320 (Int.toNat (4 * l + k)) else -1
theorem ld_e {m m2 : Mm} {c x v : Int} (h : ldI m m2 c x 0 0) (hx : v ≤ x) : ∀ f k l : Int, 0 ≤ f → f < v → 0 ≤ k → k ≤ 3 → 0 ≤ l → l ≤ 23 → ∃ t, tdP m c f k t ∧ rd m2 325 (Int.toNat (96 * f + 4 * l + k)) = if 0 ≤ t then 24 * t + rd m 320 (Int.toNat (4 * l + k)) else -1 := fun f k l f0 f1 k0 k1 l0 l1 => h f k l f0 k0 k1 l0 l1 (by omega)
/-! standing by standing -/
def f29 (m m2 : Mm) : Prop := ∀ i j : Nat, ¬ (326 ≤ i ∧ i ≤ 329) → ¬ (i = 284 ∧ j = 67) → rd m2 i j = rd m i j
theorem f29.trans {a b c : Mm} (h : f29 a b) (k : f29 b c) : f29 a c := fun i j q p => (k i j q p).trans (h i j q p)
def agL (m : Mm) (mv : Int → Int → Int) (N : Int) : Prop := ∀ s k : Int, 0 ≤ s → s < N → 0 ≤ k → k ≤ 3 → rd m 325 (Int.toNat (4 * s + k)) = mv s k
def stL (m : Mm) (c : Int) : Int := 24 * rd m 323 (Int.toNat (43 + c))
def wl64 (m m2 : Mm) (c x : Int) : Prop := ∀ mv N, agL m mv N → cloN mv N → 0 ≤ stL m c → stL m c < N → ∃ W, okWk N W ∧ wkR m2 284 67 329 326 W ∧ vr mv (Int.toNat (600 - x)) (Int.toNat x) W = FIN mv (stL m c)
def wl74 (m m2 : Mm) (c x y : Int) : Prop := ∀ mv N, agL m mv N → cloN mv N → 0 ≤ stL m c → stL m c < N → ∃ W, okWk N W ∧ x < W 0 0 ∧ wkR m2 284 67 329 326 (v4 mv W (W 1 (Int.toNat x)) (Int.toNat y)) ∧ vr mv (Int.toNat (600 - x)) (Int.toNat x) W = FIN mv (stL m c)
def wlF (m m2 : Mm) (c : Int) : Prop := ∀ mv N, agL m mv N → cloN mv N → 0 ≤ stL m c → stL m c < N → okWk N (FIN mv (stL m c)) ∧ wkR m2 284 67 329 326 (FIN mv (stL m c))
theorem wl_i {m m7 m44 m56 m59 : Mm} {c : Int} {q : Nat} (w : wr (24 * rd m7 323 q) = 24 * rd m7 323 q ∧ q = Int.toNat (43 + c) ∧ 0 ≤ 24 * rd m7 323 q) (f : ∀ i j : Nat, ¬ i = 326 → rd m7 i j = rd m i j) (z : ∀ j : Nat, j < 600 → rd m7 326 j = -1) (e44 : m44 = wt m7 329 0 (wr (24 * rd m7 323 q))) (e56 : m56 = wt m44 326 (Int.toNat (rd m44 329 0)) 0) (e59 : m59 = wt m56 284 67 1) : f29 m m59 ∧ wl64 m m59 c 0 := by
  refine ⟨fun i j h1 h2 => by rw [e59, rd_wt, if_neg (by omega), e56, rd_wt, if_neg (by omega), e44, rd_wt, if_neg (by omega)]; exact f i j (by omega), fun mv N ag cl s0 s1 => ⟨vis w00 (stL m c) 0, vis_ok (okW_0 N) ⟨s0, s1⟩ ⟨Int.le_refl _, Int.le_refl _⟩, ?_, rfl⟩⟩
  have es : rd m44 329 0 = stL m c := by
    rw [e44, rd_wt, if_pos ⟨rfl, rfl⟩, wr_i (wr_rg _), w.1, f 323 _ (by omega), w.2.1]
    rfl
  have l : w00 0 0 < 600 := by decide
  refine ⟨?_, fun j hj => ?_, fun j hj => ?_⟩
  · rw [vis_0 l, e59, rd_wt, if_pos ⟨rfl, rfl⟩]
    rfl
  · rw [vis_0 l] at hj
    have hj0 : (j : Int) < 0 + 1 := hj
    rw [vis_n l (by show (j : Int) = 0; omega), e59, rd_wt, if_neg (by omega), e56, rd_wt, if_neg (by omega), show j = 0 by omega]
    exact es
  · rw [vis_2 l, e59, rd_wt, if_neg (by omega), e56, rd_wt, es]
    by_cases q2 : j = Int.toNat (stL m c)
    · rw [if_pos ⟨rfl, q2⟩, if_pos q2]; rfl
    · rw [if_neg (fun w => q2 w.2), if_neg q2, e44, rd_wt, if_neg (by omega)]
      exact z j hj
section WMC
variable {m m74 m176 : Mm} {mv : Int → Int → Int} {N s k z : Int} {W : Wk}
theorem wm_z (ag : agL m mv N) (f : f29 m m74) (s0 : 0 ≤ s) (s1 : s < N) (hk : 0 ≤ k ∧ k ≤ 3) (ez : z = rd m74 325 (Int.toNat (4 * s + k))) : z = mv s k := by
  rw [ez, f 325 _ (by omega) (by omega)]
  exact ag s k s0 s1 hk.1 hk.2
theorem wm_0 (ag : agL m mv N) (cl : cloN mv N) (f : f29 m m74) (h : wkR m74 284 67 329 326 W) (s0 : 0 ≤ s) (s1 : s < N) (hk : 0 ≤ k ∧ k ≤ 3) (ez : z = rd m74 325 (Int.toNat (4 * s + k))) (n : z < 0) : wkR m74 284 67 329 326 (vk mv W s k) := by
  have e := wm_z ag f s0 s1 hk ez
  have c := cl s k s0 s1 hk.1 hk.2
  unfold vk
  rw [if_pos (by omega)]
  exact h
theorem wm_n (ag : agL m mv N) (f : f29 m m74) (h : wkR m74 284 67 329 326 W) (s0 : 0 ≤ s) (s1 : s < N) (hk : 0 ≤ k ∧ k ≤ 3) (ez : z = rd m74 325 (Int.toNat (4 * s + k))) (hz : 0 ≤ z ∧ z < 600) (n : ¬ rd m74 326 (Int.toNat z) < 0) : wkR m74 284 67 329 326 (vk mv W s k) := by
  have e := wm_z ag f s0 s1 hk ez
  have w := h.2.2 (Int.toNat z) (by omega)
  unfold vk
  rw [← e, if_neg (by omega), if_neg (by omega)]
  exact h
theorem wm_C {m133 m146 m154 m165 m173 : Mm} {a b : Int} (f : f29 m m74) (hk : (0 ≤ k ∧ k ≤ 3) ∧ (0 ≤ rd m74 284 67 ∧ rd m74 284 67 < 600) ∧ 0 ≤ s ∧ s < 600) (ez : z = rd m74 325 (Int.toNat (4 * s + k))) (hz : 0 ≤ z ∧ z < 600) (n : rd m74 326 (Int.toNat z) < 0) (rz : rg z) (e133 : m133 = wt m74 326 (Int.toNat z) (wr (rd m74 326 (Int.toNat s) + 1))) (e146 : m146 = wt m133 327 (Int.toNat z) a) (e154 : m154 = wt m146 328 (Int.toNat z) b) (e165 : m165 = wt m154 329 (Int.toNat (rd m154 284 67)) z) (e173 : m173 = wt m165 284 67 (wr (rd m165 284 67 + 1))) : f29 m74 m173 ∧ ∀ mv N, agL m mv N → cloN mv N → ∀ W, okWk N W → wkR m74 284 67 329 326 W → 0 ≤ s → s < N → 0 ≤ W 2 (Int.toNat s) → wkR m173 284 67 329 326 (vk mv W s k) := by
  have n154 : rd m154 284 67 = rd m74 284 67 := by rw [e154, rd_wt, if_neg (by omega), e146, rd_wt, if_neg (by omega), e133, rd_wt, if_neg (by omega)]
  refine ⟨fun i j h1 h2 => by rw [e173, rd_wt, if_neg (by omega), e165, rd_wt, if_neg (by omega), e154, rd_wt, if_neg (by omega), e146, rd_wt, if_neg (by omega), e133, rd_wt, if_neg (by omega)], fun mv N ag cl W oW h s0 s1 s2 => ?_⟩
  have e := wm_z ag f s0 s1 hk.1 ez
  have w := h.2.2 (Int.toNat z) (by omega)
  have o := oW.2.2.1 (Int.toNat z)
  have ws := h.2.2 (Int.toNat s) (by omega)
  unfold vk
  rw [← e, if_neg (by omega), if_pos (by omega), ← ws]
  refine wkR_vis h hk.2.1.2 hk.2.1.1 ?_ (fun j => ?_) (fun j => ?_)
  · rw [e173, rd_wt, if_pos ⟨rfl, rfl⟩, wr_i (wr_rg _), e165, rd_wt, if_neg (by omega), n154, wr_id (by omega) (by omega)]
  · rw [e173, rd_wt, if_neg (by omega), e165, rd_wt, n154]
    by_cases q : j = Int.toNat (rd m74 284 67)
    · rw [if_pos ⟨rfl, q⟩, if_pos q, wr_i rz]
    · rw [if_neg (fun w => q w.2), if_neg q, e154, rd_wt, if_neg (by omega), e146, rd_wt, if_neg (by omega), e133, rd_wt, if_neg (by omega)]
  · rw [e173, rd_wt, if_neg (by omega), e165, rd_wt, if_neg (by omega), e154, rd_wt, if_neg (by omega), e146, rd_wt, if_neg (by omega), e133, rd_wt]
    by_cases q : j = Int.toNat z
    · rw [if_pos ⟨rfl, q⟩, if_pos q, wr_i (wr_rg _)]
    · rw [if_neg (fun w => q w.2), if_neg q]
end WMC
theorem wm_a {m m64 : Mm} {c x : Int} (h : wl64 m m64 c x) (hx : x < rd m64 284 67) : wl74 m m64 c x 0 := fun mv N ag cl s0 s1 => by
  obtain ⟨W, a, b, d⟩ := h mv N ag cl s0 s1
  exact ⟨W, a, by rw [← b.1]; exact hx, b, d⟩
theorem wm_b {m m74 m176 : Mm} {c x y z : Int} (d : f29 m m74 ∧ wl74 m m74 c x y) (q : f29 m74 m176 ∧ ∀ mv N, agL m mv N → cloN mv N → ∀ W, okWk N W → wkR m74 284 67 329 326 W → 0 ≤ rd m74 329 (Int.toNat x) → rd m74 329 (Int.toNat x) < N → 0 ≤ W 2 (Int.toNat (rd m74 329 (Int.toNat x))) → wkR m176 284 67 329 326 (vk mv W (rd m74 329 (Int.toNat x)) y)) (hx : 0 ≤ x) (hy : (0 ≤ y ∧ y ≤ 3) ∧ z = y + 1) : f29 m m176 ∧ wl74 m m176 c x z := by
  refine ⟨d.1.trans q.1, fun mv N ag cl s0 s1 => ?_⟩
  obtain ⟨W, a, b, c2, e⟩ := d.2 mv N ag cl s0 s1
  have r := a.2.1 (Int.toNat x) (by omega)
  have r2 := a.2.2.2 (Int.toNat x) (by omega)
  have o4 := v4_ok cl a r r2 (Int.toNat y) (by omega)
  have l4 := v4_le (mv := mv) (W := W) (s := W 1 (Int.toNat x)) (Int.toNat y)
  have es : rd m74 329 (Int.toNat x) = W 1 (Int.toNat x) := (c2.2.1 (Int.toNat x) (by omega)).trans (v4_1 a.1.1 (by omega) _)
  have t := q.2 mv N ag cl _ o4 c2 (by rw [es]; exact r.1) (by rw [es]; exact r.2) (by rw [es, v4_2 r2]; exact r2)
  rw [es] at t
  refine ⟨W, a, b, ?_, e⟩
  rw [show Int.toNat z = Int.toNat y + 1 by omega]
  show wkR m176 284 67 329 326 (vk mv (v4 mv W (W 1 (Int.toNat x)) (Int.toNat y)) (W 1 (Int.toNat x)) ((Int.toNat y : Nat) : Int))
  rw [show ((Int.toNat y : Nat) : Int) = y by omega]
  exact t
theorem wm_c {m m74 : Mm} {c x y z : Int} (h : wl74 m m74 c x y) (hy : y = 4 ∧ 0 ≤ x ∧ x < 600) (ez : z = x + 1) : wl64 m m74 c z := fun mv N ag cl s0 s1 => by
  obtain ⟨W, a, b, c2, d⟩ := h mv N ag cl s0 s1
  have r := a.2.1 (Int.toNat x) (by omega)
  refine ⟨v4 mv W (W 1 (Int.toNat x)) 4, v4_ok cl a r (a.2.2.2 (Int.toNat x) (by omega)) 4 (Nat.le_refl _), by rw [hy.1] at c2; exact c2, ?_⟩
  rw [← d]
  exact (vr_s hy.2.1 hy.2.2 b ez).symm
theorem wm_d {m m64 : Mm} {c x : Int} (h : wl64 m m64 c x) (hx : 0 ≤ x) (e : rd m64 284 67 ≤ x) : wlF m m64 c := fun mv N ag cl s0 s1 => by
  obtain ⟨W, a, b, d⟩ := h mv N ag cl s0 s1
  rw [vr_e hx (Or.inl (by rw [← b.1]; exact e))] at d
  rw [← d]
  exact ⟨a, b⟩
-- TippedCratesModel.markOf(III)I
set_option maxRecDepth 20000 in
theorem my_248 {m : Mm} {x1 : Int} {x2 : Int} {x3 : Int}  (T_m : Ty m) (r_x1 : rg x1) (r_x2 : rg x2) (r_x3 : rg x3) (p0 : 0 ≤ x1 ∧ x1 ≤ 2) (p1 : 0 ≤ x2 ∧ x2 ≤ 599) (p2 : 0 ≤ x3 ∧ x3 ≤ 5) : CK 2 248 [.ref 284, iv x1, iv x2, iv x3] m (fun m2 v => m2 = m ∧ ((0 ≤ v ∧ v ≤ 9) ∧ (v = rd m 323 (Int.toNat (25 + 6 * x1 + rd m 319 (Int.toNat (6 * (x2 % 24) + x3))))))) := by
  refine br_248 r_x1 r_x2 r_x3 ?_
  unfold P_248
  try have q1 : rmI x2 24 = x2 % 24 := rm_eq (by omega) (by omega) (by omega) (by omega)
  refine CK.mono (mz_227   T_m r_x1 (io_rg _ _ _) r_x3 (by omega) (by omega) (by omega)) (by decide) ?_
  rintro m7 v7 r_v7 ⟨e_m7, h_m7⟩
  replace e_m7 := e_m7.symm
  subst e_m7
  exact ⟨rfl, by exact ⟨by first | trivial | omega | (refine ⟨?_, ?_⟩ <;> omega), by exact mk_q (by omega) h_m7.2⟩⟩
-- TippedCratesModel.fillsLeads(I)V
set_option maxRecDepth 20000 in
theorem my_246 {m0 m : Mm} {x1 : Int}  (g_m : G m0 m) (r_x1 : rg x1) (p0 : MW m0) (p1 : 0 ≤ x1 ∧ x1 ≤ 2) : CV 4 246 [.ref 284, iv x1] m (fun m2 => G m0 m2 ∧ ((True) ∧ (fsP m m2 x1))) := by
  refine br_246 r_x1 ?_
  unfold P_246
  refine CV.mono (mz_216   g_m.1) (by decide) ?_
  rintro m1 ⟨hx_m1, h_m1⟩
  have g_m1 : G m0 m1 := gx_in g_m hx_m1 in_sC_scr
  refine ⟨fun x2_6 m_6 => G m0 m_6 ∧ ((0 ≤ x2_6 ∧ x2_6 ≤ 25) ∧ (fl5 m1 m_6 ∧ ldI m1 m_6 x1 x2_6 0 0)), fun x2_6 m_6 => Int.toNat (25 - x2_6), ?_, ?_⟩
  · exact ⟨g_m1, by exact ⟨by first | omega | (refine ⟨?_, ?_⟩ <;> omega) | trivial, by exact ⟨fun _ _ _ => rfl, ld_0⟩⟩⟩
  · intro x2_6 m_6 r_x2_6 hI_6
    obtain ⟨g_m_6, hI_6⟩ := hI_6
    obtain ⟨hI_6, dI_6⟩ := hI_6
    refine CK.mono (ct_208   g_m_6.1 (MW_G p0 g_m_6)) (by decide) ?_
    rintro m8 v8 r_v8 ⟨e_m8, h_m8⟩
    replace e_m8 := e_m8.symm
    subst e_m8
    refine ⟨fun hq => ?_, fun hq => ?_⟩
    · skip
      exact ⟨g_m_6, by exact ⟨by first | trivial | omega | (refine ⟨?_, ?_⟩ <;> omega), by exact ⟨m1, h_m1.2, dI_6.1, ld_e dI_6.2 (by omega)⟩⟩⟩
    · skip
      refine ⟨fun x3_16 m_16 => G m0 m_16 ∧ ((0 ≤ x3_16 ∧ x3_16 ≤ 4) ∧ (fl5 m1 m_16 ∧ ldI m1 m_16 x1 x2_6 x3_16 0)), fun x3_16 m_16 => Int.toNat (4 - x3_16), ?_, ?_⟩
      · exact ⟨g_m_6, by exact ⟨by first | omega | (refine ⟨?_, ?_⟩ <;> omega) | trivial, by exact dI_6⟩⟩
      · intro x3_16 m_16 r_x3_16 hI_16
        obtain ⟨g_m_16, hI_16⟩ := hI_16
        obtain ⟨hI_16, dI_16⟩ := hI_16
        refine ⟨fun hq => ?_, fun hq => ?_⟩
        · skip
          try have w1 : wr (x2_6 + 1) = x2_6 + 1 := wr_id (by omega) (by omega)
          intro z2_107 e_z2_107
          have r_z2_107 : rg z2_107 := by rw [e_z2_107]; exact wr_rg _
          exact ⟨⟨g_m_16, by exact ⟨by first | omega | (refine ⟨?_, ?_⟩ <;> omega) | trivial, by exact ⟨dI_16.1, ld_f dI_16.2 (by omega) (by omega)⟩⟩⟩, by (try dsimp only); omega⟩
        · skip
          refine CK.mono (mz_223   g_m_16.1 r_x1 r_x2_6 r_x3_16 (MW_G p0 g_m_16) (by omega) (by omega)) (by decide) ?_
          rintro m25 v25 r_v25 ⟨e_m25, h_m25⟩
          replace e_m25 := e_m25.symm
          subst e_m25
          refine ⟨fun s0_41 m_41 => G m0 m_41 ∧ ((-1 ≤ s0_41 ∧ s0_41 ≤ 24) ∧ (m_41 = m_16 ∧ tdP m1 x1 x2_6 x3_16 s0_41)), ?_, ?_⟩
          · skip
            refine ⟨fun hq => ?_, fun hq => ?_⟩
            · skip
              exact ⟨g_m_16, by exact ⟨by first | trivial | omega | (refine ⟨?_, ?_⟩ <;> omega), by first | (have u := h_m34; exact ⟨rfl, Or.inr ⟨cf_fl dI_16.1 (or_1 h_m25.2 (by omega)), h_m34.1.trans (fb_fl dI_16.1)⟩⟩) | exact ⟨rfl, Or.inl ⟨rfl, fun w => or_0 h_m25.2 (by omega) (cf_lf dI_16.1 w)⟩⟩⟩⟩
            · skip
              refine CK.mono (ct_221   g_m_16.1 r_x2_6 r_x3_16 (MW_G p0 g_m_16) (by omega) (by omega)) (by decide) ?_
              rintro m34 v34 r_v34 ⟨e_m34, h_m34⟩
              replace e_m34 := e_m34.symm
              subst e_m34
              exact ⟨g_m_16, by exact ⟨by first | trivial | omega | (refine ⟨?_, ?_⟩ <;> omega), by first | (have u := h_m34; exact ⟨rfl, Or.inr ⟨cf_fl dI_16.1 (or_1 h_m25.2 (by omega)), h_m34.1.trans (fb_fl dI_16.1)⟩⟩) | exact ⟨rfl, Or.inl ⟨rfl, fun w => or_0 h_m25.2 (by omega) (cf_lf dI_16.1 w)⟩⟩⟩⟩
          · intro s0_41 m_41 r_s0_41 hR_41
            obtain ⟨g_m_41, hR_41⟩ := hR_41
            obtain ⟨hR_41, dR_41⟩ := hR_41
            refine ⟨fun x5_46 m_46 => G m0 m_46 ∧ ((0 ≤ x5_46 ∧ x5_46 ≤ 24) ∧ (fl5 m1 m_46 ∧ ldI m1 m_46 x1 x2_6 x3_16 x5_46)), fun x5_46 m_46 => Int.toNat (24 - x5_46), ?_, ?_⟩
            · exact ⟨g_m_41, by exact ⟨by first | omega | (refine ⟨?_, ?_⟩ <;> omega) | trivial, by exact ⟨by rw [dR_41.1]; exact dI_16.1, by rw [dR_41.1]; exact dI_16.2⟩⟩⟩
            · intro x5_46 m_46 r_x5_46 hI_46
              obtain ⟨g_m_46, hI_46⟩ := hI_46
              obtain ⟨hI_46, dI_46⟩ := hI_46
              refine ⟨fun hq => ?_, fun hq => ?_⟩
              · skip
                try have w2 : wr (x3_16 + 1) = x3_16 + 1 := wr_id (by omega) (by omega)
                intro z3_101 e_z3_101
                have r_z3_101 : rg z3_101 := by rw [e_z3_101]; exact wr_rg _
                exact ⟨⟨g_m_46, by exact ⟨by first | omega | (refine ⟨?_, ?_⟩ <;> omega) | trivial, by exact ⟨dI_46.1, ld_k dI_46.2 (by omega) (by omega)⟩⟩⟩, by (try dsimp only); omega⟩
              · skip
                refine ⟨fun s2_94 => (-1 ≤ s2_94 ∧ s2_94 ≤ 599) ∧ (s2_94 = if 0 ≤ s0_41 then 24 * s0_41 + rd m1 320 (Int.toNat (4 * x5_46 + x3_16)) else -1), ?_, ?_⟩
                · skip
                  refine ⟨fun hq => ?_, fun hq => ?_⟩
                  · skip
                    try have w3 : wr (4 * x5_46) = 4 * x5_46 := wr_id (by omega) (by omega)
                    try have w4 : wr ((wr (4 * x5_46)) + x3_16) = (wr (4 * x5_46)) + x3_16 := wr_id (by omega) (by omega)
                    refine ⟨⟨by omega, by omega⟩, ?_⟩
                    try have w5 : wr (24 * s0_41) = 24 * s0_41 := wr_id (by omega) (by omega)
                    have t6 := ty_320 g_m_46.1 (Int.toNat (wr ((wr (4 * x5_46)) + x3_16)))
                    try have w7 : wr ((wr (24 * s0_41)) + (rd m_46 320 (Int.toNat (wr ((wr (4 * x5_46)) + x3_16))))) = (wr (24 * s0_41)) + (rd m_46 320 (Int.toNat (wr ((wr (4 * x5_46)) + x3_16)))) := wr_id (by omega) (by omega)
                    (exact ⟨by first | trivial | omega | (refine ⟨?_, ?_⟩ <;> omega), by first | exact ls_1 (by assumption) dI_46.1 (by omega) (by omega) | exact ls_0 (by assumption)⟩)
                  · skip
                    (exact ⟨by first | trivial | omega | (refine ⟨?_, ?_⟩ <;> omega), by first | exact ls_1 (by assumption) dI_46.1 (by omega) (by omega) | exact ls_0 (by assumption)⟩)
                · intro s2_94 r_s2_94 hR_94
                  obtain ⟨hR_94, dR_94⟩ := hR_94
                  try have w8 : wr (96 * x2_6) = 96 * x2_6 := wr_id (by omega) (by omega)
                  try have w9 : wr (4 * x5_46) = 4 * x5_46 := wr_id (by omega) (by omega)
                  try have w10 : wr ((wr (96 * x2_6)) + (wr (4 * x5_46))) = (wr (96 * x2_6)) + (wr (4 * x5_46)) := wr_id (by omega) (by omega)
                  try have w11 : wr ((wr ((wr (96 * x2_6)) + (wr (4 * x5_46)))) + x3_16) = (wr ((wr (96 * x2_6)) + (wr (4 * x5_46)))) + x3_16 := wr_id (by omega) (by omega)
                  refine ⟨⟨by omega, by omega⟩, ?_⟩
                  intro m94 e_m94
                  have g_m94 : G m0 m94 := by rw [e_m94]; exact GX.wt g_m_46 (tw_325 g_m_46.1 ⟨by omega, by omega⟩) (Eq.refl true)
                  try have w12 : wr (x5_46 + 1) = x5_46 + 1 := wr_id (by omega) (by omega)
                  intro z5_95 e_z5_95
                  have r_z5_95 : rg z5_95 := by rw [e_z5_95]; exact wr_rg _
                  exact ⟨⟨g_m94, by exact ⟨by first | omega | (refine ⟨?_, ?_⟩ <;> omega) | trivial, by exact ld_s dI_46 dR_41.2 dR_94 r_s2_94 e_m94 (by omega) (by omega) (by omega)⟩⟩, by (try dsimp only); omega⟩
-- TippedCratesModel.goesThrough(I)V
set_option maxRecDepth 20000 in
theorem my_249 {m0 m : Mm} {x1 : Int}  (g_m : G m0 m) (r_x1 : rg x1) (p0 : MW m0) (p1 : 0 ≤ x1 ∧ x1 ≤ 2) : CV 5 249 [.ref 284, iv x1] m (fun m2 => G m0 m2 ∧ ((lineOk m2) ∧ (∃ ml, fsP m ml x1 ∧ f29 ml m2 ∧ wlF ml m2 x1))) := by
  refine br_249 r_x1 ?_
  unfold P_249
  refine CV.mono (my_246   g_m r_x1 p0 (by omega)) (by decide) ?_
  rintro m2 ⟨g_m2, h_m2⟩
  refine ⟨fun x2_7 m_7 => G m0 m_7 ∧ (((0 ≤ x2_7 ∧ x2_7 ≤ 600) ∧ ∀ j : Nat, (j : Int) < x2_7 → rd m_7 326 j = -1) ∧ (∀ i j : Nat, ¬ i = 326 → rd m_7 i j = rd m2 i j)), fun x2_7 m_7 => Int.toNat (600 - x2_7), ?_, ?_⟩
  · exact ⟨g_m2, by exact ⟨by exact ⟨by omega, fun j hj => by omega⟩, by exact fun _ _ _ => rfl⟩⟩
  · intro x2_7 m_7 r_x2_7 hI_7
    obtain ⟨g_m_7, hI_7⟩ := hI_7
    obtain ⟨hI_7, dI_7⟩ := hI_7
    refine ⟨fun hq => ?_, fun hq => ?_⟩
    · skip
      try have w1 : wr (43 + x1) = 43 + x1 := wr_id (by omega) (by omega)
      refine ⟨⟨by omega, by omega⟩, ?_⟩
      have t2 := tr_323 g_m_7.1 (Int.toNat (wr (43 + x1)))
      try have w3 : wr (24 * (rd m_7 323 (Int.toNat (wr (43 + x1))))) = 24 * (rd m_7 323 (Int.toNat (wr (43 + x1)))) := wr_id (by omega) (by omega)
      intro m44 e_m44
      have g_m44 : G m0 m44 := by rw [e_m44]; exact GX.wt g_m_7 (tw_329 g_m_7.1 ⟨by omega, by omega⟩) (Eq.refl true)
      have n44 : rd m44 329 0 = wr (24 * (rd m_7 323 (Int.toNat (wr (43 + x1))))) := by rw [e_m44, rd_wt, if_pos ⟨rfl, rfl⟩, wr_i (wr_rg _)]
      have t4 := ty_329 g_m44.1 0
      refine ⟨⟨by omega, by omega⟩, ?_⟩
      intro m56 e_m56
      have g_m56 : G m0 m56 := by rw [e_m56]; exact GX.wt g_m44 (tw_326 g_m44.1 (by first | assumption | omega)) (Eq.refl true)
      intro m59 e_m59
      have g_m59 : G m0 m59 := by rw [e_m59]; exact GX.wt g_m56 (tw_284_67 g_m56.1 ⟨by omega, by omega⟩) (Eq.refl true)
      have f44 : ∀ j : Nat, j < 600 → rd m44 326 j = -1 := fun j hj => by rw [e_m44, rd_wt, if_neg (by omega)]; exact hI_7.2 j (by omega)
      have l59 : lineOk m59 := by rw [e_m59, e_m56]; exact ln_one (by omega) f44
      refine ⟨fun x2_64 m_64 => G m0 m_64 ∧ (((0 ≤ x2_64 ∧ x2_64 ≤ 600) ∧ lineOk m_64) ∧ (f29 m2 m_64 ∧ wl64 m2 m_64 x1 x2_64)), fun x2_64 m_64 => Int.toNat (600 - x2_64), ?_, ?_⟩
      · exact ⟨g_m59, by exact ⟨by exact ⟨by omega, l59⟩, by exact wl_i (by omega) dI_7 (fun j hj => hI_7.2 j (by omega)) e_m44 e_m56 e_m59⟩⟩
      · intro x2_64 m_64 r_x2_64 hI_64
        obtain ⟨g_m_64, hI_64⟩ := hI_64
        obtain ⟨hI_64, dI_64⟩ := hI_64
        have hln := hI_64.2.1
        have t5 := ty_284_67 g_m_64.1
        refine ⟨fun hq => ?_, fun hq => ?_⟩
        · skip
          exact ⟨g_m_64, by exact ⟨by exact hI_64.2, by exact ⟨m2, h_m2.2, dI_64.1, wm_d dI_64.2 (by omega) (by omega)⟩⟩⟩
        · skip
          refine ⟨fun x3_74 m_74 => G m0 m_74 ∧ (((0 ≤ x3_74 ∧ x3_74 ≤ 4) ∧ x2_64 < rd m_74 284 67 ∧ lineOk m_74) ∧ (f29 m2 m_74 ∧ wl74 m2 m_74 x1 x2_64 x3_74)), fun x3_74 m_74 => Int.toNat (4 - x3_74), ?_, ?_⟩
          · exact ⟨g_m_64, by exact ⟨by exact ⟨by omega, by omega, hI_64.2⟩, by exact ⟨dI_64.1, wm_a dI_64.2 (by omega)⟩⟩⟩
          · intro x3_74 m_74 r_x3_74 hI_74
            obtain ⟨g_m_74, hI_74⟩ := hI_74
            obtain ⟨hI_74, dI_74⟩ := hI_74
            have hl74 := hI_74.2.2.1
            refine ⟨fun hq => ?_, fun hq => ?_⟩
            · skip
              try have w6 : wr (x2_64 + 1) = x2_64 + 1 := wr_id (by omega) (by omega)
              intro z2_182 e_z2_182
              have r_z2_182 : rg z2_182 := by rw [e_z2_182]; exact wr_rg _
              exact ⟨⟨g_m_74, by exact ⟨by exact ⟨by omega, hI_74.2.2⟩, by exact ⟨dI_74.1, wm_c dI_74.2 (by omega) (by omega)⟩⟩⟩, by (try dsimp only); omega⟩
            · skip
              refine ⟨⟨by omega, by omega⟩, ?_⟩
              have t7 := ty_329 g_m_74.1 (Int.toNat x2_64)
              try have w8 : wr (4 * (rd m_74 329 (Int.toNat x2_64))) = 4 * (rd m_74 329 (Int.toNat x2_64)) := wr_id (by omega) (by omega)
              try have w9 : wr ((wr (4 * (rd m_74 329 (Int.toNat x2_64)))) + x3_74) = (wr (4 * (rd m_74 329 (Int.toNat x2_64)))) + x3_74 := wr_id (by omega) (by omega)
              refine ⟨⟨by omega, by omega⟩, ?_⟩
              have t10 := ty_325 g_m_74.1 (Int.toNat (wr ((wr (4 * (rd m_74 329 (Int.toNat x2_64)))) + x3_74)))
              intro z4_94 e_z4_94
              have r_z4_94 : rg z4_94 := by rw [e_z4_94]; exact (rd_rg _ _ _)
              refine ⟨fun m_176 => G m0 m_176 ∧ ((x2_64 < rd m_176 284 67 ∧ lineOk m_176) ∧ (f29 m_74 m_176 ∧ ∀ mv N, agL m2 mv N → cloN mv N → ∀ W, okWk N W → wkR m_74 284 67 329 326 W → 0 ≤ rd m_74 329 (Int.toNat x2_64) → rd m_74 329 (Int.toNat x2_64) < N → 0 ≤ W 2 (Int.toNat (rd m_74 329 (Int.toNat x2_64))) → wkR m_176 284 67 329 326 (vk mv W (rd m_74 329 (Int.toNat x2_64)) x3_74))), ?_, ?_⟩
              · skip
                refine ⟨fun hq => ?_, fun hq => ?_⟩
                · skip
                  exact ⟨g_m_74, by exact ⟨by first | exact hI_74.2 | exact ⟨by omega, l173⟩, by first | (have u := e_m173; exact wm_C dI_74.1 (by omega) (e_z4_94.trans (congrArg (rd m_74 325) (by omega))) (by omega) hq r_z4_94 e_m133 e_m146 e_m154 e_m165 e_m173) | exact ⟨fun _ _ _ _ => rfl, fun mv N ag cl W oW h s0 s1 s2 => wm_n ag dI_74.1 h s0 s1 (by omega) (e_z4_94.trans (congrArg (rd m_74 325) (by omega))) (by omega) (by assumption)⟩ | exact ⟨fun _ _ _ _ => rfl, fun mv N ag cl W oW h s0 s1 s2 => wm_0 ag cl dI_74.1 h s0 s1 (by omega) (e_z4_94.trans (congrArg (rd m_74 325) (by omega))) (by assumption)⟩⟩⟩
                · skip
                  refine ⟨⟨by omega, by omega⟩, ?_⟩
                  refine ⟨fun hq => ?_, fun hq => ?_⟩
                  · skip
                    refine ⟨⟨by omega, by omega⟩, ?_⟩
                    refine ⟨⟨by omega, by omega⟩, ?_⟩
                    refine ⟨⟨by omega, by omega⟩, ?_⟩
                    try have w13 : wr ((rd m_74 326 (Int.toNat (rd m_74 329 (Int.toNat x2_64)))) + 1) = (rd m_74 326 (Int.toNat (rd m_74 329 (Int.toNat x2_64)))) + 1 := wr_id (by omega) (by omega)
                    intro m133 e_m133
                    have g_m133 : G m0 m133 := by rw [e_m133]; exact GX.wt g_m_74 (tw_326 g_m_74.1 (wr_rg _)) (Eq.refl true)
                    have hl := hI_74.2.2
                    have hk := hl.2.1 (Int.toNat x2_64) (by omega)
                    have hlt := ln_lt (z := z4_94) g_m_74.1 hl (by omega) hq
                    refine ⟨⟨by omega, by omega⟩, ?_⟩
                    refine ⟨⟨by omega, by omega⟩, ?_⟩
                    have t14 := ty_329 g_m133.1 (Int.toNat x2_64)
                    intro m146 e_m146
                    have g_m146 : G m0 m146 := by rw [e_m146]; exact GX.wt g_m133 (tw_327 g_m133.1 ⟨by omega, by omega⟩) (Eq.refl true)
                    refine ⟨⟨by omega, by omega⟩, ?_⟩
                    intro m154 e_m154
                    have g_m154 : G m0 m154 := by rw [e_m154]; exact GX.wt g_m146 (tw_328 g_m146.1 (by first | assumption | omega)) (Eq.refl true)
                    have n154 : rd m154 284 67 = rd m_74 284 67 := by rw [e_m154, rd_wt, if_neg (by omega), e_m146, rd_wt, if_neg (by omega), e_m133, rd_wt, if_neg (by omega)]
                    have t15 := ty_284_67 g_m154.1
                    refine ⟨⟨by omega, by omega⟩, ?_⟩
                    intro m165 e_m165
                    have g_m165 : G m0 m165 := by rw [e_m165]; exact GX.wt g_m154 (tw_329 g_m154.1 ⟨by omega, by omega⟩) (Eq.refl true)
                    have n165 : rd m165 284 67 = rd m_74 284 67 := by rw [e_m165, rd_wt, if_neg (by omega)]; exact n154
                    have t16 := ty_284_67 g_m165.1
                    try have w17 : wr ((rd m165 284 67) + 1) = (rd m165 284 67) + 1 := wr_id (by omega) (by omega)
                    intro m173 e_m173
                    have g_m173 : G m0 m173 := by rw [e_m173]; exact GX.wt g_m165 (tw_284_67 g_m165.1 ⟨by omega, by omega⟩) (Eq.refl true)
                    have n173 : rd m173 284 67 = rd m_74 284 67 + 1 := by rw [e_m173, rd_wt, if_pos ⟨rfl, rfl⟩, wr_i (wr_rg _), n165, wr_id (by omega) (by omega)]
                    have w133 : wr (rd m_74 326 (Int.toNat (rd m_74 329 (Int.toNat x2_64))) + 1) = rd m_74 326 (Int.toNat (rd m_74 329 (Int.toNat x2_64))) + 1 := wr_id (by omega) (by omega)
                    have a9 : ∀ j : Nat, (j : Int) < rd m_74 284 67 → rd m173 329 j = rd m_74 329 j := fun j hj => by
                      rw [e_m173, rd_wt, if_neg (by omega), e_m165, rd_wt, if_neg (by omega), e_m154, rd_wt, if_neg (by omega), e_m146, rd_wt, if_neg (by omega), e_m133, rd_wt, if_neg (by omega)]
                    have b9 : rd m173 329 (Int.toNat (rd m_74 284 67)) = z4_94 := by
                      rw [e_m173, rd_wt, if_neg (by omega), e_m165, rd_wt, if_pos ⟨rfl, by omega⟩, wr_i r_z4_94]
                    have a6 : ∀ j : Nat, ¬ j = Int.toNat z4_94 → rd m173 326 j = rd m_74 326 j := fun j hj => by
                      rw [e_m173, rd_wt, if_neg (by omega), e_m165, rd_wt, if_neg (by omega), e_m154, rd_wt, if_neg (by omega), e_m146, rd_wt, if_neg (by omega), e_m133, rd_wt, if_neg (by omega)]
                    have b6 : rd m173 326 (Int.toNat z4_94) = rd m_74 326 (Int.toNat (rd m_74 329 (Int.toNat x2_64))) + 1 := by
                      rw [e_m173, rd_wt, if_neg (by omega), e_m165, rd_wt, if_neg (by omega), e_m154, rd_wt, if_neg (by omega), e_m146, rd_wt, if_neg (by omega), e_m133, rd_wt, if_pos ⟨rfl, rfl⟩, w133, w133]
                    have a7 : ∀ j : Nat, ¬ j = Int.toNat z4_94 → rd m173 327 j = rd m_74 327 j := fun j hj => by
                      rw [e_m173, rd_wt, if_neg (by omega), e_m165, rd_wt, if_neg (by omega), e_m154, rd_wt, if_neg (by omega), e_m146, rd_wt, if_neg (by omega), e_m133, rd_wt, if_neg (by omega)]
                    have n133 : rd m133 329 (Int.toNat x2_64) = rd m_74 329 (Int.toNat x2_64) := by rw [e_m133, rd_wt, if_neg (by omega)]
                    have b7 : rd m173 327 (Int.toNat z4_94) = rd m_74 329 (Int.toNat x2_64) := by
                      rw [e_m173, rd_wt, if_neg (by omega), e_m165, rd_wt, if_neg (by omega), e_m154, rd_wt, if_neg (by omega), e_m146, rd_wt, if_pos ⟨rfl, rfl⟩, wr_i (rd_rg _ _ _), n133]
                    have l173 : lineOk m173 := ln_push (z := z4_94) g_m_74.1 hl (by omega) hq hlt n173 a9 b9 a6 b6 (by omega) (by omega) (fr := rd m_74 329 (Int.toNat x2_64)) a7 b7 (by omega)
                    exact ⟨g_m173, by exact ⟨by first | exact hI_74.2 | exact ⟨by omega, l173⟩, by first | (have u := e_m173; exact wm_C dI_74.1 (by omega) (e_z4_94.trans (congrArg (rd m_74 325) (by omega))) (by omega) hq r_z4_94 e_m133 e_m146 e_m154 e_m165 e_m173) | exact ⟨fun _ _ _ _ => rfl, fun mv N ag cl W oW h s0 s1 s2 => wm_n ag dI_74.1 h s0 s1 (by omega) (e_z4_94.trans (congrArg (rd m_74 325) (by omega))) (by omega) (by assumption)⟩ | exact ⟨fun _ _ _ _ => rfl, fun mv N ag cl W oW h s0 s1 s2 => wm_0 ag cl dI_74.1 h s0 s1 (by omega) (e_z4_94.trans (congrArg (rd m_74 325) (by omega))) (by assumption)⟩⟩⟩
                  · skip
                    exact ⟨g_m_74, by exact ⟨by first | exact hI_74.2 | exact ⟨by omega, l173⟩, by first | (have u := e_m173; exact wm_C dI_74.1 (by omega) (e_z4_94.trans (congrArg (rd m_74 325) (by omega))) (by omega) hq r_z4_94 e_m133 e_m146 e_m154 e_m165 e_m173) | exact ⟨fun _ _ _ _ => rfl, fun mv N ag cl W oW h s0 s1 s2 => wm_n ag dI_74.1 h s0 s1 (by omega) (e_z4_94.trans (congrArg (rd m_74 325) (by omega))) (by omega) (by assumption)⟩ | exact ⟨fun _ _ _ _ => rfl, fun mv N ag cl W oW h s0 s1 s2 => wm_0 ag cl dI_74.1 h s0 s1 (by omega) (e_z4_94.trans (congrArg (rd m_74 325) (by omega))) (by assumption)⟩⟩⟩
              · intro m_176  hR_176
                obtain ⟨g_m_176, hR_176⟩ := hR_176
                obtain ⟨hR_176, dR_176⟩ := hR_176
                try have w18 : wr (x3_74 + 1) = x3_74 + 1 := wr_id (by omega) (by omega)
                intro z3_176 e_z3_176
                have r_z3_176 : rg z3_176 := by rw [e_z3_176]; exact wr_rg _
                exact ⟨⟨g_m_176, by exact ⟨by exact ⟨by omega, hR_176⟩, by exact wm_b dI_74 dR_176 (by omega) (by omega)⟩⟩, by (try dsimp only); omega⟩
    · skip
      refine ⟨⟨by omega, by omega⟩, ?_⟩
      intro m20 e_m20
      have g_m20 : G m0 m20 := by rw [e_m20]; exact GX.wt g_m_7 (tw_326 g_m_7.1 (by first | assumption | omega)) (Eq.refl true)
      have f19 : ∀ j : Nat, (j : Int) < x2_7 + 1 → rd m20 326 j = -1 := fun j hj => by
        rw [e_m20, rd_wt]
        split
        · rfl
        · next q => exact hI_7.2 j (by omega)
      try have w19 : wr (x2_7 + 1) = x2_7 + 1 := wr_id (by omega) (by omega)
      intro z2_21 e_z2_21
      have r_z2_21 : rg z2_21 := by rw [e_z2_21]; exact wr_rg _
      exact ⟨⟨g_m20, by exact ⟨by exact ⟨by omega, fun j hj => f19 j (by omega)⟩, by exact fun i j q => by rw [e_m20, rd_wt, if_neg (by omega)]; exact dI_7 i j q⟩⟩, by (try dsimp only); omega⟩
