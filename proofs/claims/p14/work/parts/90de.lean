def inX (w h x y k : Int) : Prop := 0 ≤ x + sx 2 k ∧ x + sx 2 k < w ∧ 0 ≤ y + sx 3 k ∧ y + sx 3 k < h
def nxX (w h x y k : Int) : Int := if 0 ≤ x + sx 2 k ∧ x + sx 2 k < w ∧ 0 ≤ y + sx 3 k ∧ y + sx 3 k < h then w * (y + sx 3 k) + (x + sx 2 k) else -1
/-- a flag is laid -/
def lyX (m : Mm) (w h x y : Int) : Prop := rd m 16 (Int.toNat (w * y + x)) = x ∧ rd m 17 (Int.toNat (w * y + x)) = y ∧ ∀ k : Int, 0 ≤ k → k ≤ 3 → rd m 18 (Int.toNat ((w * y + x) * 4 + k)) = nxX w h x y k
def lyP (m m2 : Mm) (x y : Int) : Prop := lyX m2 (rd m 7 0) (rd m 7 1) x y ∧ (∀ j : Nat, ¬ j = Int.toNat (rd m 7 0 * y + x) → rd m2 16 j = rd m 16 j ∧ rd m2 17 j = rd m 17 j) ∧ ∀ j : Nat, ¬ (4 * (rd m 7 0 * y + x) ≤ (j : Int) ∧ (j : Int) < 4 * (rd m 7 0 * y + x) + 4) → rd m2 18 j = rd m 18 j
def lfI2 (m m2 : Mm) (x y n : Int) : Prop := (rd m2 16 (Int.toNat (rd m 7 0 * y + x)) = x ∧ rd m2 17 (Int.toNat (rd m 7 0 * y + x)) = y ∧ ∀ k : Int, 0 ≤ k → k < n → rd m2 18 (Int.toNat ((rd m 7 0 * y + x) * 4 + k)) = nxX (rd m 7 0) (rd m 7 1) x y k) ∧ (∀ j : Nat, ¬ j = Int.toNat (rd m 7 0 * y + x) → rd m2 16 j = rd m 16 j ∧ rd m2 17 j = rd m 17 j) ∧ ∀ j : Nat, ¬ (4 * (rd m 7 0 * y + x) ≤ (j : Int) ∧ (j : Int) < 4 * (rd m 7 0 * y + x) + 4) → rd m2 18 j = rd m 18 j
theorem lf2_0 {m m13 m20 : Mm} {x y v : Int} (fb : wr (rd m 7 0 * y) = rd m 7 0 * y ∧ v = rd m 7 0 * y + x ∧ 0 ≤ rd m 7 0 * y + x ∧ rd m 7 0 * y + x ≤ 24 ∧ rd m 7 0 * y + x < rd m 7 0 * rd m 7 1) (e13 : m13 = wt m 16 (Int.toNat v) x) (e20 : m20 = wt m13 17 (Int.toNat v) y) (rx : rg x) (ry : rg y) (_h3 : v = wr (wr (rd m 7 0 * y) + x)) : lfI2 m m20 x y 0 := by
  have ev := fb.2.1
  rw [ev] at e13 e20
  refine ⟨⟨?_, ?_, fun k h1 h2 => by omega⟩, fun j q => ⟨?_, ?_⟩, fun j q => ?_⟩
  · rw [e20, rd_wt, if_neg (by omega), e13, rd_wt, if_pos ⟨rfl, rfl⟩, wr_i rx]
  · rw [e20, rd_wt, if_pos ⟨rfl, rfl⟩, wr_i ry]
  · rw [e20, rd_wt, if_neg (by omega), e13, rd_wt, if_neg (by omega)]
  · rw [e20, rd_wt, if_neg (by omega), e13, rd_wt, if_neg (by omega)]
  · rw [e20, rd_wt, if_neg (by omega), e13, rd_wt, if_neg (by omega)]
theorem lf2_s {m m24 m114 : Mm} {x y n s v : Int} (h : lfI2 m m24 x y n) (es : s = nxX (rd m 7 0) (rd m 7 1) x y n) (e : m114 = wt m24 18 (Int.toNat (v * 4 + n)) s) (hn : 0 ≤ n ∧ n ≤ 3) (h3 : v = wr (wr (rd m 7 0 * y) + x)) (fb : wr (rd m 7 0 * y) = rd m 7 0 * y ∧ wr (wr (rd m 7 0 * y) + x) = rd m 7 0 * y + x ∧ 0 ≤ rd m 7 0 * y + x ∧ rd m 7 0 * y + x ≤ 24 ∧ rd m 7 0 * y + x < rd m 7 0 * rd m 7 1) (rs : rg s) : lfI2 m m114 x y (n + 1) := by
  rw [h3, fb.2.1] at e
  unfold lfI2 at h ⊢
  obtain ⟨⟨a1, a2, a3⟩, a4, a5⟩ := h
  generalize rd m 7 0 * y + x = f at *
  refine ⟨⟨by rw [e, rd_wt, if_neg (by omega)]; exact a1, by rw [e, rd_wt, if_neg (by omega)]; exact a2, fun k h1 h2 => ?_⟩, fun j q => ?_, fun j q => ?_⟩
  · by_cases z : k = n
    · subst z
      rw [e, rd_wt, if_pos ⟨rfl, rfl⟩, wr_i rs, es]
    · rw [e, rd_wt, if_neg (by omega)]; exact a3 k h1 (by omega)
  · rw [e, rd_wt, if_neg (by omega), rd_wt, if_neg (by omega)]; exact a4 j q
  · rw [e, rd_wt, if_neg (by omega)]; exact a5 j q
theorem lf2_e {m m24 : Mm} {x y n : Int} (h : lfI2 m m24 x y n) (hn : 4 ≤ n) : lyP m m24 x y := ⟨⟨h.1.1, h.1.2.1, fun k h1 h2 => h.1.2.2 k h1 (by omega)⟩, h.2⟩
theorem ly_ne {w h x y x' y' : Int} (hw : 2 ≤ w ∧ w ≤ 5) (hh : 2 ≤ h ∧ h ≤ 5) (a : 0 ≤ x ∧ x < w) (b : 0 ≤ y ∧ y < h) (c : 0 ≤ x' ∧ x' < w) (d : 0 ≤ y' ∧ y' < h) (ne : ¬ (x = x' ∧ y = y')) : 0 ≤ w * y + x ∧ 0 ≤ w * y' + x' ∧ ¬ w * y + x = w * y' + x' := by
  have h1 : w = 2 ∨ w = 3 ∨ w = 4 ∨ w = 5 := by omega
  rcases h1 with rfl | rfl | rfl | rfl <;> omega
theorem ly_s {m49 m62 : Mm} {w h x y x4 x3 : Int} (hw : 2 ≤ w ∧ w ≤ 5) (hh : 2 ≤ h ∧ h ≤ 5) (q : lyP m49 m62 x4 x3) (e0 : rd m49 7 0 = w) (e1 : rd m49 7 1 = h) (l : ∀ x y : Int, 0 ≤ x → x < w → 0 ≤ y → (y < x3 ∨ (y = x3 ∧ x < x4)) → lyX m49 w h x y) (b : (0 ≤ x3 ∧ x3 < h) ∧ 0 ≤ x4 ∧ x4 < w) (hx : 0 ≤ x) (hx2 : x < w) (hy : 0 ≤ y) (c : y < x3 ∨ (y = x3 ∧ x < x4 + 1)) : lyX m62 w h x y := by
  unfold lyP at q
  rw [e0, e1] at q
  by_cases z : x = x4 ∧ y = x3
  · rw [z.1, z.2]; exact q.1
  · have ne := ly_ne hw hh ⟨hx, hx2⟩ (y := y) (by omega) b.2 b.1 z
    have o := l x y hx hx2 hy (by omega)
    have f := q.2.1 (Int.toNat (w * y + x)) (by omega)
    refine ⟨f.1.trans o.1, f.2.trans o.2.1, fun k k0 k1 => ?_⟩
    rw [q.2.2 _ (by omega)]
    exact o.2.2 k k0 k1
/-- shut flags as bits; marks of flags; in the order of the text -/
def shB (w : Int) (F G : Nat → Int) : Nat → Int
  | 0 => 0
  | n + 1 => orI (shB w F G n) (slI 1 (w * G n + F n))
def mkB (w : Int) (F G H : Nat → Int) : Nat → Nat → Int
  | 0, _ => 0
  | n + 1, j => if j = Int.toNat (w * G n + F n) then H n else mkB w F G H n j
theorem mk_s {m m2 : Mm} {w : Int} {F G H : Nat → Int} {n j : Nat} {v : Int} (h : rd m 8 j = mkB w F G H n j) (e : m2 = wt m 8 (Int.toNat v) (H n)) (ev_ : v = w * G n + F n) (hr : rg (H n)) : rd m2 8 j = mkB w F G H (n + 1) j := by
  show _ = if j = Int.toNat (w * G n + F n) then H n else mkB w F G H n j
  rw [e, ev_]
  by_cases q : j = Int.toNat (w * G n + F n)
  · rw [if_pos q, rd_wt, if_pos ⟨rfl, q⟩, wr_i hr]
  · rw [if_neg q, rd_wt, if_neg (by omega)]; exact h
theorem fc_s {m m2 : Mm} {c : Nat} {x z v : Int} {F : Nat → Int} (h : rd m 9 c = if (c : Int) < x then F c else -1) (e : m2 = wt m 9 (Int.toNat x) v) (ev_ : v = F (Int.toNat x)) (hx : 0 ≤ x) (ez : z = x + 1) (rv : rg v) : rd m2 9 c = if (c : Int) < z then F c else -1 := by
  rw [e]
  by_cases q : c = Int.toNat x
  · rw [rd_wt, if_pos ⟨rfl, q⟩, wr_i rv, ev_, if_pos (by omega), q]
  · rw [rd_wt, if_neg (by omega), h]
    by_cases q2 : (c : Int) < x
    · rw [if_pos q2, if_pos (by omega)]
    · rw [if_neg q2, if_neg (by omega)]
theorem sL_no11 {i j : Nat} (h : ¬ (i = 11 ∨ i = 13 ∨ i = 14)) : sL 11 i j = false := by
  cases q : sL 11 i j with
  | false => rfl
  | true => have := sL_in q; omega
/-- the plan, filled from what the reader holds -/
def pfD (m m2 : Mm) : Prop := (rd m2 7 0 = rd m 19 8 ∧ rd m2 7 1 = rd m 19 9 ∧ rd m2 7 2 = rd m 19 10 ∧ rd m2 7 3 = rd m 19 13) ∧ (∀ x y : Int, 0 ≤ x → x < rd m 19 8 → 0 ≤ y → y < rd m 19 9 → lyX m2 (rd m 19 8) (rd m 19 9) x y) ∧ rd m2 7 4 = shB (rd m 19 8) (fun k => rd m 25 (2 * k)) (fun k => rd m 25 (2 * k + 1)) (Int.toNat (rd m 19 11)) ∧ (∀ j : Nat, j < 25 → rd m2 8 j = mkB (rd m 19 8) (fun k => rd m 26 (3 * k)) (fun k => rd m 26 (3 * k + 1)) (fun k => rd m 26 (3 * k + 2)) (Int.toNat (rd m 19 12)) j) ∧ (∀ c : Nat, c < 3 → rd m2 9 c = if (c : Int) < rd m 19 13 then rd m 19 8 * rd m 27 (2 * c + 1) + rd m 27 (2 * c) else -1) ∧ ∀ k : Nat, k < 18 → rd m2 10 k = rd m 28 k
theorem pf_of {m m12 m23 m34 m48 m167 m233 : Mm} {x : Int} (e : m233 = cpm m167 28 0 10 0 18) (ex : x = rd m 19 13) (h1 : rd m167 7 4 = shB (rd m 19 8) (fun k => rd m 25 (2 * k)) (fun k => rd m 25 (2 * k + 1)) (Int.toNat (rd m 19 11))) (h2 : ∀ j : Nat, j < 25 → rd m167 8 j = mkB (rd m 19 8) (fun k => rd m 26 (3 * k)) (fun k => rd m 26 (3 * k + 1)) (fun k => rd m 26 (3 * k + 2)) (Int.toNat (rd m 19 12)) j) (h3 : ∀ c : Nat, c < 3 → rd m167 9 c = if (c : Int) < x then rd m 19 8 * rd m 27 (2 * c + 1) + rd m 27 (2 * c) else -1) (h4 : ∀ i j : Nat, ((16 ≤ i ∧ i ≤ 18) ∨ (i = 7 ∧ j ≤ 3)) → rd m167 i j = rd m48 i j) (k0 : rd m48 7 0 = rd m34 7 0) (k1 : rd m48 7 1 = rd m34 7 1) (k2 : rd m48 7 2 = rd m34 7 2) (k3 : rd m48 7 3 = rd m34 7 3) (kp : ∀ i j : Nat, (16 ≤ i ∧ i ≤ 18) → rd m48 i j = rd m34 i j) (e34 : m34 = wt m23 7 3 (rd m23 19 13)) (e23 : m23 = wt m12 7 2 (rd m12 19 10)) (h12 : rd m12 7 0 = rd m 19 8 ∧ rd m12 7 1 = rd m 19 9) (l12 : ∀ x y : Int, 0 ≤ x → x < rd m 19 8 → 0 ≤ y → y < rd m 19 9 → lyX m12 (rd m 19 8) (rd m 19 9) x y) (s10 : rd m12 19 10 = rd m 19 10) (s13 : rd m23 19 13 = rd m 19 13) (g : GX sFp m m167) : pfD m m233 := by
  subst ex
  have f : ∀ i j : Nat, ¬ i = 10 → rd m233 i j = rd m167 i j := fun i j q => by rw [e, rd_cpm, if_neg (by omega)]
  have f34 : ∀ i j : Nat, ¬ (i = 7 ∧ (j = 2 ∨ j = 3)) → rd m34 i j = rd m12 i j := fun i j q => by rw [e34, rd_wt, if_neg (by omega), e23, rd_wt, if_neg (by omega)]
  have fp : ∀ i j : Nat, (16 ≤ i ∧ i ≤ 18) → rd m233 i j = rd m12 i j := fun i j q => by rw [f i j (by omega), h4 i j (by omega), kp i j q, f34 i j (by omega)]
  refine ⟨⟨?_, ?_, ?_, ?_⟩, fun a b a0 a1 b0 b1 => ?_, (f 7 4 (by omega)).trans h1, fun j hj => (f 8 j (by omega)).trans (h2 j hj), fun c hc => (f 9 c (by omega)).trans (h3 c hc), fun k hk => ?_⟩
  · rw [f 7 0 (by omega), h4 7 0 (by omega), k0, f34 7 0 (by omega)]; exact h12.1
  · rw [f 7 1 (by omega), h4 7 1 (by omega), k1, f34 7 1 (by omega)]; exact h12.2
  · rw [f 7 2 (by omega), h4 7 2 (by omega), k2, e34, rd_wt, if_neg (by omega), e23, rd_wt, if_pos ⟨rfl, rfl⟩, wr_i (rd_rg _ _ _), s10]
  · rw [f 7 3 (by omega), h4 7 3 (by omega), k3, e34, rd_wt, if_pos ⟨rfl, rfl⟩, wr_i (rd_rg _ _ _), s13]
  · obtain ⟨q1, q2, q3⟩ := l12 a b a0 a1 b0 b1
    exact ⟨(fp 16 _ (by omega)).trans q1, (fp 17 _ (by omega)).trans q2, fun k c0 c1 => (fp 18 _ (by omega)).trans (q3 k c0 c1)⟩
  · rw [e, rd_cpm, if_pos (by omega), show k - 0 + 0 = k by omega]
    exact g.2.1 28 k rfl
-- TippedCrates$Plan.layFlag(II)V
set_option maxRecDepth 20000 in
theorem ey_28 {m : Mm} {x1 : Int} {x2 : Int}  (T_m : Ty m) (r_x1 : rg x1) (r_x2 : rg x2) (p0 : 0 ≤ x1 ∧ x1 < rd m 7 0) (p1 : 0 ≤ x2 ∧ x2 < rd m 7 1) : CV 2 28 [.ref 7, iv x1, iv x2] m (fun m2 => GX sLf m m2 ∧ ((True) ∧ (lyP m m2 x1 x2))) := by
  refine br_28 r_x1 r_x2 ?_
  unfold P_28
  have g_m : GX sLf m m := ⟨T_m, fun _ _ _ => rfl, fun _ _ => rfl⟩
  have tw := ty_7_0 T_m
  have th := ty_7_1 T_m
  have fb := fl_b tw th p0 p1
  have wb := wh_b tw th
  refine CK.mono (ct_29   T_m r_x1 r_x2 (by omega) (by omega)) (by decide) ?_
  rintro m3 v3 r_v3 ⟨e_m3, h_m3⟩
  replace e_m3 := e_m3.symm
  subst e_m3
  refine ⟨⟨by omega, by omega⟩, ?_⟩
  intro m13 e_m13
  have g_m13 : GX sLf m m13 := by rw [e_m13]; exact GX.wt g_m (tw_16 T_m (by first | assumption | omega)) (Eq.refl true)
  refine ⟨⟨by omega, by omega⟩, ?_⟩
  intro m20 e_m20
  have g_m20 : GX sLf m m20 := by rw [e_m20]; exact GX.wt g_m13 (tw_17 g_m13.1 (by first | assumption | omega)) (Eq.refl true)
  refine ⟨fun x4_24 m_24 => GX sLf m m_24 ∧ ((0 ≤ x4_24 ∧ x4_24 ≤ 4) ∧ (lfI2 m m_24 x1 x2 x4_24)), fun x4_24 m_24 => Int.toNat (4 - x4_24), ?_, ?_⟩
  · exact ⟨g_m20, by exact ⟨by first | omega | (refine ⟨?_, ?_⟩ <;> omega) | trivial, by exact lf2_0 (by rw [h_m3]; exact fb) e_m13 e_m20 r_x1 r_x2 h_m3⟩⟩
  · intro x4_24 m_24 r_x4_24 hI_24
    obtain ⟨g_m_24, hI_24⟩ := hI_24
    obtain ⟨hI_24, dI_24⟩ := hI_24
    have c0 : rd m_24 7 0 = rd m 7 0 := g_m_24.2.1 7 0 rfl
    have c1 : rd m_24 7 1 = rd m 7 1 := g_m_24.2.1 7 1 rfl
    refine ⟨fun hq => ?_, fun hq => ?_⟩
    · skip
      exact ⟨g_m_24, by exact ⟨by first | trivial | omega | (refine ⟨?_, ?_⟩ <;> omega), by exact lf2_e dI_24 (by omega)⟩⟩
    · skip
      refine ⟨⟨by omega, by omega⟩, ?_⟩
      have sxf1 := sx_2 (j := x4_24) ⟨by omega, by omega⟩
      try have w2 : wr (x1 + (sx 2 x4_24)) = x1 + (sx 2 x4_24) := wr_id (by omega) (by omega)
      intro z5_38 e_z5_38
      have r_z5_38 : rg z5_38 := by rw [e_z5_38]; exact (wr_rg _)
      refine ⟨⟨by omega, by omega⟩, ?_⟩
      have sxf3 := sx_3 (j := x4_24) ⟨by omega, by omega⟩
      try have w4 : wr (x2 + (sx 3 x4_24)) = x2 + (sx 3 x4_24) := wr_id (by omega) (by omega)
      intro z6_48 e_z6_48
      have r_z6_48 : rg z6_48 := by rw [e_z6_48]; exact (wr_rg _)
      have t5 := ty_7_0 g_m_24.1
      try have w6 : wr ((rd m_24 7 0) - 1) = (rd m_24 7 0) - 1 := wr_id (by omega) (by omega)
      refine CK.mono (ct_166   r_z5_38 (by unfold rg; decide) (wr_rg _)) (by decide) ?_
      rintro m59 v59 r_v59 ⟨e_m59, h_m59⟩
      replace e_m59 := e_m59.symm
      subst e_m59
      refine ⟨fun s0_85 m_85 => GX sLf m m_85 ∧ (((s0_85 = 0 ∨ s0_85 = 1) ∧ (s0_85 = 1 → 0 ≤ z5_38 ∧ z5_38 < rd m 7 0 ∧ 0 ≤ z6_48 ∧ z6_48 < rd m 7 1) ∧ rd m_85 7 0 = rd m 7 0) ∧ (m_85 = m_24 ∧ ((s0_85 = 1 ∧ inX (rd m 7 0) (rd m 7 1) x1 x2 x4_24) ∨ (s0_85 = 0 ∧ ¬ inX (rd m 7 0) (rd m 7 1) x1 x2 x4_24)))), ?_, ?_⟩
      · skip
        refine ⟨fun m_84 => GX sLf m m_84 ∧ ((rd m_84 7 0 = rd m 7 0) ∧ (m_84 = m_24 ∧ ¬ inX (rd m 7 0) (rd m 7 1) x1 x2 x4_24)), ?_, ?_⟩
        · skip
          refine ⟨fun hq => ?_, fun hq => ?_⟩
          · skip
            exact ⟨g_m_24, by exact ⟨by first | trivial | omega | (refine ⟨?_, ?_⟩ <;> omega), by exact ⟨rfl, by unfold inX; omega⟩⟩⟩
          · skip
            have t7 := ty_7_1 g_m_24.1
            try have w8 : wr ((rd m_24 7 1) - 1) = (rd m_24 7 1) - 1 := wr_id (by omega) (by omega)
            refine CK.mono (ct_166   r_z6_48 (by unfold rg; decide) (wr_rg _)) (by decide) ?_
            rintro m74 v74 r_v74 ⟨e_m74, h_m74⟩
            replace e_m74 := e_m74.symm
            subst e_m74
            refine ⟨fun hq => ?_, fun hq => ?_⟩
            · skip
              exact ⟨g_m_24, by exact ⟨by first | trivial | omega | (refine ⟨?_, ?_⟩ <;> omega), by exact ⟨rfl, by unfold inX; omega⟩⟩⟩
            · skip
              exact ⟨g_m_24, by exact ⟨by first | trivial | omega | (refine ⟨?_, ?_⟩ <;> omega), by first | exact ⟨dR_84.1, Or.inr ⟨rfl, dR_84.2⟩⟩ | exact ⟨rfl, Or.inl ⟨rfl, by unfold inX; omega⟩⟩⟩⟩
        · intro m_84  hR_84
          obtain ⟨g_m_84, hR_84⟩ := hR_84
          obtain ⟨hR_84, dR_84⟩ := hR_84
          exact ⟨g_m_84, by exact ⟨by first | trivial | omega | (refine ⟨?_, ?_⟩ <;> omega), by first | exact ⟨dR_84.1, Or.inr ⟨rfl, dR_84.2⟩⟩ | exact ⟨rfl, Or.inl ⟨rfl, by unfold inX; omega⟩⟩⟩⟩
      · intro s0_85 m_85 r_s0_85 hR_85
        obtain ⟨g_m_85, hR_85⟩ := hR_85
        obtain ⟨hR_85, dR_85⟩ := hR_85
        refine ⟨fun s2_114 m_114 => GX sLf m m_114 ∧ ((-1 ≤ s2_114 ∧ s2_114 ≤ 24) ∧ (m_114 = m_24 ∧ s2_114 = nxX (rd m 7 0) (rd m 7 1) x1 x2 x4_24)), ?_, ?_⟩
        · skip
          refine ⟨fun hq => ?_, fun hq => ?_⟩
          · skip
            exact ⟨g_m_85, by exact ⟨by first | trivial | omega | (refine ⟨?_, ?_⟩ <;> omega), by first | exact ⟨dR_85.1, by unfold nxX; rw [if_neg (by rcases dR_85.2 with q | q; omega; exact q.2)]⟩ | exact ⟨dR_85.1, by unfold nxX; rw [if_pos (by rcases dR_85.2 with q | q; exact q.2; omega), h_m107, fb2.2.1, e_z5_38, e_z6_48, w2, w4]⟩⟩⟩
          · skip
            refine CK.mono (ct_29   g_m_85.1 r_z5_38 r_z6_48 (by omega) (by omega)) (by decide) ?_
            rintro m107 v107 r_v107 ⟨e_m107, h_m107⟩
            replace e_m107 := e_m107.symm
            subst e_m107
            have fb2 := fl_b tw th (x := z5_38) (y := z6_48) (by omega) (by omega)
            rw [hR_85.2.2] at h_m107
            exact ⟨g_m_85, by exact ⟨by first | trivial | omega | (refine ⟨?_, ?_⟩ <;> omega), by first | exact ⟨dR_85.1, by unfold nxX; rw [if_neg (by rcases dR_85.2 with q | q; omega; exact q.2)]⟩ | exact ⟨dR_85.1, by unfold nxX; rw [if_pos (by rcases dR_85.2 with q | q; exact q.2; omega), h_m107, fb2.2.1, e_z5_38, e_z6_48, w2, w4]⟩⟩⟩
        · intro s2_114 m_114 r_s2_114 hR_114
          obtain ⟨g_m_114, hR_114⟩ := hR_114
          obtain ⟨hR_114, dR_114⟩ := hR_114
          try have w9 : wr (v3 * 4) = v3 * 4 := wr_id (by omega) (by omega)
          try have w10 : wr ((wr (v3 * 4)) + x4_24) = (wr (v3 * 4)) + x4_24 := wr_id (by omega) (by omega)
          refine ⟨⟨by omega, by omega⟩, ?_⟩
          intro m114 e_m114
          have g_m114 : GX sLf m m114 := by rw [e_m114]; exact GX.wt g_m_114 (tw_18 g_m_114.1 ⟨by omega, by omega⟩) (Eq.refl true)
          try have w11 : wr (x4_24 + 1) = x4_24 + 1 := wr_id (by omega) (by omega)
          intro z4_115 e_z4_115
          have r_z4_115 : rg z4_115 := by rw [e_z4_115]; exact wr_rg _
          exact ⟨⟨g_m114, by exact ⟨by first | omega | (refine ⟨?_, ?_⟩ <;> omega) | trivial, by exact (by rw [show z4_115 = x4_24 + 1 by omega]; exact lf2_s dI_24 dR_114.2 (by rw [← dR_114.1, e_m114, w10, w9]) (by omega) h_m3 fb r_s2_114)⟩⟩, by (try dsimp only); omega⟩
-- TippedCrates$Plan.layOut(II)V
set_option maxRecDepth 20000 in
theorem ey_27 {m : Mm} {x1 : Int} {x2 : Int}  (T_m : Ty m) (r_x1 : rg x1) (r_x2 : rg x2) (p0 : 2 ≤ x1 ∧ x1 ≤ 5) (p1 : 2 ≤ x2 ∧ x2 ≤ 5) : CV 3 27 [.ref 7, iv x1, iv x2] m (fun m2 => GX sPl m m2 ∧ ((rd m2 7 0 = x1 ∧ rd m2 7 1 = x2) ∧ (((∀ j : Nat, j < 25 → rd m2 8 j = 0) ∧ (∀ c : Nat, c < 3 → rd m2 9 c = -1) ∧ rd m2 7 3 = 0 ∧ rd m2 7 4 = 0) ∧ ∀ x y : Int, 0 ≤ x → x < x1 → 0 ≤ y → y < x2 → lyX m2 x1 x2 x y))) := by
  refine br_27 r_x1 r_x2 ?_
  unfold P_27
  have g_m : GX sPl m m := ⟨T_m, fun _ _ _ => rfl, fun _ _ => rfl⟩
  intro m2 e_m2
  have g_m2 : GX sPl m m2 := by rw [e_m2]; exact GX.wt g_m (tw_7_0 T_m ⟨by omega, by omega⟩) (Eq.refl true)
  intro m7 e_m7
  have g_m7 : GX sPl m m7 := by rw [e_m7]; exact GX.wt g_m2 (tw_7_1 g_m2.1 ⟨by omega, by omega⟩) (Eq.refl true)
  intro m12 e_m12
  have g_m12 : GX sPl m m12 := by rw [e_m12]; exact GX.wt g_m7 (tw_7_3 g_m7.1 ⟨by omega, by omega⟩) (Eq.refl true)
  intro m17 e_m17
  have g_m17 : GX sPl m m17 := by rw [e_m17]; exact GX.wt g_m12 (tw_7_4 g_m12.1 (by first | assumption | omega)) (Eq.refl true)
  refine CV.mono (ct_299   ir_8 (by unfold rg; decide)) (by decide) ?_
  rintro m25 ⟨hx_m25, h_m25⟩
  have g_m25 : GX sPl m m25 := by rw [hx_m25]; exact GX_fl8 g_m17
  refine CV.mono (ct_299   ir_9 (by unfold rg; decide)) (by decide) ?_
  rintro m33 ⟨hx_m33, h_m33⟩
  have g_m33 : GX sPl m m33 := by rw [hx_m33]; exact GX_fl9 g_m25
  have d0 : rd m33 7 0 = x1 := by rw [hx_m33, rd_flm, if_neg (by omega), hx_m25, rd_flm, if_neg (by omega), e_m17, rd_wt, if_neg (by omega), e_m12, rd_wt, if_neg (by omega), e_m7, rd_wt, if_neg (by omega), e_m2, rd_wt, if_pos ⟨rfl, rfl⟩, wr_i r_x1]
  have d1 : rd m33 7 1 = x2 := by rw [hx_m33, rd_flm, if_neg (by omega), hx_m25, rd_flm, if_neg (by omega), e_m17, rd_wt, if_neg (by omega), e_m12, rd_wt, if_neg (by omega), e_m7, rd_wt, if_pos ⟨rfl, rfl⟩, wr_i r_x2]
  refine ⟨fun x3_38 m_38 => GX sPl m m_38 ∧ (((0 ≤ x3_38 ∧ x3_38 ≤ 5) ∧ rd m_38 7 0 = x1 ∧ rd m_38 7 1 = x2) ∧ (((∀ j : Nat, j < 25 → rd m_38 8 j = 0) ∧ (∀ c : Nat, c < 3 → rd m_38 9 c = -1) ∧ rd m_38 7 3 = 0 ∧ rd m_38 7 4 = 0) ∧ x3_38 ≤ x2 ∧ ∀ x y : Int, 0 ≤ x → x < x1 → 0 ≤ y → y < x3_38 → lyX m_38 x1 x2 x y)), fun x3_38 m_38 => Int.toNat (5 - x3_38), ?_, ?_⟩
  · exact ⟨g_m33, by exact ⟨by first | omega | (refine ⟨?_, ?_⟩ <;> omega) | trivial, by exact ⟨⟨fun j hj => by rw [hx_m33, rd_flm, if_neg (by omega), hx_m25, rd_flm, if_pos ⟨rfl, hj⟩]; rfl, fun c hc => by rw [hx_m33, rd_flm, if_pos ⟨rfl, hc⟩]; rfl, by rw [hx_m33, rd_flm, if_neg (by omega), hx_m25, rd_flm, if_neg (by omega), e_m17, rd_wt, if_neg (by omega), e_m12, rd_wt, if_pos ⟨rfl, rfl⟩]; rfl, by rw [hx_m33, rd_flm, if_neg (by omega), hx_m25, rd_flm, if_neg (by omega), e_m17, rd_wt, if_pos ⟨rfl, rfl⟩]; rfl⟩, by omega, fun x y _ _ _ _ => by omega⟩⟩⟩
  · intro x3_38 m_38 r_x3_38 hI_38
    obtain ⟨g_m_38, hI_38⟩ := hI_38
    obtain ⟨hI_38, dI_38⟩ := hI_38
    have t1 := ty_7_1 g_m_38.1
    refine ⟨fun hq => ?_, fun hq => ?_⟩
    · skip
      exact ⟨g_m_38, by exact ⟨by first | trivial | omega | (refine ⟨?_, ?_⟩ <;> omega), by exact ⟨dI_38.1, fun x y a b c d => dI_38.2.2 x y a b c (by omega)⟩⟩⟩
    · skip
      refine ⟨fun x4_49 m_49 => GX sPl m m_49 ∧ (((0 ≤ x4_49 ∧ x4_49 ≤ 5) ∧ rd m_49 7 0 = x1 ∧ rd m_49 7 1 = x2) ∧ (((∀ j : Nat, j < 25 → rd m_49 8 j = 0) ∧ (∀ c : Nat, c < 3 → rd m_49 9 c = -1) ∧ rd m_49 7 3 = 0 ∧ rd m_49 7 4 = 0) ∧ (x3_38 < x2 ∧ x4_49 ≤ x1) ∧ ∀ x y : Int, 0 ≤ x → x < x1 → 0 ≤ y → (y < x3_38 ∨ (y = x3_38 ∧ x < x4_49)) → lyX m_49 x1 x2 x y)), fun x4_49 m_49 => Int.toNat (5 - x4_49), ?_, ?_⟩
      · exact ⟨g_m_38, by exact ⟨by first | omega | (refine ⟨?_, ?_⟩ <;> omega) | trivial, by exact ⟨dI_38.1, by omega, fun x y a b c d => dI_38.2.2 x y a b c (by omega)⟩⟩⟩
      · intro x4_49 m_49 r_x4_49 hI_49
        obtain ⟨g_m_49, hI_49⟩ := hI_49
        obtain ⟨hI_49, dI_49⟩ := hI_49
        have t2 := ty_7_0 g_m_49.1
        refine ⟨fun hq => ?_, fun hq => ?_⟩
        · skip
          try have w3 : wr (x3_38 + 1) = x3_38 + 1 := wr_id (by omega) (by omega)
          intro z3_71 e_z3_71
          have r_z3_71 : rg z3_71 := by rw [e_z3_71]; exact wr_rg _
          exact ⟨⟨g_m_49, by exact ⟨by first | omega | (refine ⟨?_, ?_⟩ <;> omega) | trivial, by exact ⟨dI_49.1, by omega, fun x y a b c d => dI_49.2.2 x y a b c (by omega)⟩⟩⟩, by (try dsimp only); omega⟩
        · skip
          refine CV.mono (ey_28   g_m_49.1 r_x4_49 r_x3_38 (by omega) (by omega)) (by decide) ?_
          rintro m62 ⟨hx_m62, h_m62⟩
          have g_m62 : GX sPl m m62 := gx_in g_m_49 hx_m62 in_sLf_sPl
          obtain ⟨-, q_m62⟩ := h_m62
          have c0 : rd m62 7 0 = rd m_49 7 0 := hx_m62.2.1 7 0 rfl
          have c1 : rd m62 7 1 = rd m_49 7 1 := hx_m62.2.1 7 1 rfl
          try have w4 : wr (x4_49 + 1) = x4_49 + 1 := wr_id (by omega) (by omega)
          intro z4_65 e_z4_65
          have r_z4_65 : rg z4_65 := by rw [e_z4_65]; exact wr_rg _
          exact ⟨⟨g_m62, by exact ⟨by first | omega | (refine ⟨?_, ?_⟩ <;> omega) | trivial, by exact ⟨⟨fun j hj => (hx_m62.2.1 8 j rfl).trans (dI_49.1.1 j hj), fun c hc => (hx_m62.2.1 9 c rfl).trans (dI_49.1.2.1 c hc), (hx_m62.2.1 7 3 rfl).trans dI_49.1.2.2.1, (hx_m62.2.1 7 4 rfl).trans dI_49.1.2.2.2⟩, by omega, fun x y a b c d => ly_s p0 p1 q_m62 hI_49.2.1 hI_49.2.2 dI_49.2.2 (by omega) a b c (by omega)⟩⟩⟩, by (try dsimp only); omega⟩
-- TippedCrates$Reader.fillPlan()V
set_option maxRecDepth 20000 in
theorem ez_54 {m : Mm}   (T_m : Ty m)  (p0 : 2 ≤ rd m 19 8 ∧ rd m 19 8 ≤ 5) (p1 : 2 ≤ rd m 19 9 ∧ rd m 19 9 ≤ 5) (p2 : ∀ k : Nat, (k : Int) < rd m 19 11 → (0 ≤ rd m 25 (2 * k) ∧ rd m 25 (2 * k) ≤ rd m 19 8 - 1 ∧ 0 ≤ rd m 25 (2 * k + 1) ∧ rd m 25 (2 * k + 1) ≤ rd m 19 9 - 1)) (p3 : ∀ k : Nat, (k : Int) < rd m 19 12 → (0 ≤ rd m 26 (3 * k) ∧ rd m 26 (3 * k) ≤ rd m 19 8 - 1 ∧ 0 ≤ rd m 26 (3 * k + 1) ∧ rd m 26 (3 * k + 1) ≤ rd m 19 9 - 1)) (p4 : ∀ k : Nat, (k : Int) < rd m 19 13 → (0 ≤ rd m 27 (2 * k) ∧ rd m 27 (2 * k) ≤ rd m 19 8 - 1 ∧ 0 ≤ rd m 27 (2 * k + 1) ∧ rd m 27 (2 * k + 1) ≤ rd m 19 9 - 1)) (p5 : ∀ k : Nat, (k : Int) < rd m 19 12 → rd m 26 (3 * k + 2) ≤ 9) (p6 : ∀ k : Nat, (k : Int) < 6 * rd m 19 13 → rd m 28 k ≤ 9) (p7 : lwOk m 20) : CV 4 54 [.ref 19] m (fun m2 => GX sFp m m2 ∧ (((rd m2 7 3 = rd m 19 13 ∧ lwOk m2 11 ∧ (∀ c : Nat, (c : Int) < rd m 19 13 → 0 ≤ rd m2 9 c) ∧ ∀ k : Nat, (k : Int) < 6 * rd m 19 13 → rd m2 10 k ≤ 9) ∧ (∀ E, LSd m 20 E → LSd m2 11 E)) ∧ (pfD m m2))) := by
  refine br_54  ?_
  unfold P_54
  have g_m : GX sFp m m := ⟨T_m, fun _ _ _ => rfl, fun _ _ => rfl⟩
  have u11 := ty_19_11 T_m
  have u12 := ty_19_12 T_m
  have u13 := ty_19_13 T_m
  have t1 := ty_19_8 T_m
  have t2 := ty_19_9 T_m
  refine CV.mono (ey_27   T_m (rd_rg _ _ _) (rd_rg _ _ _) (by omega) (by omega)) (by decide) ?_
  rintro m12 ⟨hx_m12, h_m12⟩
  have g_m12 : GX sFp m m12 := gx_in g_m hx_m12 in_sPl_sFp
  obtain ⟨h_m12, q_m12⟩ := h_m12
  intro m23 e_m23
  have g_m23 : GX sFp m m23 := by rw [e_m23]; exact GX.wt g_m12 (tw_7_2 g_m12.1 (rd_rg _ _ _)) (Eq.refl true)
  have a23 : rd m23 19 13 = rd m 19 13 := g_m23.2.1 19 13 rfl
  have t4 := ty_19_13 g_m23.1
  intro m34 e_m34
  have g_m34 : GX sFp m m34 := by rw [e_m34]; exact GX.wt g_m23 (tw_7_3 g_m23.1 ⟨by omega, by omega⟩) (Eq.refl true)
  have b0 : rd m34 7 0 = rd m 19 8 := by rw [e_m34, rd_wt, if_neg (by omega), e_m23, rd_wt, if_neg (by omega)]; exact h_m12.1
  have b3 : rd m34 7 3 = rd m 19 13 := by rw [e_m34, rd_wt, if_pos ⟨rfl, rfl⟩, wr_i (rd_rg _ _ _), a23]
  have l34 : lwOk m34 20 := lwOk_fr p7 (g_m34.2.1 20 4 rfl) (fun j => g_m34.2.1 22 j rfl)
  refine CV.mono (ex_17   g_m34.1 lw_11 lw_20 ⟨rfl, rfl⟩) (by decide) ?_
  rintro m48 ⟨hx_m48, h_m48⟩
  have g_m48 : GX sFp m m48 := gx_in g_m34 hx_m48 in_sL_sFp
  have q48 : ∀ i j : Nat, (i = 7 ∨ i = 8 ∨ i = 9 ∨ (16 ≤ i ∧ i ≤ 18)) → rd m48 i j = rd m34 i j := fun i j q => hx_m48.2.1 i j (sL_no11 (by omega))
  obtain ⟨h_m48, c_m48⟩ := h_m48
  have d0 : rd m48 7 0 = rd m 19 8 := (hx_m48.2.1 7 0 rfl).trans b0
  have d3 : rd m48 7 3 = rd m 19 13 := (hx_m48.2.1 7 3 rfl).trans b3
  have l48 := h_m48 l34
  have L48 : ∀ E, LSd m 20 E → LSd m48 11 E := fun E h => c_m48 E (ls_fr h (g_m34.2.1 20 4 rfl) (fun j => g_m34.2.1 22 j rfl) (fun j => g_m34.2.1 23 j rfl))
  refine ⟨fun x1_53 m_53 => GX sFp m m_53 ∧ ((((0 ≤ x1_53 ∧ x1_53 ≤ 8) ∧ rd m_53 7 0 = rd m 19 8 ∧ rd m_53 7 3 = rd m 19 13 ∧ lwOk m_53 11) ∧ (∀ E, LSd m 20 E → LSd m_53 11 E)) ∧ (x1_53 ≤ rd m 19 11 ∧ rd m_53 7 4 = shB (rd m 19 8) (fun k => rd m 25 (2 * k)) (fun k => rd m 25 (2 * k + 1)) (Int.toNat x1_53) ∧ (∀ i j : Nat, (i = 8 ∨ i = 9 ∨ (16 ≤ i ∧ i ≤ 18) ∨ (i = 7 ∧ j ≤ 3)) → rd m_53 i j = rd m48 i j))), fun x1_53 m_53 => Int.toNat (8 - x1_53), ?_, ?_⟩
  · exact ⟨g_m48, by exact ⟨by exact ⟨by exact ⟨by omega, d0, d3, l48⟩, by exact L48⟩, by exact ⟨u11.1, by rw [q48 7 4 (by omega), e_m34, rd_wt, if_neg (by omega), e_m23, rd_wt, if_neg (by omega)]; exact q_m12.1.2.2.2, fun _ _ _ => rfl⟩⟩⟩
  · intro x1_53 m_53 r_x1_53 hI_53
    obtain ⟨g_m_53, hI_53⟩ := hI_53
    obtain ⟨hI_53, eI_53⟩ := hI_53
    obtain ⟨hI_53, dI_53⟩ := hI_53
    have q11 : rd m_53 19 11 = rd m 19 11 := g_m_53.2.1 19 11 rfl
    have t5 := ty_19_11 g_m_53.1
    refine ⟨fun hq => ?_, fun hq => ?_⟩
    · skip
      refine ⟨fun x1_108 m_108 => GX sFp m m_108 ∧ ((((0 ≤ x1_108 ∧ x1_108 ≤ 10) ∧ rd m_108 7 0 = rd m 19 8 ∧ rd m_108 7 3 = rd m 19 13 ∧ lwOk m_108 11) ∧ (∀ E, LSd m 20 E → LSd m_108 11 E)) ∧ (x1_108 ≤ rd m 19 12 ∧ rd m_108 7 4 = shB (rd m 19 8) (fun k => rd m 25 (2 * k)) (fun k => rd m 25 (2 * k + 1)) (Int.toNat (rd m 19 11)) ∧ (∀ j : Nat, j < 25 → rd m_108 8 j = mkB (rd m 19 8) (fun k => rd m 26 (3 * k)) (fun k => rd m 26 (3 * k + 1)) (fun k => rd m 26 (3 * k + 2)) (Int.toNat x1_108) j) ∧ (∀ i j : Nat, (i = 9 ∨ (16 ≤ i ∧ i ≤ 18) ∨ (i = 7 ∧ j ≤ 3)) → rd m_108 i j = rd m48 i j))), fun x1_108 m_108 => Int.toNat (10 - x1_108), ?_, ?_⟩
      · exact ⟨g_m_53, by exact ⟨by exact ⟨by exact ⟨by omega, hI_53.2⟩, by exact dI_53⟩, by exact ⟨u12.1, by rw [eI_53.2.1, show x1_53 = rd m 19 11 by omega], fun j hj => by rw [eI_53.2.2 8 j (by omega), q48 8 j (by omega), e_m34, rd_wt, if_neg (by omega), e_m23, rd_wt, if_neg (by omega)]; exact q_m12.1.1 j hj, fun i j q => eI_53.2.2 i j (by omega)⟩⟩⟩
      · intro x1_108 m_108 r_x1_108 hI_108
        obtain ⟨g_m_108, hI_108⟩ := hI_108
        obtain ⟨hI_108, eI_108⟩ := hI_108
        obtain ⟨hI_108, dI_108⟩ := hI_108
        have q12 : rd m_108 19 12 = rd m 19 12 := g_m_108.2.1 19 12 rfl
        have t6 := ty_19_12 g_m_108.1
        refine ⟨fun hq => ?_, fun hq => ?_⟩
        · skip
          refine ⟨fun x1_167 m_167 => GX sFp m m_167 ∧ ((((0 ≤ x1_167 ∧ x1_167 ≤ 3) ∧ rd m_167 7 0 = rd m 19 8 ∧ rd m_167 7 3 = rd m 19 13 ∧ lwOk m_167 11 ∧ ∀ c : Nat, (c : Int) < x1_167 → 0 ≤ rd m_167 9 c) ∧ (∀ E, LSd m 20 E → LSd m_167 11 E)) ∧ (x1_167 ≤ rd m 19 13 ∧ rd m_167 7 4 = shB (rd m 19 8) (fun k => rd m 25 (2 * k)) (fun k => rd m 25 (2 * k + 1)) (Int.toNat (rd m 19 11)) ∧ (∀ j : Nat, j < 25 → rd m_167 8 j = mkB (rd m 19 8) (fun k => rd m 26 (3 * k)) (fun k => rd m 26 (3 * k + 1)) (fun k => rd m 26 (3 * k + 2)) (Int.toNat (rd m 19 12)) j) ∧ (∀ c : Nat, c < 3 → rd m_167 9 c = if (c : Int) < x1_167 then rd m 19 8 * rd m 27 (2 * c + 1) + rd m 27 (2 * c) else -1) ∧ (∀ i j : Nat, ((16 ≤ i ∧ i ≤ 18) ∨ (i = 7 ∧ j ≤ 3)) → rd m_167 i j = rd m48 i j))), fun x1_167 m_167 => Int.toNat (3 - x1_167), ?_, ?_⟩
          · exact ⟨g_m_108, by exact ⟨by exact ⟨by exact ⟨by omega, hI_108.2.1, hI_108.2.2.1, hI_108.2.2.2, fun c hc => by omega⟩, by exact dI_108⟩, by exact ⟨u13.1, eI_108.2.1, fun j hj => by rw [eI_108.2.2.1 j hj, show x1_108 = rd m 19 12 by omega], fun c hc => by rw [if_neg (by omega), eI_108.2.2.2 9 c (by omega), q48 9 c (by omega), e_m34, rd_wt, if_neg (by omega), e_m23, rd_wt, if_neg (by omega)]; exact q_m12.1.2.1 c hc, fun i j q => eI_108.2.2.2 i j (by omega)⟩⟩⟩
          · intro x1_167 m_167 r_x1_167 hI_167
            obtain ⟨g_m_167, hI_167⟩ := hI_167
            obtain ⟨hI_167, eI_167⟩ := hI_167
            obtain ⟨hI_167, dI_167⟩ := hI_167
            have q13 : rd m_167 19 13 = rd m 19 13 := g_m_167.2.1 19 13 rfl
            have t7 := ty_19_13 g_m_167.1
            refine ⟨fun hq => ?_, fun hq => ?_⟩
            · skip
              intro m233 e_m233
              have g_m233 : GX sFp m m233 := by rw [e_m233]; exact GX.cp g_m_167 (g_m_167.1.cp (fun j _ _ => ty_28 g_m_167.1 _)) (fun _ => rfl)
              exact ⟨g_m233, by exact ⟨by exact ⟨by exact ⟨by rw [e_m233, rd_cpm, if_neg (by omega)]; exact hI_167.2.2.1, lwOk_fr hI_167.2.2.2.1 (by rw [e_m233, rd_cpm, if_neg (by omega)]) (fun j => by rw [e_m233, rd_cpm, if_neg (by omega)]), fun c hc => by rw [e_m233, rd_cpm, if_neg (by omega)]; exact hI_167.2.2.2.2 c (by omega), fun k hk => by rw [e_m233, rd_cpm, if_pos (by omega), show k - 0 + 0 = k by omega, g_m_167.2.1 28 k rfl]; exact p6 k hk⟩, by exact fun E h => ls_fr (dI_167 E h) (by rw [e_m233, rd_cpm, if_neg (by omega)]) (fun j => by rw [e_m233, rd_cpm, if_neg (by omega)]) (fun j => by rw [e_m233, rd_cpm, if_neg (by omega)])⟩, by exact pf_of (m48 := m48) e_m233 (by omega) eI_167.2.1 eI_167.2.2.1 eI_167.2.2.2.1 eI_167.2.2.2.2 (q48 7 0 (by omega)) (q48 7 1 (by omega)) (q48 7 2 (by omega)) (q48 7 3 (by omega)) (fun i j q => q48 i j (by omega)) e_m34 e_m23 h_m12 q_m12.2 (g_m12.2.1 19 10 rfl) (g_m23.2.1 19 13 rfl) g_m_167⟩⟩
            · skip
              try have w8 : wr (x1_167 * 2) = x1_167 * 2 := wr_id (by omega) (by omega)
              refine ⟨⟨by omega, by omega⟩, ?_⟩
              try have w9 : wr ((wr (x1_167 * 2)) + 1) = (wr (x1_167 * 2)) + 1 := wr_id (by omega) (by omega)
              refine ⟨⟨by omega, by omega⟩, ?_⟩
              have t10 := ty_27 g_m_167.1 (Int.toNat (wr (x1_167 * 2)))
              have t11 := ty_27 g_m_167.1 (Int.toNat (wr ((wr (x1_167 * 2)) + 1)))
              have i1 : rd m_167 27 (Int.toNat (wr (x1_167 * 2))) = rd m 27 (2 * Int.toNat x1_167) := (g_m_167.2.1 27 _ rfl).trans (congrArg (rd m 27) (by omega))
              have i2 : rd m_167 27 (Int.toNat (wr ((wr (x1_167 * 2)) + 1))) = rd m 27 (2 * Int.toNat x1_167 + 1) := (g_m_167.2.1 27 _ rfl).trans (congrArg (rd m 27) (by omega))
              have yd := p4 (Int.toNat x1_167) (by omega)
              have fb := fl_b p0 p1 (x := rd m 27 (2 * Int.toNat x1_167)) (y := rd m 27 (2 * Int.toNat x1_167 + 1)) (by omega) (by omega)
              refine CK.mono (ct_29   g_m_167.1 (rd_rg _ _ _) (rd_rg _ _ _) (by omega) (by omega)) (by decide) ?_
              rintro m205 v205 r_v205 ⟨e_m205, h_m205⟩
              replace e_m205 := e_m205.symm
              subst e_m205
              rw [hI_167.2.1, i1, i2] at h_m205
              refine ⟨⟨by omega, by omega⟩, ?_⟩
              intro m208 e_m208
              have g_m208 : GX sFp m m208 := by rw [e_m208]; exact GX.wt g_m_167 (tw_9 g_m_167.1 ⟨by omega, by omega⟩) (Eq.refl true)
              have k208 : rd m208 7 0 = rd m 19 8 ∧ rd m208 7 3 = rd m 19 13 ∧ lwOk m208 11 := ⟨by rw [e_m208, rd_wt, if_neg (by omega)]; exact hI_167.2.1, by rw [e_m208, rd_wt, if_neg (by omega)]; exact hI_167.2.2.1, lwOk_fr hI_167.2.2.2.1 (by rw [e_m208, rd_wt, if_neg (by omega)]) (fun j => by rw [e_m208, rd_wt, if_neg (by omega)])⟩
              have c208 : ∀ c : Nat, (c : Int) < x1_167 + 1 → 0 ≤ rd m208 9 c := fun c hc => by
                rw [e_m208, rd_wt]
                split
                · rw [wr_id (by omega) (by omega)]; omega
                · exact hI_167.2.2.2.2 c (by omega)
              try have w12 : wr (x1_167 + 1) = x1_167 + 1 := wr_id (by omega) (by omega)
              intro z1_209 e_z1_209
              have r_z1_209 : rg z1_209 := by rw [e_z1_209]; exact wr_rg _
              exact ⟨⟨g_m208, by exact ⟨by exact ⟨by exact ⟨by omega, k208.1, k208.2.1, k208.2.2, fun c hc => c208 c (by omega)⟩, by exact fun E h => ls_wt (dI_167 E h) (by omega) e_m208⟩, by exact ⟨by omega, by rw [e_m208, rd_wt, if_neg (by omega)]; exact eI_167.2.1, fun j hj => by rw [e_m208, rd_wt, if_neg (by omega)]; exact eI_167.2.2.1 j hj, fun c hc => fc_s (F := fun c => rd m 19 8 * rd m 27 (2 * c + 1) + rd m 27 (2 * c)) (eI_167.2.2.2.1 c hc) e_m208 (by rw [h_m205]; exact fb.2.1) (by omega) (by omega) r_v205, fun i j q => by rw [e_m208, rd_wt, if_neg (by omega)]; exact eI_167.2.2.2.2 i j q⟩⟩⟩, by (try dsimp only); omega⟩
        · skip
          try have w13 : wr (x1_108 * 3) = x1_108 * 3 := wr_id (by omega) (by omega)
          refine ⟨⟨by omega, by omega⟩, ?_⟩
          try have w14 : wr ((wr (x1_108 * 3)) + 1) = (wr (x1_108 * 3)) + 1 := wr_id (by omega) (by omega)
          refine ⟨⟨by omega, by omega⟩, ?_⟩
          have t15 := ty_26 g_m_108.1 (Int.toNat (wr (x1_108 * 3)))
          have t16 := ty_26 g_m_108.1 (Int.toNat (wr ((wr (x1_108 * 3)) + 1)))
          have i1 : rd m_108 26 (Int.toNat (wr (x1_108 * 3))) = rd m 26 (3 * Int.toNat x1_108) := (g_m_108.2.1 26 _ rfl).trans (congrArg (rd m 26) (by omega))
          have i2 : rd m_108 26 (Int.toNat (wr ((wr (x1_108 * 3)) + 1))) = rd m 26 (3 * Int.toNat x1_108 + 1) := (g_m_108.2.1 26 _ rfl).trans (congrArg (rd m 26) (by omega))
          have yd := p3 (Int.toNat x1_108) (by omega)
          have fb := fl_b p0 p1 (x := rd m 26 (3 * Int.toNat x1_108)) (y := rd m 26 (3 * Int.toNat x1_108 + 1)) (by omega) (by omega)
          refine CK.mono (ct_29   g_m_108.1 (rd_rg _ _ _) (rd_rg _ _ _) (by omega) (by omega)) (by decide) ?_
          rintro m145 v145 r_v145 ⟨e_m145, h_m145⟩
          replace e_m145 := e_m145.symm
          subst e_m145
          rw [hI_108.2.1, i1, i2] at h_m145
          have pm := p5 (Int.toNat x1_108) (by omega)
          try have w17 : wr ((wr (x1_108 * 3)) + 2) = (wr (x1_108 * 3)) + 2 := wr_id (by omega) (by omega)
          refine ⟨⟨by omega, by omega⟩, ?_⟩
          refine ⟨⟨by omega, by omega⟩, ?_⟩
          have t18 := ty_26 g_m_108.1 (Int.toNat (wr ((wr (x1_108 * 3)) + 2)))
          intro m158 e_m158
          have g_m158 : GX sFp m m158 := by rw [e_m158]; exact GX.wt g_m_108 (tw_8 g_m_108.1 ⟨(ty_26 g_m_108.1 _).1, by rw [show rd m_108 26 (Int.toNat (wr ((wr (x1_108 * 3)) + 2))) = rd m 26 (3 * Int.toNat x1_108 + 2) from (g_m_108.2.1 26 _ rfl).trans (congrArg (rd m 26) (by omega))]; exact pm⟩) (Eq.refl true)
          have k158 : rd m158 7 0 = rd m 19 8 ∧ rd m158 7 3 = rd m 19 13 ∧ lwOk m158 11 := ⟨by rw [e_m158, rd_wt, if_neg (by omega)]; exact hI_108.2.1, by rw [e_m158, rd_wt, if_neg (by omega)]; exact hI_108.2.2.1, lwOk_fr hI_108.2.2.2 (by rw [e_m158, rd_wt, if_neg (by omega)]) (fun j => by rw [e_m158, rd_wt, if_neg (by omega)])⟩
          try have w19 : wr (x1_108 + 1) = x1_108 + 1 := wr_id (by omega) (by omega)
          intro z1_159 e_z1_159
          have r_z1_159 : rg z1_159 := by rw [e_z1_159]; exact wr_rg _
          exact ⟨⟨g_m158, by exact ⟨by exact ⟨by exact ⟨by omega, k158⟩, by exact fun E h => ls_wt (dI_108 E h) (by omega) e_m158⟩, by exact ⟨by omega, by rw [e_m158, rd_wt, if_neg (by omega)]; exact eI_108.2.1, fun j hj => by rw [show Int.toNat z1_159 = Int.toNat x1_108 + 1 by omega]; exact mk_s (eI_108.2.2.1 j hj) (by rw [e_m158, show rd m_108 26 (Int.toNat (wr ((wr (x1_108 * 3)) + 2))) = rd m 26 (3 * Int.toNat x1_108 + 2) from (g_m_108.2.1 26 _ rfl).trans (congrArg (rd m 26) (by omega))]) (by rw [h_m145]; exact fb.2.1) (rd_rg _ _ _), fun i j q => by rw [e_m158, rd_wt, if_neg (by omega)]; exact eI_108.2.2.2 i j q⟩⟩⟩, by (try dsimp only); omega⟩
    · skip
      try have w20 : wr (x1_53 * 2) = x1_53 * 2 := wr_id (by omega) (by omega)
      refine ⟨⟨by omega, by omega⟩, ?_⟩
      try have w21 : wr ((wr (x1_53 * 2)) + 1) = (wr (x1_53 * 2)) + 1 := wr_id (by omega) (by omega)
      refine ⟨⟨by omega, by omega⟩, ?_⟩
      have t22 := ty_25 g_m_53.1 (Int.toNat (wr (x1_53 * 2)))
      have t23 := ty_25 g_m_53.1 (Int.toNat (wr ((wr (x1_53 * 2)) + 1)))
      refine CK.mono (ct_29   g_m_53.1 (rd_rg _ _ _) (rd_rg _ _ _) (by omega) (by omega)) (by decide) ?_
      rintro m92 v92 r_v92 ⟨e_m92, h_m92⟩
      replace e_m92 := e_m92.symm
      subst e_m92
      intro m97 e_m97
      have g_m97 : GX sFp m m97 := by rw [e_m97]; exact GX.wt g_m_53 (tw_7_4 g_m_53.1 (io_rg _ _ _)) (Eq.refl true)
      have k97 : rd m97 7 0 = rd m 19 8 ∧ rd m97 7 3 = rd m 19 13 ∧ lwOk m97 11 := ⟨by rw [e_m97, rd_wt, if_neg (by omega)]; exact hI_53.2.1, by rw [e_m97, rd_wt, if_neg (by omega)]; exact hI_53.2.2.1, lwOk_fr hI_53.2.2.2 (by rw [e_m97, rd_wt, if_neg (by omega)]) (fun j => by rw [e_m97, rd_wt, if_neg (by omega)])⟩
      have yd53 := p2 (Int.toNat x1_53) (by omega)
      have fb53 := fl_b p0 p1 (x := rd m 25 (2 * Int.toNat x1_53)) (y := rd m 25 (2 * Int.toNat x1_53 + 1)) (by omega) (by omega)
      have v92e : v92 = rd m 19 8 * rd m 25 (2 * Int.toNat x1_53 + 1) + rd m 25 (2 * Int.toNat x1_53) := by rw [h_m92, hI_53.2.1, show rd m_53 25 (Int.toNat (wr (x1_53 * 2))) = rd m 25 (2 * Int.toNat x1_53) from (g_m_53.2.1 25 _ rfl).trans (congrArg (rd m 25) (by omega)), show rd m_53 25 (Int.toNat (wr ((wr (x1_53 * 2)) + 1))) = rd m 25 (2 * Int.toNat x1_53 + 1) from (g_m_53.2.1 25 _ rfl).trans (congrArg (rd m 25) (by omega))]; exact fb53.2.1
      try have w25 : wr (x1_53 + 1) = x1_53 + 1 := wr_id (by omega) (by omega)
      intro z1_100 e_z1_100
      have r_z1_100 : rg z1_100 := by rw [e_z1_100]; exact wr_rg _
      exact ⟨⟨g_m97, by exact ⟨by exact ⟨by exact ⟨by omega, k97⟩, by exact fun E h => ls_wt (dI_53 E h) (by omega) e_m97⟩, by exact ⟨by omega, by rw [show Int.toNat z1_100 = Int.toNat x1_53 + 1 by omega, e_m97, rd_wt, if_pos ⟨rfl, rfl⟩, wr_i (show rg (orI (rd m_53 7 4) (slI 1 v92)) from io_rg _ _ _), eI_53.2.1, v92e]; rfl, fun i j q => by rw [e_m97, rd_wt, if_neg (by omega)]; exact eI_53.2.2 i j q⟩⟩⟩, by (try dsimp only); omega⟩
-- TippedCrates$State.start(LTippedCrates$Plan;)V
set_option maxRecDepth 20000 in
theorem ey_75 {m : Mm} {a : Nat}  (T_m : Ty m) (h_a : isSt a)  : CV 2 75 [.ref a, .ref 7] m (fun m2 => GX (sA a) m m2 ∧ ((rd m2 a 4 = rd m 7 3 ∧ (∀ j : Nat, j < 3 → rd m2 (a + 2) j = rd m 9 j) ∧ ∀ j : Nat, j < 18 → rd m2 (a + 3) j = rd m 10 j) ∧ ((∀ j : Nat, j < 25 → rd m2 (a + 1) j = rd m 8 j) ∧ (∀ j : Nat, j < 3 → rd m2 (a + 4) j = 0) ∧ rd m2 a 5 = 0 ∧ rd m2 a 6 = 0))) := by
  refine br_75 h_a ?_
  unfold P_75
  have g_m : GX (sA a) m m := ⟨T_m, fun _ _ _ => rfl, fun _ _ => rfl⟩
  have ha2 := h_a
  unfold isSt at ha2
  intro m12 e_m12
  have g_m12 : GX (sA a) m m12 := by rw [e_m12]; exact GX.cp g_m (tcs_M T_m h_a) (fun _ => sA_w (by omega))
  intro m26 e_m26
  have g_m26 : GX (sA a) m m26 := by rw [e_m26]; exact GX.cp g_m12 (tcs_F g_m12.1 h_a) (fun _ => sA_w (by omega))
  intro m44 e_m44
  have g_m44 : GX (sA a) m m44 := by rw [e_m44]; exact GX.cp g_m26 (tcs_C g_m26.1 h_a) (fun _ => sA_w (by omega))
  refine CV.mono (ct_299   (st_4 h_a) (by unfold rg; decide)) (by decide) ?_
  rintro m52 ⟨hx_m52, h_m52⟩
  have g_m52 : GX (sA a) m m52 := by rw [hx_m52]; exact GX_flT g_m44 h_a (fun _ => sA_w (by omega))
  have t1 := ty_7_3 g_m52.1
  intro m60 e_m60
  have g_m60 : GX (sA a) m m60 := by rw [e_m60]; exact GX.wt g_m52 (tw_s4 g_m52.1 h_a ⟨by omega, by omega⟩) (sA_w (by omega))
  intro m65 e_m65
  have g_m65 : GX (sA a) m m65 := by rw [e_m65]; exact GX.wt g_m60 (tw_s5 g_m60.1 h_a (by first | assumption | omega)) (sA_w (by omega))
  intro m70 e_m70
  have g_m70 : GX (sA a) m m70 := by rw [e_m70]; exact GX.wt g_m65 (tw_s6 g_m65.1 h_a (by first | assumption | omega)) (sA_w (by omega))
  exact ⟨g_m70, by exact ⟨by exact ⟨(by rw [e_m70, rd_wt, if_neg (by omega), e_m65, rd_wt, if_neg (by omega), e_m60, rd_wt, if_pos ⟨rfl, rfl⟩, wr_i (rd_rg _ _ _), hx_m52, rd_flm, if_neg (by omega), e_m44, rd_cpm, if_neg (by omega), e_m26, rd_cpm, if_neg (by omega), e_m12, rd_cpm, if_neg (by omega)]), fun j hj => (by rw [e_m70, rd_wt, if_neg (by omega), e_m65, rd_wt, if_neg (by omega), e_m60, rd_wt, if_neg (by omega), hx_m52, rd_flm, if_neg (by omega), e_m44, rd_cpm, if_neg (by omega), e_m26, rd_cpm, if_pos (by omega), e_m12, rd_cpm, if_neg (by omega)]; rfl), fun j hj => (by rw [e_m70, rd_wt, if_neg (by omega), e_m65, rd_wt, if_neg (by omega), e_m60, rd_wt, if_neg (by omega), hx_m52, rd_flm, if_neg (by omega), e_m44, rd_cpm, if_pos (by omega), e_m26, rd_cpm, if_neg (by omega), e_m12, rd_cpm, if_neg (by omega)]; rfl)⟩, by exact ⟨fun j hj => by rw [e_m70, rd_wt, if_neg (by omega), e_m65, rd_wt, if_neg (by omega), e_m60, rd_wt, if_neg (by omega), hx_m52, rd_flm, if_neg (by omega), e_m44, rd_cpm, if_neg (by omega), e_m26, rd_cpm, if_neg (by omega), e_m12, rd_cpm, if_pos (by omega)]; rfl, fun j hj => by rw [e_m70, rd_wt, if_neg (by omega), e_m65, rd_wt, if_neg (by omega), e_m60, rd_wt, if_neg (by omega), hx_m52, rd_flm, if_pos ⟨rfl, hj⟩]; rfl, by rw [e_m70, rd_wt, if_neg (by omega), e_m65, rd_wt, if_pos ⟨rfl, rfl⟩]; rfl, by rw [e_m70, rd_wt, if_pos ⟨rfl, rfl⟩]; rfl⟩⟩⟩
