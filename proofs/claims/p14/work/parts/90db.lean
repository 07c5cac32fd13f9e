def YS (m : Mm) (a : Nat) (Y : Ro) (E : Lw) (r : Ro) : Prop := plC m Y E ∧ stC m a Y r ∧ okY Y ∧ okR Y r
theorem sT_pl {a i j : Nat} (ha : isSt a) (h : i = 7 ∨ i = 11 ∨ i = 13 ∨ i = 14 ∨ (16 ≤ i ∧ i ≤ 18)) : sT a i j = false := sT_no (by omega) (by omega) (by have := ha.1; omega)
theorem plC_T {m m2 : Mm} {a : Nat} {Y : Ro} {E : Lw} (ha : isSt a) (h : plC m Y E) (g : GX (sT a) m m2) : plC m2 Y E := plC_fr h (fun i j q => g.2.1 i j (sT_pl ha q))
theorem lsE_T {m m2 : Mm} {a : Nat} (ha : isSt a) (h : ∃ E, LSd m 11 E) (g : GX (sT a) m m2) : ∃ E, LSd m2 11 E := by
  obtain ⟨E, h⟩ := h
  exact ⟨E, ls_fr h (g.2.1 11 4 (sT_pl ha (by omega))) (fun j => g.2.1 13 j (sT_pl ha (by omega))) (fun j => g.2.1 14 j (sT_pl ha (by omega)))⟩
theorem lsE_12 {m m2 : Mm} (h : ∃ E, LSd m 11 E) (g : GX s12 m m2) : ∃ E, LSd m2 11 E := by
  obtain ⟨E, h⟩ := h
  exact ⟨E, ls_fr h (g.2.1 11 4 rfl) (fun j => g.2.1 13 j rfl) (fun j => g.2.1 14 j rfl)⟩
theorem lsE_15 {m m2 : Mm} (h : ∃ E, LSd m 11 E) (g : GX s15 m m2) : ∃ E, LSd m2 11 E := by
  obtain ⟨E, h⟩ := h
  exact ⟨E, ls_fr h (g.2.1 11 4 rfl) (fun j => g.2.1 13 j rfl) (fun j => g.2.1 14 j rfl)⟩
theorem can_C {m : Mm} {a : Nat} {Y r : Ro} {E : Lw} {x2 x3 : Int} (h : YS m a Y E r) (hx : 0 ≤ x2 ∧ x2 < rd m a 4) (hk : 0 ≤ x3 ∧ x3 ≤ 3) : canT m a x2 x3 ↔ canN Y r x2 x3 := by
  obtain ⟨P, S, oY, oR⟩ := h
  have en := nx_C P S oY oR hx hk rfl
  have n := S.1
  have y3 := oY.2.2
  have F := S.2.2.1
  unfold canT canN
  rw [en, P.1.2.2.1]
  constructor
  · rintro ⟨a1, a2, a3⟩
    refine ⟨a1, a2, fun q => ?_, fun q => ?_, fun q => ?_⟩
    · exact a3 0 (by omega) ((F 0 (by omega) (by omega)).trans q.2)
    · exact a3 1 (by omega) ((F 1 (by omega) (by omega)).trans q.2)
    · exact a3 2 (by omega) ((F 2 (by omega) (by omega)).trans q.2)
  · rintro ⟨a1, a2, a3, a4, a5⟩
    refine ⟨a1, a2, fun q hq e => ?_⟩
    have f := F q (by omega) (by omega)
    rw [show Int.toNat (q : Int) = q by omega, e] at f
    have hq3 : q = 0 ∨ q = 1 ∨ q = 2 := by omega
    rcases hq3 with rfl | rfl | rfl
    · exact a3 ⟨by omega, f.symm⟩
    · exact a4 ⟨by omega, f.symm⟩
    · exact a5 ⟨by omega, f.symm⟩
theorem fC_ti {Y r : Ro} {E : Lw} {c k d : Int} (hc : 0 ≤ c ∧ c ≤ 2) (hd : 0 ≤ d ∧ d ≤ 2) (nb : nxN Y (fC r c) k ≤ 24) : fC (tiN Y E r c k) d = if d = c then nxN Y (fC r c) k else fC r d := by
  have B : fC (tiB Y E r c k) d = if d = c then nxN Y (fC r c) k else fC r d := by
    unfold fC tiB
    rw [ro_ne (by omega), ro_ne (by omega)]
    by_cases q : d = c
    · rw [if_pos q, q, ro_eq]
      rfl
    · rw [if_neg q, ro_ne (by omega)]
      unfold trn
      rw [if_neg (by omega)]
  rw [← B]
  unfold tiN fC
  by_cases q : 0 < lwN Y E 0 r c k
  · rw [if_pos q, ro_ne (by unfold fC at nb; omega)]
  · rw [if_neg q]
    by_cases q2 : 0 < lwN Y E 1 r c k
    · rw [if_pos q2, ro_ne (by omega)]
    · rw [if_neg q2]
theorem okR_ti {Y r : Ro} {E : Lw} {c k : Int} (oY : okY Y) (oR : okR Y r) (hc : 0 ≤ c ∧ c < Y 3) (hk : 0 ≤ k ∧ k ≤ 3) (nz_ : ¬ nxN Y (fC r c) k = -1) : okR Y (tiN Y E r c k) := fun d d0 d1 => by
  have y3 := oY.2.2
  have o := oR c hc.1 hc.2
  have wb := wh_b oY.1 oY.2.1
  rcases nx_b oY o hk with q | ⟨q, -⟩
  · exact absurd q nz_
  · rw [fC_ti (by omega) (by omega) (by omega)]
    split
    · exact q
    · exact oR d d0 d1
theorem YS_ti {m m2 : Mm} {a : Nat} {Y r : Ro} {E : Lw} {x2 x3 : Int} (ha : isSt a) (h : YS m a Y E r) (hx : 0 ≤ x2 ∧ x2 < rd m a 4) (hk : 0 ≤ x3 ∧ x3 ≤ 3) (cn : canN Y r x2 x3) (g : GX (sT a) m m2) (q : ∀ Y E r, plC m Y E → stC m a Y r → okY Y → okR Y r → ¬ nxN Y (fC r x2) x3 = -1 → stC m2 a Y (tiN Y E r x2 x3)) : YS m2 a Y E (tiN Y E r x2 x3) := by
  obtain ⟨P, S, oY, oR⟩ := h
  have n := S.1
  exact ⟨plC_T ha P g, q Y E r P S oY oR cn.1, oY, okR_ti oY oR ⟨hx.1, by omega⟩ hk cn.1⟩
theorem wh_C {m : Mm} {a : Nat} {Y r : Ro} {x2 z4 : Int} (S : stC m a Y r) (e : z4 = wr ((wr (8 * (rd m a 5))) + x2)) : z4 = whN r x2 := by
  rw [e, S.2.2.2.2.2.1]
  rfl
theorem or_0 {v : Int} {p : Prop} (h : (v = 1 ∧ p) ∨ (v = 0 ∧ ¬ p)) (z : v = 0) : ¬ p := by
  rcases h with q | q
  · omega
  · exact q.2
theorem or_1 {v : Int} {p : Prop} (h : (v = 1 ∧ p) ∨ (v = 0 ∧ ¬ p)) (z : ¬ v = 0) : p := by
  rcases h with q | q
  · exact q.2
  · omega
theorem pv_n {m : Mm} {a : Nat} {x2 x3 v15 v25 z4 : Int} (_ha : isSt a) (hx : 0 ≤ x2 ∧ x2 < rd m a 4) (hb : 0 ≤ v15 ∧ v15 < 4) (e15 : v15 = lotI 4 x3 z4) (ez : z4 = wr ((wr (8 * (rd m a 5))) + x2)) (h25 : (v25 = 1 ∧ canT m a x2 v15) ∨ (v25 = 0 ∧ ¬ canT m a x2 v15)) (z : v25 = 0) : ∀ Y E r, YS m a Y E r → YS m a Y E (paN Y E x3 r x2) := fun Y E r h => by
  have cc := can_C h hx (x3 := v15) (by omega)
  have w := wh_C h.2.1 ez
  subst w
  unfold paN
  rw [← e15, if_neg (by rw [canB_t, ← cc]; exact or_0 h25 z)]
  exact h
theorem pv_1 {m m37 : Mm} {a : Nat} {x2 x3 v15 v25 v45 z4 : Int} (ha : isSt a) (hx : 0 ≤ x2 ∧ x2 < rd m a 4) (hb : 0 ≤ v15 ∧ v15 < 4) (e15 : v15 = lotI 4 x3 z4) (ez : z4 = wr ((wr (8 * (rd m a 5))) + x2)) (h25 : (v25 = 1 ∧ canT m a x2 v15) ∨ (v25 = 0 ∧ ¬ canT m a x2 v15)) (z : ¬ v25 = 0) (g37 : GX (sT a) m m37) (q37 : ∀ Y E r, plC m Y E → stC m a Y r → okY Y → okR Y r → ¬ nxN Y (fC r x2) v15 = -1 → stC m37 a Y (tiN Y E r x2 v15)) (h45 : (v45 = 1 ∧ canT m37 a x2 v15) ∨ (v45 = 0 ∧ ¬ canT m37 a x2 v15)) (z2 : ¬ v45 = 0) : ∀ Y E r, YS m a Y E r → YS m37 a Y E (tiN Y E r x2 v15) ∧ paN Y E x3 r x2 = slN Y E x3 (tiN Y E r x2 v15) x2 v15 z4 := fun Y E r h => by
  have cc := (can_C h hx (x3 := v15) (by omega)).mp (or_1 h25 z)
  have Y37 := YS_ti ha h hx (by omega) cc g37 q37
  have n37 : rd m37 a 4 = rd m a 4 := g37.2.1 a 4 (sT_4 ha)
  have cc2 := (can_C Y37 (x2 := x2) (by omega) (x3 := v15) (by omega)).mp (or_1 h45 z2)
  have w := wh_C h.2.1 ez
  refine ⟨Y37, ?_⟩
  unfold paN
  rw [← w, ← e15, if_pos (canB_t.mpr cc), if_pos (canB_t.mpr cc2)]
theorem pv_m {m m37 : Mm} {a : Nat} {x2 x3 v15 v25 v45 z4 : Int} (ha : isSt a) (hx : 0 ≤ x2 ∧ x2 < rd m a 4) (hb : 0 ≤ v15 ∧ v15 < 4) (e15 : v15 = lotI 4 x3 z4) (ez : z4 = wr ((wr (8 * (rd m a 5))) + x2)) (h25 : (v25 = 1 ∧ canT m a x2 v15) ∨ (v25 = 0 ∧ ¬ canT m a x2 v15)) (z : ¬ v25 = 0) (g37 : GX (sT a) m m37) (q37 : ∀ Y E r, plC m Y E → stC m a Y r → okY Y → okR Y r → ¬ nxN Y (fC r x2) v15 = -1 → stC m37 a Y (tiN Y E r x2 v15)) (h45 : (v45 = 1 ∧ canT m37 a x2 v15) ∨ (v45 = 0 ∧ ¬ canT m37 a x2 v15)) (z2 : v45 = 0) : ∀ Y E r, YS m a Y E r → YS m37 a Y E (paN Y E x3 r x2) := fun Y E r h => by
  have cc := (can_C h hx (x3 := v15) (by omega)).mp (or_1 h25 z)
  have Y37 := YS_ti ha h hx (by omega) cc g37 q37
  have n37 : rd m37 a 4 = rd m a 4 := g37.2.1 a 4 (sT_4 ha)
  have cc2 := can_C Y37 (x2 := x2) (by omega) (x3 := v15) (by omega)
  have w := wh_C h.2.1 ez
  unfold paN
  rw [← w, ← e15, if_pos (canB_t.mpr cc), if_neg (by rw [canB_t, ← cc2]; exact or_0 h45 z2)]
  exact Y37
theorem pv_s {m m37 m57 m72 m86 : Mm} {a : Nat} {x2 x3 v15 v68 v72 z4 : Int} (h1 : ∀ Y E r, YS m a Y E r → YS m37 a Y E (tiN Y E r x2 v15) ∧ paN Y E x3 r x2 = slN Y E x3 (tiN Y E r x2 v15) x2 v15 z4) (c37 : rd m37 a 4 = rd m a 4) (ha : isSt a) (hx : 0 ≤ x2 ∧ x2 < rd m a 4) (hb : 0 ≤ v15 ∧ v15 < 4) (lf : lfX m37 m57 a x2 (rd m37 (a + 2) (Int.toNat x2)) v15 (rd m37 (a + 3) (Int.toNat (6 * x2 + ct v15))) (rd m37 (a + 3) (Int.toNat (6 * x2 + cb v15)))) (g57 : GX s12 m37 m57) (q72 : ∀ E, LSd m57 11 E → v72 = clI 100 (lval (vaC m57) (E 3).1 (E 3).2)) (g72 : GX s15 m57 m72) (h68 : v68 = lotI 100 x3 (wr (100000 + z4))) (c : (v72 ≤ v68 ∧ m86 = m72) ∨ (¬ v72 ≤ v68 ∧ GX (sT a) m72 m86 ∧ ∀ Y E r, plC m72 Y E → stC m72 a Y r → okY Y → okR Y r → ¬ nxN Y (fC r x2) v15 = -1 → stC m86 a Y (tiN Y E r x2 v15))) (cn : ∀ Y E r, YS m a Y E r → canN Y (tiN Y E r x2 v15) x2 v15) : ∀ Y E r, YS m a Y E r → YS m86 a Y E (paN Y E x3 r x2) := fun Y E r h => by
  obtain ⟨⟨P, S, oY, oR⟩, e⟩ := h1 Y E r h
  have a0 := ha.1
  have fv := frV_15 (frV_0 g57) g72
  have P72 : plC m72 Y E := plC_fr P (fun i j q => fv.1 i j (by omega) (by omega))
  have S72 : stC m72 a Y (tiN Y E r x2 v15) := stC_fr S (fun i j p q => fv.1 i j (by omega) (by omega))
  have va := va_C P S oY oR (x2 := x2) (x3 := v15) (by omega) (by omega) lf
  have L57 : LSd m57 11 E := ls_fr P.2.2 (g57.2.1 11 4 rfl) (fun j => g57.2.1 13 j rfl) (fun j => g57.2.1 14 j rfl)
  have v72e := q72 E L57
  rw [lw_C (ls_W P.2.2) va (by decide)] at v72e
  rw [e]
  unfold slN
  rw [← h68, ← v72e]
  rcases c with ⟨c, ce⟩ | ⟨c, g, q⟩
  · rw [if_neg (by omega), ce]
    exact ⟨P72, S72, oY, oR⟩
  · rw [if_pos (by omega)]
    have n72 : rd m72 a 4 = rd m a 4 := (fv.1 a 4 (by omega) (by omega)).trans c37
    exact YS_ti ha ⟨P72, S72, oY, oR⟩ (by omega) (by omega) (cn Y E r h) g q
theorem go_c {m12 m26 : Mm} {a : Nat} {Y r : Ro} {E : Lw} {S x5 z5 : Int} (h : YS m12 a Y E (psN Y E S r (Int.toNat x5))) (q : ∀ Y E r, YS m12 a Y E r → YS m26 a Y E (paN Y E S r x5)) (e : 0 ≤ x5 ∧ z5 = x5 + 1) : YS m26 a Y E (psN Y E S r (Int.toNat z5)) := by
  have t := q Y E _ h
  rw [show Int.toNat z5 = Int.toNat x5 + 1 by omega]
  show YS m26 a Y E (paN Y E S (psN Y E S r (Int.toNat x5)) ((Int.toNat x5 : Nat) : Int))
  rw [show ((Int.toNat x5 : Nat) : Int) = x5 by omega]
  exact t
theorem go_m {m m12 m42 : Mm} {a : Nat} {Y r : Ro} {E : Lw} {S x4 x5 z4 : Int} (h : YS m12 a Y E (psN Y E S (goN Y E S r (Int.toNat x4)) (Int.toNat x5))) (ha : isSt a) (e : m42 = wt m12 a 5 (wr ((rd m12 a 5) + 1))) (le : x5 = rd m a 4) (n12 : rd m12 a 4 = rd m a 4) (ez : 0 ≤ x4 ∧ z4 = x4 + 1) : YS m42 a Y E (goN Y E S r (Int.toNat z4)) := by
  obtain ⟨P, S1, oY, oR⟩ := h
  have a0 := ha.1
  have en : x5 = Y 3 := by rw [le, ← n12]; exact S1.1
  rw [show Int.toNat z4 = Int.toNat x4 + 1 by omega]
  rw [en] at S1 oR
  obtain ⟨s1, s2, s3, s4, s5, s6, s7⟩ := S1
  refine ⟨plC_fr P (fun i j q => by rw [e, rd_wt, if_neg (by omega)]), ⟨by rw [e, rd_wt, if_neg (by omega)]; exact s1, fun j hj => ?_, fun c c0 c1 => ?_, fun k k0 k1 => ?_, fun c c0 c1 => ?_, ?_, ?_⟩, oY, fun c c0 c1 => ?_⟩
  · rw [e, rd_wt, if_neg (by omega)]
    show _ = ro_u _ 49 _ j
    rw [ro_ne (by omega)]; exact s2 j hj
  · have y3 := oY.2.2
    rw [e, rd_wt, if_neg (by omega)]
    show _ = ro_u _ 49 _ _
    rw [ro_ne (by omega)]; exact s3 c c0 c1
  · have y3 := oY.2.2
    rw [e, rd_wt, if_neg (by omega)]
    show _ = ro_u _ 49 _ _
    rw [ro_ne (by omega)]; exact s4 k k0 k1
  · rw [e, rd_wt, if_neg (by omega)]
    show _ = ro_u _ 49 _ _
    rw [ro_ne (by omega)]; exact s5 c c0 c1
  · rw [e, rd_wt, if_pos ⟨rfl, rfl⟩, wr_i (wr_rg _), s6]
    exact (ro_eq (r := psN Y E S (goN Y E S r (Int.toNat x4)) (Int.toNat (Y 3))) (i := 49) (v := wr (psN Y E S (goN Y E S r (Int.toNat x4)) (Int.toNat (Y 3)) 49 + 1))).symm
  · rw [e, rd_wt, if_neg (by omega)]
    exact s7.trans (ro_ne (r := psN Y E S (goN Y E S r (Int.toNat x4)) (Int.toNat (Y 3))) (i := 49) (j := 50) (v := wr (psN Y E S (goN Y E S r (Int.toNat x4)) (Int.toNat (Y 3)) 49 + 1)) (by decide)).symm
  · have y3 := oY.2.2
    show 0 ≤ ro_u _ 49 _ (Int.toNat (43 + c)) ∧ ro_u _ 49 _ (Int.toNat (43 + c)) < _
    rw [ro_ne (by omega)]
    exact oR c c0 c1
-- TippedCrates$Drays.passFor(LTippedCrates$State;II)V
set_option maxRecDepth 20000 in
theorem ey_9 {m : Mm} {a : Nat} {x2 : Int} {x3 : Int}  (T_m : Ty m) (h_a : isSt a) (r_x2 : rg x2) (r_x3 : rg x3) (p0 : okC m a) (p1 : 0 ≤ x2 ∧ x2 < rd m a 4) (p2 : lwOk m 11) (p3 : ∃ E, LSd m 11 E) : CV 5 9 [.ref 30, .ref a, iv x2, iv x3] m (fun m2 => GX (sT a) m m2 ∧ ((okC m2 a) ∧ (∀ Y E r, YS m a Y E r → YS m2 a Y E (paN Y E x3 r x2)))) := by
  refine br_9 h_a r_x2 r_x3 ?_
  unfold P_9
  have g_m : GX (sT a) m m := ⟨T_m, fun _ _ _ => rfl, fun _ _ => rfl⟩
  have t4 := ty_s4 T_m h_a
  have hfl := p0.1 (Int.toNat x2) (by omega)
  try have w2 : wr (8 * (rd m a 5)) = 8 * (rd m a 5) := wr_id (by omega) (by omega)
  try have w3 : wr ((wr (8 * (rd m a 5))) + x2) = (wr (8 * (rd m a 5))) + x2 := wr_id (by omega) (by omega)
  intro z4_9 e_z4_9
  have r_z4_9 : rg z4_9 := by rw [e_z4_9]; exact (wr_rg _)
  refine CK.mono (ct_10   (by unfold rg; decide) r_x3 r_z4_9 (by omega)) (by decide) ?_
  rintro m15 v15 r_v15 ⟨e_m15, h_m15⟩
  replace e_m15 := e_m15.symm
  subst e_m15
  obtain ⟨ha15, hb15⟩ := h_m15
  refine CK.mono (ct_1   T_m h_a r_x2 r_v15 (by omega) (by omega) (by omega)) (by decide) ?_
  rintro m25 v25 r_v25 ⟨e_m25, h_m25⟩
  replace e_m25 := e_m25.symm
  subst e_m25
  refine ⟨fun hq => ?_, fun hq => ?_⟩
  · skip
    refine CV.mono (ey_7   T_m h_a r_x2 r_v15 p0 (by omega) (by omega) p2 p3) (by decide) ?_
    rintro m37 ⟨hx_m37, h_m37⟩
    have g_m37 : GX (sT a) m m37 := gx_in g_m hx_m37 (fun _ _ h => h)
    have hq25 : ¬ v25 = 0 := by omega
    obtain ⟨h_m37, q_m37⟩ := h_m37
    have c37 : rd m37 a 4 = rd m a 4 := hx_m37.2.1 a 4 (sT_4 h_a)
    have q37 := h_m37.1 (Int.toNat x2) (by omega)
    have l37 := lwOk_sT p2 hx_m37 h_a
    refine CK.mono (ct_1   g_m37.1 h_a r_x2 r_v15 (by omega) (by omega) (by omega)) (by decide) ?_
    rintro m45 v45 r_v45 ⟨e_m45, h_m45⟩
    replace e_m45 := e_m45.symm
    subst e_m45
    refine ⟨fun hq => ?_, fun hq => ?_⟩
    · skip
      refine CV.mono (ey_2   g_m37.1 h_a r_x2 r_v15 (by omega) (by omega) (by omega)) (by decide) ?_
      rintro m57 ⟨hx_m57, h_m57⟩
      have g_m57 : GX (sT a) m m57 := gx_in g_m37 hx_m57 in_s12_sT
      have hq45 : ¬ v45 = 0 := by omega
      have q_m57 := h_m57.2
      have o57 : okC m57 a := okC_fr h_m37 (fun i c hi => hx_m57.2.1 i c (nb_ne (by have := h_a.1; omega)))
      try have w4 : wr (100000 + z4_9) = 100000 + z4_9 := wr_id (by omega) (by omega)
      refine CK.mono (ct_10   (by unfold rg; decide) r_x3 (wr_rg _) (by omega)) (by decide) ?_
      rintro m68 v68 r_v68 ⟨e_m68, h_m68⟩
      replace e_m68 := e_m68.symm
      subst e_m68
      refine CK.mono (ey_5   g_m57.1 (lwOk_12 l37 hx_m57) (lsE_12 (lsE_T h_a p3 hx_m37) hx_m57)) (by decide) ?_
      rintro m72 v72 r_v72 ⟨hx_m72, h_m72⟩
      have g_m72 : GX (sT a) m m72 := gx_in g_m57 hx_m72 in_s15_sT
      obtain ⟨h_m72, q_m72⟩ := h_m72
      have o72 : okC m72 a := okC_fr o57 (fun i c hi => hx_m72.2.1 i c (nb_ne (by have := h_a.1; omega)))
      have c72 : rd m72 a 4 = rd m a 4 := g_m72.2.1 a 4 (sT_4 h_a)
      refine ⟨fun m_86 => GX (sT a) m m_86 ∧ ((okC m_86 a) ∧ (∀ Y E r, YS m a Y E r → YS m_86 a Y E (paN Y E x3 r x2))), ?_, ?_⟩
      · skip
        refine ⟨fun hq => ?_, fun hq => ?_⟩
        · skip
          exact ⟨g_m72, by exact ⟨by first | exact h_m83 | exact o72, by first | exact pv_s (pv_1 h_a p1 hb15 ha15 e_z4_9 h_m25 hq25 hx_m37 q_m37 h_m45 hq45) c37 h_a p1 hb15 q_m57 hx_m57 q_m72 hx_m72 h_m68.1 (Or.inl ⟨by omega, rfl⟩) (fun Y E r h => (can_C (YS_ti h_a h p1 (by omega) ((can_C h p1 (x3 := v15) (by omega)).mp (or_1 h_m25 hq25)) hx_m37 q_m37) (x2 := x2) (by omega) (x3 := v15) (by omega)).mp (or_1 h_m45 hq45)) | exact pv_s (pv_1 h_a p1 hb15 ha15 e_z4_9 h_m25 hq25 hx_m37 q_m37 h_m45 hq45) c37 h_a p1 hb15 q_m57 hx_m57 q_m72 hx_m72 h_m68.1 (Or.inr ⟨by omega, hx_m83, q_m83⟩) (fun Y E r h => (can_C (YS_ti h_a h p1 (by omega) ((can_C h p1 (x3 := v15) (by omega)).mp (or_1 h_m25 hq25)) hx_m37 q_m37) (x2 := x2) (by omega) (x3 := v15) (by omega)).mp (or_1 h_m45 hq45))⟩⟩
        · skip
          refine CV.mono (ey_7   g_m72.1 h_a r_x2 r_v15 o72 ⟨by omega, by omega⟩ (by omega) (lwOk_15 (lwOk_12 l37 hx_m57) hx_m72) (lsE_15 (lsE_12 (lsE_T h_a p3 hx_m37) hx_m57) hx_m72)) (by decide) ?_
          rintro m83 ⟨hx_m83, h_m83⟩
          have g_m83 : GX (sT a) m m83 := gx_in g_m72 hx_m83 (fun _ _ h => h)
          obtain ⟨h_m83, q_m83⟩ := h_m83
          exact ⟨g_m83, by exact ⟨by first | exact h_m83 | exact o72, by first | exact pv_s (pv_1 h_a p1 hb15 ha15 e_z4_9 h_m25 hq25 hx_m37 q_m37 h_m45 hq45) c37 h_a p1 hb15 q_m57 hx_m57 q_m72 hx_m72 h_m68.1 (Or.inl ⟨by omega, rfl⟩) (fun Y E r h => (can_C (YS_ti h_a h p1 (by omega) ((can_C h p1 (x3 := v15) (by omega)).mp (or_1 h_m25 hq25)) hx_m37 q_m37) (x2 := x2) (by omega) (x3 := v15) (by omega)).mp (or_1 h_m45 hq45)) | exact pv_s (pv_1 h_a p1 hb15 ha15 e_z4_9 h_m25 hq25 hx_m37 q_m37 h_m45 hq45) c37 h_a p1 hb15 q_m57 hx_m57 q_m72 hx_m72 h_m68.1 (Or.inr ⟨by omega, hx_m83, q_m83⟩) (fun Y E r h => (can_C (YS_ti h_a h p1 (by omega) ((can_C h p1 (x3 := v15) (by omega)).mp (or_1 h_m25 hq25)) hx_m37 q_m37) (x2 := x2) (by omega) (x3 := v15) (by omega)).mp (or_1 h_m45 hq45))⟩⟩
      · intro m_86  hR_86
        obtain ⟨g_m_86, hR_86⟩ := hR_86
        obtain ⟨hR_86, dR_86⟩ := hR_86
        exact ⟨g_m_86, by exact ⟨by first | exact hR_86 | exact h_m37 | exact p0, by first | exact dR_86 | exact pv_m h_a p1 hb15 ha15 e_z4_9 h_m25 hq25 hx_m37 q_m37 h_m45 (by omega) | exact pv_n h_a p1 hb15 ha15 e_z4_9 h_m25 (by omega)⟩⟩
    · skip
      exact ⟨g_m37, by exact ⟨by first | exact hR_86 | exact h_m37 | exact p0, by first | exact dR_86 | exact pv_m h_a p1 hb15 ha15 e_z4_9 h_m25 hq25 hx_m37 q_m37 h_m45 (by omega) | exact pv_n h_a p1 hb15 ha15 e_z4_9 h_m25 (by omega)⟩⟩
  · skip
    exact ⟨g_m, by exact ⟨by first | exact hR_86 | exact h_m37 | exact p0, by first | exact dR_86 | exact pv_m h_a p1 hb15 ha15 e_z4_9 h_m25 hq25 hx_m37 q_m37 h_m45 (by omega) | exact pv_n h_a p1 hb15 ha15 e_z4_9 h_m25 (by omega)⟩⟩
-- TippedCrates$Drays.passMinutes(LTippedCrates$State;II)V
set_option maxRecDepth 20000 in
theorem ey_8 {m : Mm} {a : Nat} {x2 : Int} {x3 : Int}  (T_m : Ty m) (h_a : isSt a) (r_x2 : rg x2) (r_x3 : rg x3) (p0 : okC m a) (p1 : lwOk m 11) (p2 : x2 ≤ 60) (p3 : ∃ E, LSd m 11 E) : CV 6 8 [.ref 30, .ref a, iv x2, iv x3] m (fun m2 => GX (sT a) m m2 ∧ ((okC m2 a ∧ lwOk m2 11) ∧ (∀ Y E r, YS m a Y E r → YS m2 a Y E (goN Y E x3 r (Int.toNat x2))))) := by
  refine br_8 h_a r_x2 r_x3 ?_
  unfold P_8
  have g_m : GX (sT a) m m := ⟨T_m, fun _ _ _ => rfl, fun _ _ => rfl⟩
  have t4 := ty_s4 T_m h_a
  refine ⟨fun x4_3 m_3 => GX (sT a) m m_3 ∧ (((0 ≤ x4_3 ∧ x4_3 ≤ 61) ∧ lwOk m_3 11 ∧ okC m_3 a) ∧ ((x4_3 ≤ x2 ∨ x4_3 = 0) ∧ ∀ Y E r, YS m a Y E r → YS m_3 a Y E (goN Y E x3 r (Int.toNat x4_3)))), fun x4_3 m_3 => Int.toNat (61 - x4_3), ?_, ?_⟩
  · exact ⟨g_m, by exact ⟨by exact ⟨by omega, p1, p0⟩, by exact ⟨Or.inr rfl, fun _ _ _ h => h⟩⟩⟩
  · intro x4_3 m_3 r_x4_3 hI_3
    obtain ⟨g_m_3, hI_3⟩ := hI_3
    obtain ⟨hI_3, dI_3⟩ := hI_3
    refine ⟨fun hq => ?_, fun hq => ?_⟩
    · skip
      exact ⟨g_m_3, by exact ⟨by exact ⟨hI_3.2.2, hI_3.2.1⟩, by exact fun Y E r h => by rw [show Int.toNat x2 = Int.toNat x4_3 by omega]; exact dI_3.2 Y E r h⟩⟩
    · skip
      refine ⟨fun x5_12 m_12 => GX (sT a) m m_12 ∧ (((0 ≤ x5_12 ∧ x5_12 ≤ 3) ∧ lwOk m_12 11 ∧ okC m_12 a) ∧ (x5_12 ≤ rd m a 4 ∧ ∀ Y E r, YS m a Y E r → YS m_12 a Y E (psN Y E x3 (goN Y E x3 r (Int.toNat x4_3)) (Int.toNat x5_12)))), fun x5_12 m_12 => Int.toNat (3 - x5_12), ?_, ?_⟩
      · exact ⟨g_m_3, by exact ⟨by exact ⟨by omega, hI_3.2⟩, by exact ⟨t4.1, fun Y E r h => dI_3.2 Y E r h⟩⟩⟩
      · intro x5_12 m_12 r_x5_12 hI_12
        obtain ⟨g_m_12, hI_12⟩ := hI_12
        obtain ⟨hI_12, dI_12⟩ := hI_12
        have n12 : rd m_12 a 4 = rd m a 4 := g_m_12.2.1 a 4 (sT_4 h_a)
        have t1 := ty_s4 g_m_12.1 h_a
        refine ⟨fun hq => ?_, fun hq => ?_⟩
        · skip
          try have w3 : wr ((rd m_12 a 5) + 1) = (rd m_12 a 5) + 1 := wr_id (by omega) (by omega)
          intro m42 e_m42
          have g_m42 : GX (sT a) m m42 := by rw [e_m42]; exact GX.wt g_m_12 (tw_s5 g_m_12.1 h_a (wr_rg _)) sT_5
          try have w4 : wr (x4_3 + 1) = x4_3 + 1 := wr_id (by omega) (by omega)
          intro z4_45 e_z4_45
          have r_z4_45 : rg z4_45 := by rw [e_z4_45]; exact wr_rg _
          have k42 : lwOk m42 11 := by rw [e_m42]; exact lwOk_fr hI_12.2.1 (by rw [rd_wt, if_neg (by have := h_a.1; omega)]) (fun j => by rw [rd_wt, if_neg (by have := h_a.1; omega)])
          have o42 : okC m42 a := by rw [e_m42]; exact okC_wt hI_12.2.2 (by omega) (by omega) (by omega)
          exact ⟨⟨g_m42, by exact ⟨by exact ⟨by omega, k42, o42⟩, by exact ⟨Or.inl (by omega), fun Y E r h => go_m (dI_12.2 Y E r h) h_a e_m42 (by omega) n12 (by omega)⟩⟩⟩, by (try dsimp only); omega⟩
        · skip
          refine CV.mono (ey_9   g_m_12.1 h_a r_x5_12 r_x3 hI_12.2.2 (by omega) hI_12.2.1 (lsE_T h_a p3 g_m_12)) (by decide) ?_
          rintro m26 ⟨hx_m26, h_m26⟩
          have g_m26 : GX (sT a) m m26 := gx_in g_m_12 hx_m26 (fun _ _ h => h)
          obtain ⟨h_m26, q_m26⟩ := h_m26
          try have w5 : wr (x5_12 + 1) = x5_12 + 1 := wr_id (by omega) (by omega)
          intro z5_29 e_z5_29
          have r_z5_29 : rg z5_29 := by rw [e_z5_29]; exact wr_rg _
          exact ⟨⟨g_m26, by exact ⟨by exact ⟨by omega, lwOk_sT hI_12.2.1 hx_m26 h_a, h_m26⟩, by exact ⟨by omega, fun Y E r h => go_c (dI_12.2 Y E r h) q_m26 (by omega)⟩⟩⟩, by (try dsimp only); omega⟩
