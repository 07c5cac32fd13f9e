/-- the yard of the model, its laws and ways to lie; its row -/
def tbM (m : Mm) : Prop := ∀ k : Int, 0 ≤ k → k ≤ 3 → rd m 319 (Int.toNat (6 * rd m 320 (Int.toNat (4 * 0 + k)) + 0)) = ct k ∧ rd m 319 (Int.toNat (6 * rd m 320 (Int.toNat (4 * 0 + k)) + 1)) = cb k
def plM (m : Mm) (Y : Ro) (E : Lw) : Prop := (rd m 293 (Int.toNat (rd m 284 18)) = Y 0 ∧ rd m 294 (Int.toNat (rd m 284 18)) = Y 1 ∧ rd m 284 59 = Y 2 ∧ rd m 302 (Int.toNat (rd m 284 18)) = Y 3 ∧ rd m 306 (Int.toNat (rd m 284 18)) = Y 4) ∧ LM m E ∧ tbM m
def stM (m : Mm) (r : Ro) : Prop := ∀ j : Nat, j < 51 → rd m 323 j = r j
def YM (m : Mm) (Y : Ro) (E : Lw) (r : Ro) : Prop := plM m Y E ∧ stM m r ∧ okY Y ∧ okR Y r
def plR (i j : Nat) : Prop := i = 293 ∨ i = 294 ∨ i = 302 ∨ i = 306 ∨ (307 ≤ i ∧ i ≤ 315) ∨ i = 319 ∨ i = 320 ∨ (i = 284 ∧ (j = 18 ∨ j = 59))
theorem plM_fr {m m2 : Mm} {Y : Ro} {E : Lw} (h : plM m Y E) (l : 0 ≤ rd m 284 18 ∧ rd m 284 18 ≤ 1) (f : ∀ i j : Nat, plR i j → rd m2 i j = rd m i j) : plM m2 Y E := by
  obtain ⟨⟨a, b, c, d, e⟩, L, T⟩ := h
  have e18 := f 284 18 (by unfold plR; omega)
  refine ⟨?_, LM_fr L e18 l (fun i j q => f i j (by unfold plR; omega)), fun k k0 k1 => ?_⟩
  · rw [e18, f 293 _ (by unfold plR; omega), f 294 _ (by unfold plR; omega), f 284 59 (by unfold plR; omega), f 302 _ (by unfold plR; omega), f 306 _ (by unfold plR; omega)]
    exact ⟨a, b, c, d, e⟩
  · rw [f 320 _ (by unfold plR; omega), f 319 _ (by unfold plR; omega), f 319 _ (by unfold plR; omega)]
    exact T k k0 k1
theorem sR_no {i j : Nat} (h : ¬ (i = 317 ∨ i = 318 ∨ i = 321 ∨ i = 323 ∨ (i = 284 ∧ j = 51))) : sR i j = false := by
  unfold sR
  rw [sV_no (by omega) (by omega) (by omega), nb_ne (by omega), nb_ne (by omega)]
  rfl
theorem plM_R {m m2 : Mm} {Y : Ro} {E : Lw} (h : plM m Y E) (l : 0 ≤ rd m 284 18 ∧ rd m 284 18 ≤ 1) (g : GX sR m m2) : plM m2 Y E := plM_fr h l (fun i j q => g.2.1 i j (sR_no (by unfold plR at q; omega)))
theorem vf_N {m : Mm} {Y r : Ro} {E : Lw} {c k : Int} (h : YM m Y E r) (hc : 0 ≤ c ∧ c < Y 3) (hk : 0 ≤ k ∧ k ≤ 3) : ∀ i : Int, 0 ≤ i → i ≤ 8 → vfI m c (rd m 323 (Int.toNat (43 + c))) 0 k i = vaN Y r c k i := by
  obtain ⟨⟨⟨p0, p1, p2, p3, p4⟩, L, T⟩, S, oY, oR⟩ := h
  have y3 := oY.2.2
  have o := oR c hc.1 hc.2
  have wb := wh_b oY.1 oY.2.1
  have nb := nx_b oY o hk
  have cbb := ct_b hk
  have t := T k hk.1 hk.2
  have e43 : rd m 323 (Int.toNat (43 + c)) = fC r c := S _ (by omega)
  intro i h0 h8
  unfold vfI vaN vaI
  rw [e43, p0, p1, t.1, t.2, S (Int.toNat (25 + 6 * c + ct k)) (by omega), S (Int.toNat (25 + 6 * c + cb k)) (by omega), S (Int.toNat (46 + c)) (by omega), S 49 (by omega)]
  have e2 : (if 0 ≤ fbyI (Y 0) (Y 1) (fC r c) k then rd m 323 (Int.toNat (fbyI (Y 0) (Y 1) (fC r c) k)) else 0) = (if nxN Y (fC r c) k = -1 then 0 else r (Int.toNat (nxN Y (fC r c) k))) := by
    show (if 0 ≤ nxN Y (fC r c) k then rd m 323 (Int.toNat (nxN Y (fC r c) k)) else 0) = _
    rcases nb with q | q
    · rw [if_neg (by omega), if_pos q]
    · rw [if_pos (by omega), if_neg (by omega), S _ (by omega)]
  rw [e2]
theorem can_M {m : Mm} {Y r : Ro} {E : Lw} {c k : Int} (h : YM m Y E r) (hc : 0 ≤ c ∧ c < Y 3) (hk : 0 ≤ k ∧ k ≤ 3) : cfM m c (rd m 323 (Int.toNat (43 + c))) k ↔ canN Y r c k := by
  obtain ⟨⟨⟨p0, p1, p2, p3, p4⟩, L, T⟩, S, oY, oR⟩ := h
  have y3 := oY.2.2
  have o := oR c hc.1 hc.2
  have wb := wh_b oY.1 oY.2.1
  have nb := nx_b oY o hk
  have e43 : rd m 323 (Int.toNat (43 + c)) = fC r c := S _ (by omega)
  have nbf : nxN Y (fC r c) k = -1 ∨ ¬ nxN Y (fC r c) k = fC r c := by omega
  unfold cfM tknM canN
  rw [e43, p0, p1, p2, p3]
  show ¬ nxN Y (fC r c) k < 0 ∧ ¬ anI (srI (Y 2) (nxN Y (fC r c) k)) 1 = 1 ∧ ¬ (∃ o : Int, 0 ≤ o ∧ o < Y 3 ∧ ¬ o = c ∧ rd m 323 (Int.toNat (43 + o)) = nxN Y (fC r c) k) ↔ _
  generalize nxN Y (fC r c) k = x at *
  constructor
  · rintro ⟨a1, a2, a3⟩
    refine ⟨by omega, a2, fun q => ?_, fun q => ?_, fun q => ?_⟩
    · by_cases z : c = 0
      · subst z
        have : fC r 0 = r 43 := rfl
        omega
      · exact a3 ⟨0, by omega, by omega, by omega, (S 43 (by omega)).trans q.2⟩
    · by_cases z : c = 1
      · subst z
        have : fC r 1 = r 44 := rfl
        omega
      · exact a3 ⟨1, by omega, by omega, by omega, (S 44 (by omega)).trans q.2⟩
    · by_cases z : c = 2
      · subst z
        have : fC r 2 = r 45 := rfl
        omega
      · exact a3 ⟨2, by omega, by omega, by omega, (S 45 (by omega)).trans q.2⟩
  · rintro ⟨a1, a2, a3, a4, a5⟩
    refine ⟨by omega, a2, ?_⟩
    rintro ⟨q, q0, q1, q2, q3⟩
    rw [S _ (by omega)] at q3
    have hq : q = 0 ∨ q = 1 ∨ q = 2 := by omega
    rcases hq with rfl | rfl | rfl
    · exact a3 ⟨by omega, q3⟩
    · exact a4 ⟨by omega, q3⟩
    · exact a5 ⟨by omega, q3⟩
theorem fa_1 {m m26 m58 : Mm} {c k x v : Int} (h : (∀ j : Int, 0 ≤ j → j < x → rd m26 321 (Int.toNat j) = rd m 323 (Int.toNat (25 + 6 * c + frm k j))) ∧ ∀ j : Nat, rd m26 323 j = rd m 323 j) (_hc : 0 ≤ c ∧ c ≤ 2) (hx : 0 ≤ x ∧ x ≤ 5) (_hk : 0 ≤ k ∧ k ≤ 3) (ev_ : v = frm k x) (_vb : 0 ≤ v ∧ v ≤ 5) (e : m58 = wt m26 321 (Int.toNat x) (rd m26 323 (Int.toNat (25 + 6 * c + v)))) : (∀ j : Int, 0 ≤ j → j < x + 1 → rd m58 321 (Int.toNat j) = rd m 323 (Int.toNat (25 + 6 * c + frm k j))) ∧ ∀ j : Nat, rd m58 323 j = rd m 323 j := by
  refine ⟨fun j j0 j1 => ?_, fun j => by rw [e, rd_wt, if_neg (by omega)]; exact h.2 j⟩
  by_cases q : j = x
  · subst q
    rw [e, rd_wt, if_pos ⟨rfl, rfl⟩, wr_i (rd_rg _ _ _), h.2, ev_]
  · rw [e, rd_wt, if_neg (by omega)]
    exact h.1 j j0 (by omega)
theorem fa_2 {m m68 m96 : Mm} {c k x : Int} (h : (∀ j : Int, 0 ≤ j → j < 6 → rd m68 321 (Int.toNat j) = rd m 323 (Int.toNat (25 + 6 * c + frm k j))) ∧ ∀ j : Nat, j < 51 → rd m68 323 j = if 25 + 6 * c ≤ (j : Int) ∧ (j : Int) < 25 + 6 * c + x then rd m 323 (Int.toNat (25 + 6 * c + frm k ((j : Int) - 25 - 6 * c))) else rd m 323 j) (hc : 0 ≤ c ∧ c ≤ 2) (hx : 0 ≤ x ∧ x ≤ 5) (e : m96 = wt m68 323 (Int.toNat (25 + 6 * c + x)) (rd m68 321 (Int.toNat x))) : (∀ j : Int, 0 ≤ j → j < 6 → rd m96 321 (Int.toNat j) = rd m 323 (Int.toNat (25 + 6 * c + frm k j))) ∧ ∀ j : Nat, j < 51 → rd m96 323 j = if 25 + 6 * c ≤ (j : Int) ∧ (j : Int) < 25 + 6 * c + (x + 1) then rd m 323 (Int.toNat (25 + 6 * c + frm k ((j : Int) - 25 - 6 * c))) else rd m 323 j := by
  refine ⟨fun j j0 j1 => by rw [e, rd_wt, if_neg (by omega)]; exact h.1 j j0 j1, fun j hj => ?_⟩
  by_cases q : (j : Int) = 25 + 6 * c + x
  · rw [if_pos (by omega), e, show j = Int.toNat (25 + 6 * c + x) by omega, rd_wt, if_pos ⟨rfl, rfl⟩, wr_i (rd_rg _ _ _), h.1 x hx.1 (by omega)]
    rw [show ((Int.toNat (25 + 6 * c + x) : Nat) : Int) - 25 - 6 * c = x by omega]
  · rw [e, rd_wt, if_neg (by omega), h.2 j hj]
    by_cases q2 : 25 + 6 * c ≤ (j : Int) ∧ (j : Int) < 25 + 6 * c + x
    · rw [if_pos q2, if_pos (by omega)]
    · rw [if_neg q2, if_neg (by omega)]
theorem YM_V {m m2 : Mm} {Y r : Ro} {E : Lw} (h : YM m Y E r) (l : 0 ≤ rd m 284 18 ∧ rd m 284 18 ≤ 1) (g : GX sV m m2) : YM m2 Y E r := ⟨plM_fr h.1 l (fun i j q => g.2.1 i j (sV_no (by unfold plR at q; omega) (by unfold plR at q; omega) (by unfold plR at q; omega))), fun j hj => (g.2.1 323 j rfl).trans (h.2.1 j hj), h.2.2⟩
theorem lw_M {m : Mm} {Y r : Ro} {E : Lw} {c k q : Int} (h : YM m Y E r) (hc : 0 ≤ c ∧ c < Y 3) (hk : 0 ≤ k ∧ k ≤ 3) (hq : 0 ≤ q ∧ q < 4) : lval (vfI m c (rd m 323 (Int.toNat (43 + c))) 0 k) (E q).1 (E q).2 = lwN Y E q r c k := by
  have w := (h.1.2.1 q hq.1 hq.2).1
  exact lval_cg (vf_N h hc hk) w.2 w.1
theorem ti_M {m m3 m10 m18 m68 m129 m142 m153 m205 : Mm} {Y r : Ro} {E : Lw} {c k v3 v10 v18 v114 : Int} (h : YM m Y E r) (hc : 0 ≤ c ∧ c < Y 3) (hk : 0 ≤ k ∧ k ≤ 3) (nz_ : ¬ nxN Y (fC r c) k = -1) (g3 : GX sV m m3) (q3 : ∀ E, LM m E → v3 = clI 99 (lval (vfI m c (rd m 323 (Int.toNat (43 + c))) 0 k) (E 2).1 (E 2).2)) (g10 : GX sV m3 m10) (q10 : ∀ E, LM m3 E → (v10 = 1 ∧ 0 < lval (vfI m3 c (rd m3 323 (Int.toNat (43 + c))) 0 k) (E 0).1 (E 0).2) ∨ (v10 = 0 ∧ ¬ 0 < lval (vfI m3 c (rd m3 323 (Int.toNat (43 + c))) 0 k) (E 0).1 (E 0).2)) (g18 : GX sV m10 m18) (q18 : ∀ E, LM m10 E → (v18 = 1 ∧ 0 < lval (vfI m10 c (rd m10 323 (Int.toNat (43 + c))) 0 k) (E 1).1 (E 1).2) ∨ (v18 = 0 ∧ ¬ 0 < lval (vfI m10 c (rd m10 323 (Int.toNat (43 + c))) 0 k) (E 1).1 (E 1).2))
    (h68 : ∀ j : Nat, j < 51 → rd m68 323 j = if 25 + 6 * c ≤ (j : Int) ∧ (j : Int) < 25 + 6 * c + 6 then rd m 323 (Int.toNat (25 + 6 * c + frm k ((j : Int) - 25 - 6 * c))) else rd m 323 j) (h114 : v114 = fbyI (rd m 293 (Int.toNat (rd m 284 18))) (rd m 294 (Int.toNat (rd m 284 18))) (rd m 323 (Int.toNat (43 + c))) k ∧ -1 ≤ v114 ∧ v114 ≤ 24) (e129 : m129 = wt m68 323 (Int.toNat (43 + c)) v114) (e142 : m142 = wt m129 323 (Int.toNat (46 + c)) (wr ((rd m129 323 (Int.toNat (46 + c))) + 1))) (e153 : m153 = wt m142 323 50 (wr ((rd m142 323 50) + v3)))
    (h205 : (v10 = 0 ∧ v18 = 0 ∧ m205 = m153) ∨ (v10 = 0 ∧ ¬ v18 = 0 ∧ m205 = wt m153 323 (Int.toNat (26 + 6 * c)) (rd m153 323 (Int.toNat v114))) ∨ (¬ v10 = 0 ∧ m205 = wt m153 323 (Int.toNat v114) (rd m153 323 (Int.toNat (26 + 6 * c))))) (l : 0 ≤ rd m 284 18 ∧ rd m 284 18 ≤ 1) (r114 : rg v114) : stM m205 (tiN Y E r c k) := by
  have y3 := h.2.2.1.2.2
  have l3 : 0 ≤ rd m3 284 18 ∧ rd m3 284 18 ≤ 1 := by rw [g3.2.1 284 18 rfl]; exact l
  have h3 := YM_V h l g3
  have h10 := YM_V h3 l3 g10
  have a3 := q3 E h.1.2.1
  rw [lw_M h hc hk (by decide)] at a3
  have a10 := q10 E h3.1.2.1
  rw [lw_M h3 hc hk (by decide)] at a10
  have a18 := q18 E h10.1.2.1
  rw [lw_M h10 hc hk (by decide)] at a18
  obtain ⟨⟨⟨p0, p1, p2, p3, p4⟩, L, T⟩, S, oY, oR⟩ := h
  have o := oR c hc.1 hc.2
  have wb := wh_b oY.1 oY.2.1
  have e43 : rd m 323 (Int.toNat (43 + c)) = fC r c := S _ (by omega)
  rw [e43, p0, p1] at h114
  have en : v114 = nxN Y (fC r c) k := h114.1
  have B : stM m153 (tiB Y E r c k) := fun j hj => by
    have fb : ∀ j : Nat, 25 + 6 * c ≤ (j : Int) ∧ (j : Int) < 31 + 6 * c → 0 ≤ frm k ((j : Int) - 25 - 6 * c) ∧ frm k ((j : Int) - 25 - 6 * c) ≤ 5 := fun j q => frm_b hk (by omega)
    have t68 : ∀ j : Nat, j < 51 → rd m68 323 j = trn r c k j := fun j hj => by
      rw [h68 j hj]
      unfold trn
      by_cases q : 25 + 6 * c ≤ (j : Int) ∧ (j : Int) < 31 + 6 * c
      · have f := fb j q
        rw [if_pos (by omega), if_pos q, S _ (by omega)]
      · rw [if_neg (by omega), if_neg q, S j hj]
    unfold tiB
    by_cases q50 : j = 50
    · subst q50
      rw [ro_eq, e153, rd_wt, if_pos ⟨rfl, rfl⟩, wr_i (wr_rg _), e142, rd_wt, if_neg (by omega), e129, rd_wt, if_neg (by omega), t68 50 (by omega), a3]
      unfold trn
      rw [if_neg (by omega)]
    · rw [ro_ne q50, e153, rd_wt, if_neg (by omega)]
      by_cases q46 : j = Int.toNat (46 + c)
      · subst q46
        rw [ro_eq, e142, rd_wt, if_pos ⟨rfl, rfl⟩, wr_i (wr_rg _), e129, rd_wt, if_neg (by omega), t68 _ hj]
        unfold trn
        rw [if_neg (by omega)]
      · rw [ro_ne q46, e142, rd_wt, if_neg (by omega)]
        by_cases q43 : j = Int.toNat (43 + c)
        · subst q43
          rw [ro_eq, e129, rd_wt, if_pos ⟨rfl, rfl⟩, wr_i r114, en]
        · rw [ro_ne q43, e129, rd_wt, if_neg (by omega)]
          exact t68 j hj
  unfold tiN
  rcases h205 with ⟨c1, c2, c3⟩ | ⟨c1, c2, c3⟩ | ⟨c1, c3⟩
  · rw [if_neg (by omega), if_neg (by omega), c3]; exact B
  · rw [if_neg (by omega), if_pos (by omega), c3]
    intro j hj
    by_cases q : j = Int.toNat (26 + 6 * c)
    · subst q
      rw [rd_wt, if_pos ⟨rfl, rfl⟩, wr_i (rd_rg _ _ _), ro_eq, B _ (by omega), en]
    · rw [rd_wt, if_neg (by omega), ro_ne q]; exact B j hj
  · rw [if_pos (by omega), c3]
    intro j hj
    by_cases q : j = Int.toNat v114
    · subst q
      rw [rd_wt, if_pos ⟨rfl, rfl⟩, wr_i (rd_rg _ _ _), ← en, ro_eq, B _ (by omega)]
    · rw [rd_wt, if_neg (by omega), ro_ne (by rw [← en]; exact q)]; exact B j hj
theorem YM_ti {m m2 : Mm} {Y r : Ro} {E : Lw} {c k : Int} (h : YM m Y E r) (hc : 0 ≤ c ∧ c < Y 3) (hk : 0 ≤ k ∧ k ≤ 3) (cn : canN Y r c k) (l : 0 ≤ rd m 284 18 ∧ rd m 284 18 ≤ 1) (g : GX sR m m2) (q : ∀ Y E r, YM m Y E r → c < Y 3 → ¬ nxN Y (fC r c) k = -1 → stM m2 (tiN Y E r c k)) : YM m2 Y E (tiN Y E r c k) := ⟨plM_R h.1 l g, q Y E r h hc.2 cn.1, h.2.2.1, okR_ti h.2.2.1 h.2.2.2 hc hk cn.1⟩
theorem ti_49 {Y r : Ro} {E : Lw} {c k : Int} (hc : 0 ≤ c ∧ c ≤ 2) (nb : nxN Y (fC r c) k ≤ 24) : tiN Y E r c k 49 = r 49 := by
  have B : tiB Y E r c k 49 = r 49 := by
    unfold tiB
    rw [ro_ne (by omega), ro_ne (by omega), ro_ne (by omega)]
    unfold trn
    rw [if_neg (by omega)]
  unfold tiN
  by_cases q : 0 < lwN Y E 0 r c k
  · rw [if_pos q, ro_ne (by omega)]; exact B
  · rw [if_neg q]
    by_cases q2 : 0 < lwN Y E 1 r c k
    · rw [if_pos q2, ro_ne (by omega)]; exact B
    · rw [if_neg q2]; exact B
theorem wr_add (a c : Int) : wr (wr (100000 + wr a) + c) = wr (100000 + wr (wr a + c)) := by unfold wr; omega
theorem mi_c {m2 m48 m73 m104 : Mm} {Y r : Ro} {E : Lw} {S c z v29 v36 v67 v73 s84 n : Int} (h : YM m2 Y E (psN Y E S r (Int.toNat c))) (ez : 0 ≤ c ∧ z = c + 1) (n58 : rd m2 284 58 = S) (n302 : rd m2 302 (Int.toNat (rd m2 284 18)) = n) (hb : 0 ≤ v29 ∧ v29 < 4) (e29 : v29 = lotI 4 (rd m2 284 58) (wr ((wr (8 * (rd m2 323 49))) + c))) (q36 : (v36 = 1 ∧ cfM m2 c (rd m2 323 (Int.toNat (43 + c))) v29) ∨ (v36 = 0 ∧ ¬ cfM m2 c (rd m2 323 (Int.toNat (43 + c))) v29)) (h48 : (v36 = 0 ∧ m48 = m2) ∨ (¬ v36 = 0 ∧ GX sR m2 m48 ∧ ∀ Y E r, YM m2 Y E r → c < Y 3 → ¬ nxN Y (fC r c) v29 = -1 → stM m48 (tiN Y E r c v29)))
    (_hb67 : 0 ≤ v67 ∧ v67 < 100) (e67 : v67 = lotI 100 (rd m48 284 58) (wr ((wr (100000 + (wr (8 * (rd m48 323 49))))) + c))) (g73 : GX sV m48 m73) (q73 : ∀ E, LM m48 E → v73 = clI 100 (lval (vfI m48 c (rd m48 323 (Int.toNat (43 + c))) 0 v29) (E 3).1 (E 3).2)) (h84 : (s84 = 0 ∧ v73 ≤ v67) ∨ (s84 = 1 ∧ ¬ v73 ≤ v67)) (h104 : (s84 = 0 ∧ m104 = m73) ∨ (¬ s84 = 0 ∧ ∃ v92 : Int, ((v92 = 1 ∧ cfM m73 c (rd m73 323 (Int.toNat (43 + c))) v29) ∨ (v92 = 0 ∧ ¬ cfM m73 c (rd m73 323 (Int.toNat (43 + c))) v29)) ∧ ((v92 = 0 ∧ m104 = m73) ∨ (¬ v92 = 0 ∧ GX sR m73 m104 ∧ ∀ Y E r, YM m73 Y E r → c < Y 3 → ¬ nxN Y (fC r c) v29 = -1 → stM m104 (tiN Y E r c v29))))) (lt : c < n) (l : 0 ≤ rd m2 284 18 ∧ rd m2 284 18 ≤ 1) : YM m104 Y E (psN Y E S r (Int.toNat z)) := by
  generalize hr : psN Y E S r (Int.toNat c) = r1 at h
  have y3 := h.2.2.1.2.2
  have n3 : Y 3 = n := by rw [← n302]; exact h.1.1.2.2.2.1.symm
  have e49 : rd m2 323 49 = r1 49 := h.2.1 49 (by omega)
  have wh : wr ((wr (8 * (rd m2 323 49))) + c) = whN r1 c := by rw [e49]; rfl
  have st : psN Y E S r (Int.toNat z) = paN Y E S r1 c := by
    rw [show Int.toNat z = Int.toNat c + 1 by omega]
    show paN Y E S (psN Y E S r (Int.toNat c)) ((Int.toNat c : Nat) : Int) = _
    rw [hr, show ((Int.toNat c : Nat) : Int) = c by omega]
  rw [n58, wh] at e29
  have cc := can_M h (c := c) ⟨ez.1, by omega⟩ (k := v29) (by omega)
  rw [st]
  unfold paN
  rw [← e29]
  rcases h48 with ⟨z36, e48⟩ | ⟨z36, g48, q48⟩
  · -- it can not be tipped: nothing happens
    subst e48
    have nc : ¬ canN Y r1 c v29 := by rw [← cc]; exact or_0 q36 z36
    rw [if_neg (by rw [canB_t]; exact nc)]
    have h73 := YM_V h l g73
    rcases h104 with ⟨-, e⟩ | ⟨-, v92, q92, e⟩
    · rw [e]; exact h73
    · have c2 := can_M h73 (c := c) ⟨ez.1, by omega⟩ (k := v29) (by omega)
      rcases e with ⟨-, e⟩ | ⟨e, -⟩
      · rw [e]; exact h73
      · exact absurd (c2.mp (or_1 q92 e)) nc
  · have cn : canN Y r1 c v29 := cc.mp (or_1 q36 z36)
    rw [if_pos (canB_t.mpr cn)]
    have o := h.2.2.2 c ez.1 (by omega)
    have wb := wh_b h.2.2.1.1 h.2.2.1.2.1
    have nb := nx_b h.2.2.1 o (k := v29) (by omega)
    have h48 := YM_ti h ⟨ez.1, by omega⟩ (by omega) cn l g48 q48
    have l48 : 0 ≤ rd m48 284 18 ∧ rd m48 284 18 ≤ 1 := by rw [g48.2.1 284 18 rfl]; exact l
    have h73 := YM_V h48 l48 g73
    have l73 : 0 ≤ rd m73 284 18 ∧ rd m73 284 18 ≤ 1 := by rw [g73.2.1 284 18 rfl]; exact l48
    have e49b : rd m48 323 49 = r1 49 := (h48.2.1 49 (by omega)).trans (ti_49 (by omega) (by omega))
    have e58 : rd m48 284 58 = S := (g48.2.1 284 58 rfl).trans n58
    rw [e58, e49b, wr_add] at e67
    have w2 : wr (wr (8 * r1 49) + c) = whN r1 c := rfl
    rw [w2] at e67
    have a73 := q73 E h48.1.2.1
    rw [lw_M h48 ⟨ez.1, by omega⟩ (by omega) (by decide)] at a73
    have c2 := can_M h73 (c := c) ⟨ez.1, by omega⟩ (k := v29) (by omega)
    by_cases b2 : canN Y (tiN Y E r1 c v29) c v29
    · rw [if_pos (canB_t.mpr b2)]
      unfold slN
      rw [← e67, ← a73]
      rcases h104 with ⟨s, e⟩ | ⟨s, v92, q92, e⟩
      · rw [if_neg (by omega), e]; exact h73
      · rw [if_pos (by omega)]
        rcases e with ⟨v0, e⟩ | ⟨v0, g, q⟩
        · exact absurd (c2.mpr b2) (or_0 q92 v0)
        · exact YM_ti h73 ⟨ez.1, by omega⟩ (by omega) b2 l73 g q
    · rw [if_neg (by rw [canB_t]; exact b2)]
      rcases h104 with ⟨s, e⟩ | ⟨s, v92, q92, e⟩
      · rw [e]; exact h73
      · rcases e with ⟨v0, e⟩ | ⟨v0, -⟩
        · rw [e]; exact h73
        · exact absurd (c2.mp (or_1 q92 v0)) b2
theorem mi_e {m2 m120 : Mm} {Y r : Ro} {E : Lw} {S c n : Int} (h : YM m2 Y E (psN Y E S r (Int.toNat c))) (e : m120 = wt m2 323 49 (wr ((rd m2 323 49) + 1))) (ec : c = n) (n302 : rd m2 302 (Int.toNat (rd m2 284 18)) = n) (l : 0 ≤ rd m2 284 18 ∧ rd m2 284 18 ≤ 1) : YM m120 Y E (miN Y E S r) := by
  have n3 : Y 3 = n := by rw [← n302]; exact h.1.1.2.2.2.1.symm
  rw [ec, ← n3] at h
  obtain ⟨P, S1, oY, oR⟩ := h
  refine ⟨plM_fr P l (fun i j q => by rw [e, rd_wt, if_neg (by unfold plR at q; omega)]), fun j hj => ?_, oY, fun d d0 d1 => ?_⟩
  · by_cases q : j = 49
    · subst q
      rw [e, rd_wt, if_pos ⟨rfl, rfl⟩, wr_i (wr_rg _), S1 49 (by omega)]
      show _ = ro_u _ 49 _ 49
      rw [ro_eq]
    · rw [e, rd_wt, if_neg (by omega)]
      show _ = ro_u _ 49 _ j
      rw [ro_ne q]; exact S1 j hj
  · have y3 := oY.2.2
    show 0 ≤ ro_u _ 49 _ (Int.toNat (43 + d)) ∧ ro_u _ 49 _ (Int.toNat (43 + d)) < _
    rw [ro_ne (by omega)]
    exact oR d d0 d1
-- TippedCratesModel.tips(II)V
set_option maxRecDepth 20000 in
theorem mz_233 {m : Mm} {x1 : Int} {x2 : Int}  (T_m : Ty m) (r_x1 : rg x1) (r_x2 : rg x2) (p0 : MW m) (p1 : lawsM m) (p2 : 0 ≤ x1 ∧ x1 ≤ 2) (p3 : 0 ≤ x2 ∧ x2 ≤ 3) (p4 : 0 ≤ fbyI (rd m 293 (Int.toNat (rd m 284 18))) (rd m 294 (Int.toNat (rd m 284 18))) (rd m 323 (Int.toNat (43 + x1))) x2) : CV 6 233 [.ref 284, iv x1, iv x2] m (fun m2 => GX sR m m2 ∧ ((True) ∧ (∀ Y E r, YM m Y E r → x1 < Y 3 → ¬ nxN Y (fC r x1) x2 = -1 → stM m2 (tiN Y E r x1 x2)))) := by
  refine br_233 r_x1 r_x2 ?_
  unfold P_233
  have g_m : GX sR m m := ⟨T_m, fun _ _ _ => rfl, fun _ _ => rfl⟩
  refine CK.mono (mz_229   T_m r_x1 r_x2 p0 p1 (by omega) (by omega)) (by decide) ?_
  rintro m3 v3 r_v3 ⟨hx_m3, h_m3⟩
  have g_m3 : GX sR m m3 := gx_in g_m hx_m3 in_sV_sR
  obtain ⟨h_m3, q_m3⟩ := h_m3
  have e43 : Int.toNat (wr (43 + x1)) = Int.toNat (43 + x1) := by rw [wr_id (x := 43 + x1) (by omega) (by omega)]
  have k3 : rd m3 323 (Int.toNat (43 + x1)) = rd m 323 (Int.toNat (43 + x1)) := hx_m3.2.1 323 _ rfl
  refine CK.mono (mz_230   g_m3.1 r_x1 r_x2 (MW_R p0 g_m3) (laws_R p1 g_m3) (by omega) (by omega)) (by decide) ?_
  rintro m10 v10 r_v10 ⟨hx_m10, h_m10⟩
  have g_m10 : GX sR m m10 := gx_in g_m3 hx_m10 in_sV_sR
  obtain ⟨h_m10, q_m10⟩ := h_m10
  have k10 : rd m10 323 (Int.toNat (43 + x1)) = rd m 323 (Int.toNat (43 + x1)) := (hx_m10.2.1 323 _ rfl).trans k3
  refine CK.mono (mz_231   g_m10.1 r_x1 r_x2 (MW_R p0 g_m10) (laws_R p1 g_m10) (by omega) (by omega)) (by decide) ?_
  rintro m18 v18 r_v18 ⟨hx_m18, h_m18⟩
  have g_m18 : GX sR m m18 := gx_in g_m10 hx_m18 in_sV_sR
  obtain ⟨h_m18, q_m18⟩ := h_m18
  have k18 : rd m18 323 (Int.toNat (43 + x1)) = rd m 323 (Int.toNat (43 + x1)) := (hx_m18.2.1 323 _ rfl).trans k10
  refine ⟨fun x6_26 m_26 => GX sR m m_26 ∧ (((0 ≤ x6_26 ∧ x6_26 ≤ 6) ∧ rd m_26 323 (Int.toNat (43 + x1)) = rd m 323 (Int.toNat (43 + x1))) ∧ ((∀ k : Int, 0 ≤ k → k < x6_26 → rd m_26 321 (Int.toNat k) = rd m 323 (Int.toNat (25 + 6 * x1 + frm x2 k))) ∧ ∀ j : Nat, rd m_26 323 j = rd m 323 j)), fun x6_26 m_26 => Int.toNat (6 - x6_26), ?_, ?_⟩
  · exact ⟨g_m18, by exact ⟨by exact ⟨by omega, k18⟩, by exact ⟨fun k k0 k1 => by omega, fun j => (hx_m18.2.1 323 j rfl).trans ((hx_m10.2.1 323 j rfl).trans (hx_m3.2.1 323 j rfl))⟩⟩⟩
  · intro x6_26 m_26 r_x6_26 hI_26
    obtain ⟨g_m_26, hI_26⟩ := hI_26
    obtain ⟨hI_26, dI_26⟩ := hI_26
    refine ⟨fun hq => ?_, fun hq => ?_⟩
    · skip
      refine ⟨fun x6_68 m_68 => GX sR m m_68 ∧ (((0 ≤ x6_68 ∧ x6_68 ≤ 6) ∧ rd m_68 323 (Int.toNat (43 + x1)) = rd m 323 (Int.toNat (43 + x1))) ∧ ((∀ k : Int, 0 ≤ k → k < 6 → rd m_68 321 (Int.toNat k) = rd m 323 (Int.toNat (25 + 6 * x1 + frm x2 k))) ∧ (∀ j : Nat, j < 51 → rd m_68 323 j = if 25 + 6 * x1 ≤ (j : Int) ∧ (j : Int) < 25 + 6 * x1 + x6_68 then rd m 323 (Int.toNat (25 + 6 * x1 + frm x2 ((j : Int) - 25 - 6 * x1))) else rd m 323 j))), fun x6_68 m_68 => Int.toNat (6 - x6_68), ?_, ?_⟩
      · exact ⟨g_m_26, by exact ⟨by exact ⟨by omega, hI_26.2⟩, by exact ⟨fun k k0 k1 => dI_26.1 k k0 (by omega), fun j hj => by rw [if_neg (by omega)]; exact dI_26.2 j⟩⟩⟩
      · intro x6_68 m_68 r_x6_68 hI_68
        obtain ⟨g_m_68, hI_68⟩ := hI_68
        obtain ⟨hI_68, dI_68⟩ := hI_68
        refine ⟨fun hq => ?_, fun hq => ?_⟩
        · skip
          try have w1 : wr (43 + x1) = 43 + x1 := wr_id (by omega) (by omega)
          refine ⟨⟨by omega, by omega⟩, ?_⟩
          have t2 := tr_323 g_m_68.1 (Int.toNat (wr (43 + x1)))
          refine CK.mono (ct_221   g_m_68.1 (rd_rg _ _ _) r_x2 (MW_R p0 g_m_68) (by omega) (by omega)) (by decide) ?_
          rintro m114 v114 r_v114 ⟨e_m114, h_m114⟩
          replace e_m114 := e_m114.symm
          subst e_m114
          rw [show rd m_68 323 (Int.toNat (wr (43 + x1))) = rd m 323 (Int.toNat (43 + x1)) from (congrArg (rd m_68 323) (by omega)).trans hI_68.2, g_m_68.2.1 284 18 rfl, g_m_68.2.1 293 _ rfl, g_m_68.2.1 294 _ rfl] at h_m114
          refine ⟨⟨by omega, by omega⟩, ?_⟩
          intro m129 e_m129
          have g_m129 : GX sR m m129 := by rw [e_m129]; exact GX.wt g_m_68 (tz_323 g_m_68.1 (by first | assumption | omega) (by omega) (by omega)) (Eq.refl true)
          try have w3 : wr (46 + x1) = 46 + x1 := wr_id (by omega) (by omega)
          refine ⟨⟨by omega, by omega⟩, ?_⟩
          refine ⟨⟨by omega, by omega⟩, ?_⟩
          have t4 := tr_323 g_m129.1 (Int.toNat (wr (46 + x1)))
          try have w5 : wr ((rd m129 323 (Int.toNat (wr (46 + x1)))) + 1) = (rd m129 323 (Int.toNat (wr (46 + x1)))) + 1 := wr_id (by omega) (by omega)
          intro m142 e_m142
          have g_m142 : GX sR m m142 := by rw [e_m142]; exact GX.wt g_m129 (tz_323 g_m129.1 (wr_rg _) (by omega) (by omega)) (Eq.refl true)
          have t6 := tr_323 g_m142.1 50
          try have w7 : wr ((rd m142 323 50) + v3) = (rd m142 323 50) + v3 := wr_id (by omega) (by omega)
          intro m153 e_m153
          have g_m153 : GX sR m m153 := by rw [e_m153]; exact GX.wt g_m142 (tz_323 g_m142.1 (wr_rg _) (by omega) (by omega)) (Eq.refl true)
          refine ⟨fun m_205 => GX sR m m_205 ∧ ((True) ∧ ((v10 = 0 ∧ v18 = 0 ∧ m_205 = m153) ∨ (v10 = 0 ∧ ¬ v18 = 0 ∧ m_205 = wt m153 323 (Int.toNat (wr (26 + (wr (6 * x1))))) (rd m153 323 (Int.toNat v114))) ∨ (¬ v10 = 0 ∧ m_205 = wt m153 323 (Int.toNat v114) (rd m153 323 (Int.toNat (wr (26 + (wr (6 * x1))))))))), ?_, ?_⟩
          · skip
            refine ⟨fun hq => ?_, fun hq => ?_⟩
            · skip
              refine ⟨fun hq => ?_, fun hq => ?_⟩
              · skip
                exact ⟨g_m153, by exact ⟨by first | trivial | omega | (refine ⟨?_, ?_⟩ <;> omega), by first | exact Or.inl ⟨by omega, by omega, rfl⟩ | exact Or.inr (Or.inl ⟨by omega, by omega, e_m204⟩) | exact Or.inr (Or.inr ⟨by omega, e_m177⟩)⟩⟩
              · skip
                refine ⟨⟨by omega, by omega⟩, ?_⟩
                try have w8 : wr (6 * x1) = 6 * x1 := wr_id (by omega) (by omega)
                try have w9 : wr (26 + (wr (6 * x1))) = 26 + (wr (6 * x1)) := wr_id (by omega) (by omega)
                refine ⟨⟨by omega, by omega⟩, ?_⟩
                have t10 := tr_323 g_m153.1 (Int.toNat v114)
                intro m204 e_m204
                have g_m204 : GX sR m m204 := by rw [e_m204]; exact GX.wt g_m153 (tz_323 g_m153.1 (rd_rg _ _ _) (by omega) (by omega)) (Eq.refl true)
                exact ⟨g_m204, by exact ⟨by first | trivial | omega | (refine ⟨?_, ?_⟩ <;> omega), by first | exact Or.inl ⟨by omega, by omega, rfl⟩ | exact Or.inr (Or.inl ⟨by omega, by omega, e_m204⟩) | exact Or.inr (Or.inr ⟨by omega, e_m177⟩)⟩⟩
            · skip
              try have w11 : wr (6 * x1) = 6 * x1 := wr_id (by omega) (by omega)
              try have w12 : wr (26 + (wr (6 * x1))) = 26 + (wr (6 * x1)) := wr_id (by omega) (by omega)
              refine ⟨⟨by omega, by omega⟩, ?_⟩
              refine ⟨⟨by omega, by omega⟩, ?_⟩
              have t13 := tr_323 g_m153.1 (Int.toNat (wr (26 + (wr (6 * x1)))))
              intro m177 e_m177
              have g_m177 : GX sR m m177 := by rw [e_m177]; exact GX.wt g_m153 (tz_323 g_m153.1 (rd_rg _ _ _) (fun _ => (tr_323 g_m153.1 _).1 (by rw [Nat.mod_eq_of_lt (by omega)]; omega)) (fun h1 h2 => by omega)) (Eq.refl true)
              exact ⟨g_m177, by exact ⟨by first | trivial | omega | (refine ⟨?_, ?_⟩ <;> omega), by first | exact Or.inl ⟨by omega, by omega, rfl⟩ | exact Or.inr (Or.inl ⟨by omega, by omega, e_m204⟩) | exact Or.inr (Or.inr ⟨by omega, e_m177⟩)⟩⟩
          · intro m_205  hR_205
            obtain ⟨g_m_205, hR_205⟩ := hR_205
            obtain ⟨hR_205, dR_205⟩ := hR_205
            exact ⟨g_m_205, by exact ⟨by first | trivial | omega | (refine ⟨?_, ?_⟩ <;> omega), by exact fun Y E r h hx nz_ => ti_M (m68 := m_68) (m129 := m129) (m142 := m142) (m153 := m153) (m205 := m_205) h ⟨p2.1, hx⟩ p3 nz_ hx_m3 q_m3 hx_m10 q_m10 hx_m18 q_m18 (by rw [show x6_68 = 6 by omega] at dI_68; exact dI_68.2) h_m114 (by rw [e43] at e_m129; exact e_m129) (by rw [show Int.toNat (wr (46 + x1)) = Int.toNat (46 + x1) by rw [wr_id (x := 46 + x1) (by omega) (by omega)]] at e_m142; exact e_m142) e_m153 (by rw [show Int.toNat (wr (26 + (wr (6 * x1)))) = Int.toNat (26 + 6 * x1) by rw [wr_id (x := 6 * x1) (by omega) (by omega), wr_id (x := 26 + 6 * x1) (by omega) (by omega)]] at dR_205; exact dR_205) (ty_284_18 T_m) r_v114⟩⟩
        · skip
          refine ⟨⟨by omega, by omega⟩, ?_⟩
          try have w14 : wr (6 * x1) = 6 * x1 := wr_id (by omega) (by omega)
          try have w15 : wr (25 + (wr (6 * x1))) = 25 + (wr (6 * x1)) := wr_id (by omega) (by omega)
          try have w16 : wr ((wr (25 + (wr (6 * x1)))) + x6_68) = (wr (25 + (wr (6 * x1)))) + x6_68 := wr_id (by omega) (by omega)
          refine ⟨⟨by omega, by omega⟩, ?_⟩
          have t17 := ty_321 g_m_68.1 (Int.toNat x6_68)
          intro m96 e_m96
          have g_m96 : GX sR m m96 := by rw [e_m96]; exact GX.wt g_m_68 (tz_323 g_m_68.1 (rd_rg _ _ _) (by omega) (by omega)) (Eq.refl true)
          have k96 : rd m96 323 (Int.toNat (43 + x1)) = rd m 323 (Int.toNat (43 + x1)) := by rw [e_m96, rd_wt, if_neg (by omega)]; exact hI_68.2
          have d96 := fa_2 (m96 := m96) (c := x1) (k := x2) dI_68 (by omega) (by omega) (by rw [e_m96, show Int.toNat (wr ((wr (25 + (wr (6 * x1)))) + x6_68)) = Int.toNat (25 + 6 * x1 + x6_68) by rw [wr_id (x := 6 * x1) (by omega) (by omega), wr_id (x := 25 + 6 * x1) (by omega) (by omega), wr_id (by omega) (by omega)]])
          try have w18 : wr (x6_68 + 1) = x6_68 + 1 := wr_id (by omega) (by omega)
          intro z6_97 e_z6_97
          have r_z6_97 : rg z6_97 := by rw [e_z6_97]; exact wr_rg _
          exact ⟨⟨g_m96, by exact ⟨by exact ⟨by omega, k96⟩, by exact (by rw [show z6_97 = x6_68 + 1 by omega]; exact d96)⟩⟩, by (try dsimp only); omega⟩
    · skip
      refine CK.mono (mz_202   r_x2 r_x6_26 (by omega) (by omega)) (by decide) ?_
      rintro m53 v53 r_v53 ⟨e_m53, h_m53⟩
      replace e_m53 := e_m53.symm
      subst e_m53
      obtain ⟨h_m53, q_m53⟩ := h_m53
      try have w19 : wr (6 * x1) = 6 * x1 := wr_id (by omega) (by omega)
      try have w20 : wr (25 + (wr (6 * x1))) = 25 + (wr (6 * x1)) := wr_id (by omega) (by omega)
      try have w21 : wr ((wr (25 + (wr (6 * x1)))) + v53) = (wr (25 + (wr (6 * x1)))) + v53 := wr_id (by omega) (by omega)
      refine ⟨⟨by omega, by omega⟩, ?_⟩
      refine ⟨⟨by omega, by omega⟩, ?_⟩
      have t22 := tr_323 g_m_26.1 (Int.toNat (wr ((wr (25 + (wr (6 * x1)))) + v53)))
      intro m58 e_m58
      have g_m58 : GX sR m m58 := by rw [e_m58]; exact GX.wt g_m_26 (tw_321 g_m_26.1 ⟨by omega, by omega⟩) (Eq.refl true)
      have k58 : rd m58 323 (Int.toNat (43 + x1)) = rd m 323 (Int.toNat (43 + x1)) := by rw [e_m58, rd_wt, if_neg (by omega)]; exact hI_26.2
      have d58 := fa_1 (m58 := m58) (c := x1) (k := x2) dI_26 (by omega) (by omega) (by omega) q_m53 h_m53 (by rw [e_m58, show Int.toNat (wr ((wr (25 + (wr (6 * x1)))) + v53)) = Int.toNat (25 + 6 * x1 + v53) by rw [wr_id (x := 6 * x1) (by omega) (by omega), wr_id (x := 25 + 6 * x1) (by omega) (by omega), wr_id (by omega) (by omega)]])
      try have w23 : wr (x6_26 + 1) = x6_26 + 1 := wr_id (by omega) (by omega)
      intro z6_59 e_z6_59
      have r_z6_59 : rg z6_59 := by rw [e_z6_59]; exact wr_rg _
      exact ⟨⟨g_m58, by exact ⟨by exact ⟨by omega, k58⟩, by exact (by rw [show z6_59 = x6_26 + 1 by omega]; exact d58)⟩⟩, by (try dsimp only); omega⟩
-- TippedCratesModel.minuteGoes()V
set_option maxRecDepth 20000 in
theorem mz_234 {m : Mm}   (T_m : Ty m)  (p0 : MW m) (p1 : lawsM m) : CV 7 234 [.ref 284] m (fun m2 => GX sR m m2 ∧ ((True) ∧ (∀ Y E r, YM m Y E r → YM m2 Y E (miN Y E (rd m 284 58) r)))) := by
  refine br_234  ?_
  unfold P_234
  have g_m : GX sR m m := ⟨T_m, fun _ _ _ => rfl, fun _ _ => rfl⟩
  have tc := ty_302 T_m (Int.toNat (rd m 284 18))
  refine ⟨fun x1_2 m_2 => GX sR m m_2 ∧ ((0 ≤ x1_2 ∧ x1_2 ≤ 3) ∧ (x1_2 ≤ rd m 302 (Int.toNat (rd m 284 18)) ∧ ∀ Y E r, YM m Y E r → YM m_2 Y E (psN Y E (rd m 284 58) r (Int.toNat x1_2)))), fun x1_2 m_2 => Int.toNat (3 - x1_2), ?_, ?_⟩
  · exact ⟨g_m, by exact ⟨by first | omega | (refine ⟨?_, ?_⟩ <;> omega) | trivial, by exact ⟨tc.1, fun _ _ _ h => h⟩⟩⟩
  · intro x1_2 m_2 r_x1_2 hI_2
    obtain ⟨g_m_2, hI_2⟩ := hI_2
    obtain ⟨hI_2, dI_2⟩ := hI_2
    have n18 : rd m_2 284 18 = rd m 284 18 := g_m_2.2.1 284 18 rfl
    have n302 : rd m_2 302 (Int.toNat (rd m_2 284 18)) = rd m 302 (Int.toNat (rd m 284 18)) := by rw [n18]; exact g_m_2.2.1 302 _ rfl
    have n58 : rd m_2 284 58 = rd m 284 58 := g_m_2.2.1 284 58 rfl
    have t1 := ty_284_18 g_m_2.1
    refine ⟨⟨by omega, by omega⟩, ?_⟩
    have t2 := ty_302 g_m_2.1 (Int.toNat (rd m_2 284 18))
    refine ⟨fun hq => ?_, fun hq => ?_⟩
    · skip
      have t3 := tr_323 g_m_2.1 49
      try have w4 : wr ((rd m_2 323 49) + 1) = (rd m_2 323 49) + 1 := wr_id (by omega) (by omega)
      intro m120 e_m120
      have g_m120 : GX sR m m120 := by rw [e_m120]; exact GX.wt g_m_2 (tz_323 g_m_2.1 (wr_rg _) (by omega) (by omega)) (Eq.refl true)
      exact ⟨g_m120, by exact ⟨by first | trivial | omega | (refine ⟨?_, ?_⟩ <;> omega), by exact fun Y E r h => mi_e (dI_2.2 Y E r h) e_m120 (by omega) n302 (ty_284_18 g_m_2.1)⟩⟩
    · skip
      have t5 := tr_323 g_m_2.1 49
      try have w6 : wr (8 * (rd m_2 323 49)) = 8 * (rd m_2 323 49) := wr_id (by omega) (by omega)
      try have w7 : wr ((wr (8 * (rd m_2 323 49))) + x1_2) = (wr (8 * (rd m_2 323 49))) + x1_2 := wr_id (by omega) (by omega)
      refine CK.mono (ct_218   g_m_2.1 (wr_rg _) (by unfold rg; decide) (by omega)) (by decide) ?_
      rintro m29 v29 r_v29 ⟨e_m29, h_m29⟩
      replace e_m29 := e_m29.symm
      subst e_m29
      obtain ⟨ha29, hb29⟩ := h_m29
      refine CK.mono (mz_224   g_m_2.1 r_x1_2 r_v29 (MW_R p0 g_m_2) (by omega) (by omega)) (by decide) ?_
      rintro m36 v36 r_v36 ⟨e_m36, h_m36⟩
      replace e_m36 := e_m36.symm
      subst e_m36
      obtain ⟨h_m36, q_m36⟩ := h_m36
      refine ⟨fun m_48 => GX sR m m_48 ∧ ((True) ∧ ((v36 = 0 ∧ m_48 = m_2) ∨ (¬ v36 = 0 ∧ GX sR m_2 m_48 ∧ ∀ Y E r, YM m_2 Y E r → x1_2 < Y 3 → ¬ nxN Y (fC r x1_2) v29 = -1 → stM m_48 (tiN Y E r x1_2 v29)))), ?_, ?_⟩
      · skip
        refine ⟨fun hq => ?_, fun hq => ?_⟩
        · skip
          exact ⟨g_m_2, by exact ⟨by first | trivial | omega | (refine ⟨?_, ?_⟩ <;> omega), by first | exact Or.inl ⟨by omega, rfl⟩ | exact Or.inr ⟨by omega, hx_m45, q_m45⟩⟩⟩
        · skip
          refine CV.mono (mz_233   g_m_2.1 r_x1_2 r_v29 (MW_R p0 g_m_2) (laws_R p1 g_m_2) (by omega) (by omega) (h_m36.2 (by omega))) (by decide) ?_
          rintro m45 ⟨hx_m45, h_m45⟩
          have g_m45 : GX sR m m45 := gx_in g_m_2 hx_m45 (fun _ _ h => h)
          obtain ⟨h_m45, q_m45⟩ := h_m45
          exact ⟨g_m45, by exact ⟨by first | trivial | omega | (refine ⟨?_, ?_⟩ <;> omega), by first | exact Or.inl ⟨by omega, rfl⟩ | exact Or.inr ⟨by omega, hx_m45, q_m45⟩⟩⟩
      · intro m_48  hR_48
        obtain ⟨g_m_48, hR_48⟩ := hR_48
        obtain ⟨hR_48, dR_48⟩ := hR_48
        have t8 := tr_323 g_m_48.1 49
        try have w9 : wr (8 * (rd m_48 323 49)) = 8 * (rd m_48 323 49) := wr_id (by omega) (by omega)
        try have w10 : wr (100000 + (wr (8 * (rd m_48 323 49)))) = 100000 + (wr (8 * (rd m_48 323 49))) := wr_id (by omega) (by omega)
        try have w11 : wr ((wr (100000 + (wr (8 * (rd m_48 323 49))))) + x1_2) = (wr (100000 + (wr (8 * (rd m_48 323 49))))) + x1_2 := wr_id (by omega) (by omega)
        refine CK.mono (ct_218   g_m_48.1 (wr_rg _) (by unfold rg; decide) (by omega)) (by decide) ?_
        rintro m67 v67 r_v67 ⟨e_m67, h_m67⟩
        replace e_m67 := e_m67.symm
        subst e_m67
        obtain ⟨ha67, hb67⟩ := h_m67
        refine CK.mono (mz_232   g_m_48.1 r_x1_2 r_v29 (MW_R p0 g_m_48) (laws_R p1 g_m_48) (by omega) (by omega)) (by decide) ?_
        rintro m73 v73 r_v73 ⟨hx_m73, h_m73⟩
        have g_m73 : GX sR m m73 := gx_in g_m_48 hx_m73 in_sV_sR
        obtain ⟨h_m73, q_m73⟩ := h_m73
        refine ⟨fun s0_84 => (True) ∧ ((s0_84 = 0 ∧ v73 ≤ v67) ∨ (s0_84 = 1 ∧ ¬ v73 ≤ v67)), ?_, ?_⟩
        · skip
          refine ⟨fun hq => ?_, fun hq => ?_⟩
          · skip
            (exact ⟨by first | trivial | omega | (refine ⟨?_, ?_⟩ <;> omega), by first | exact Or.inl ⟨rfl, hq⟩ | exact Or.inr ⟨rfl, hq⟩⟩)
          · skip
            (exact ⟨by first | trivial | omega | (refine ⟨?_, ?_⟩ <;> omega), by first | exact Or.inl ⟨rfl, hq⟩ | exact Or.inr ⟨rfl, hq⟩⟩)
        · intro s0_84 r_s0_84 hR_84
          obtain ⟨hR_84, dR_84⟩ := hR_84
          refine ⟨fun m_104 => GX sR m m_104 ∧ ((True) ∧ ((s0_84 = 0 ∧ m_104 = m73) ∨ (¬ s0_84 = 0 ∧ ∃ v92 : Int, ((v92 = 1 ∧ cfM m73 x1_2 (rd m73 323 (Int.toNat (43 + x1_2))) v29) ∨ (v92 = 0 ∧ ¬ cfM m73 x1_2 (rd m73 323 (Int.toNat (43 + x1_2))) v29)) ∧ ((v92 = 0 ∧ m_104 = m73) ∨ (¬ v92 = 0 ∧ GX sR m73 m_104 ∧ ∀ Y E r, YM m73 Y E r → x1_2 < Y 3 → ¬ nxN Y (fC r x1_2) v29 = -1 → stM m_104 (tiN Y E r x1_2 v29)))))), ?_, ?_⟩
          · skip
            refine ⟨fun hq => ?_, fun hq => ?_⟩
            · skip
              exact ⟨g_m73, by exact ⟨by first | trivial | omega | (refine ⟨?_, ?_⟩ <;> omega), by first | exact Or.inl ⟨by omega, rfl⟩ | exact Or.inr ⟨by omega, v92, q_m92, Or.inl ⟨by omega, rfl⟩⟩ | exact Or.inr ⟨by omega, v92, q_m92, Or.inr ⟨by omega, hx_m101, q_m101⟩⟩⟩⟩
            · skip
              refine CK.mono (mz_224   g_m73.1 r_x1_2 r_v29 (MW_R p0 g_m73) (by omega) (by omega)) (by decide) ?_
              rintro m92 v92 r_v92 ⟨e_m92, h_m92⟩
              replace e_m92 := e_m92.symm
              subst e_m92
              obtain ⟨h_m92, q_m92⟩ := h_m92
              refine ⟨fun hq => ?_, fun hq => ?_⟩
              · skip
                exact ⟨g_m73, by exact ⟨by first | trivial | omega | (refine ⟨?_, ?_⟩ <;> omega), by first | exact Or.inl ⟨by omega, rfl⟩ | exact Or.inr ⟨by omega, v92, q_m92, Or.inl ⟨by omega, rfl⟩⟩ | exact Or.inr ⟨by omega, v92, q_m92, Or.inr ⟨by omega, hx_m101, q_m101⟩⟩⟩⟩
              · skip
                refine CV.mono (mz_233   g_m73.1 r_x1_2 r_v29 (MW_R p0 g_m73) (laws_R p1 g_m73) (by omega) (by omega) (h_m92.2 (by omega))) (by decide) ?_
                rintro m101 ⟨hx_m101, h_m101⟩
                have g_m101 : GX sR m m101 := gx_in g_m73 hx_m101 (fun _ _ h => h)
                obtain ⟨h_m101, q_m101⟩ := h_m101
                exact ⟨g_m101, by exact ⟨by first | trivial | omega | (refine ⟨?_, ?_⟩ <;> omega), by first | exact Or.inl ⟨by omega, rfl⟩ | exact Or.inr ⟨by omega, v92, q_m92, Or.inl ⟨by omega, rfl⟩⟩ | exact Or.inr ⟨by omega, v92, q_m92, Or.inr ⟨by omega, hx_m101, q_m101⟩⟩⟩⟩
          · intro m_104  hR_104
            obtain ⟨g_m_104, hR_104⟩ := hR_104
            obtain ⟨hR_104, dR_104⟩ := hR_104
            try have w12 : wr (x1_2 + 1) = x1_2 + 1 := wr_id (by omega) (by omega)
            intro z1_104 e_z1_104
            have r_z1_104 : rg z1_104 := by rw [e_z1_104]; exact wr_rg _
            exact ⟨⟨g_m_104, by exact ⟨by first | omega | (refine ⟨?_, ?_⟩ <;> omega) | trivial, by exact ⟨by omega, fun Y E r h => mi_c (dI_2.2 Y E r h) (by omega) n58 n302 hb29 ha29 q_m36 dR_48 hb67 ha67 hx_m73 q_m73 dR_84 dR_104 (by omega) (ty_284_18 g_m_2.1)⟩⟩⟩, by (try dsimp only); omega⟩
-- TippedCratesModel.goes(I)V
set_option maxRecDepth 20000 in
theorem mz_235 {m : Mm} {x1 : Int}  (T_m : Ty m) (r_x1 : rg x1) (p0 : MW m) (p1 : lawsM m) (p2 : x1 ≤ 60) : CV 8 235 [.ref 284, iv x1] m (fun m2 => GX sR m m2 ∧ ((True) ∧ (∀ Y E r, YM m Y E r → YM m2 Y E (goN Y E (rd m 284 58) r (Int.toNat x1))))) := by
  refine br_235 r_x1 ?_
  unfold P_235
  have g_m : GX sR m m := ⟨T_m, fun _ _ _ => rfl, fun _ _ => rfl⟩
  refine ⟨fun x2_2 m_2 => GX sR m m_2 ∧ ((0 ≤ x2_2 ∧ x2_2 ≤ 61) ∧ ((x2_2 ≤ x1 ∨ x2_2 = 0) ∧ ∀ Y E r, YM m Y E r → YM m_2 Y E (goN Y E (rd m 284 58) r (Int.toNat x2_2)))), fun x2_2 m_2 => Int.toNat (61 - x2_2), ?_, ?_⟩
  · exact ⟨g_m, by exact ⟨by first | omega | (refine ⟨?_, ?_⟩ <;> omega) | trivial, by exact ⟨Or.inr rfl, fun _ _ _ h => h⟩⟩⟩
  · intro x2_2 m_2 r_x2_2 hI_2
    obtain ⟨g_m_2, hI_2⟩ := hI_2
    obtain ⟨hI_2, dI_2⟩ := hI_2
    refine ⟨fun hq => ?_, fun hq => ?_⟩
    · skip
      exact ⟨g_m_2, by exact ⟨by first | trivial | omega | (refine ⟨?_, ?_⟩ <;> omega), by exact fun Y E r h => by rw [show Int.toNat x1 = Int.toNat x2_2 by omega]; exact dI_2.2 Y E r h⟩⟩
    · skip
      refine CV.mono (mz_234   g_m_2.1 (MW_R p0 g_m_2) (laws_R p1 g_m_2)) (by decide) ?_
      rintro m8 ⟨hx_m8, h_m8⟩
      have g_m8 : GX sR m m8 := gx_in g_m_2 hx_m8 (fun _ _ h => h)
      try have w1 : wr (x2_2 + 1) = x2_2 + 1 := wr_id (by omega) (by omega)
      intro z2_11 e_z2_11
      have r_z2_11 : rg z2_11 := by rw [e_z2_11]; exact wr_rg _
      exact ⟨⟨g_m8, by exact ⟨by first | omega | (refine ⟨?_, ?_⟩ <;> omega) | trivial, by exact ⟨Or.inl (by omega), fun Y E r h => by rw [show Int.toNat z2_11 = Int.toNat x2_2 + 1 by omega]; have t := h_m8.2 Y E _ (dI_2.2 Y E r h); rw [g_m_2.2.1 284 58 rfl] at t; exact t⟩⟩⟩, by (try dsimp only); omega⟩
