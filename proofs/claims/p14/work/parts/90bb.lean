def vC (m : Mm) (t : Int) : Int := ld m 4 (Int.toNat t)
theorem vC_eq {m0 m m2 : Mm} (g : RX m0 m) (h : RX m0 m2) : vC m2 = vC m := funext fun t => (h.2.2.2.2.2 4 _ (by decide)).trans (g.2.2.2.2.2 4 _ (by decide)).symm
/-- the laws' rows of the reader as they were; codes written behind the others -/
def lwS (m m2 : Mm) : Prop := rd m2 20 4 = rd m 20 4 ∧ (∀ j : Nat, rd m2 22 j = rd m 22 j) ∧ ∀ j : Nat, rd m2 23 j = rd m 23 j
theorem lwS_tk {m m2 : Mm} (h : GX sTk m m2) : lwS m m2 := ⟨h.2.1 20 4 rfl, fun j => h.2.1 22 j rfl, fun j => h.2.1 23 j rfl⟩
def wrC (m m2 : Mm) (L : Rp) : Prop := rd m2 20 4 = rd m 20 4 + (L.length : Int) ∧ (∀ j : Nat, (j : Int) < rd m 20 4 → rd m2 22 j = rd m 22 j) ∧ (∀ j : Nat, rd m2 23 j = rd m 23 j) ∧ sgC m2 22 (rd m 20 4) L
theorem wr_S {m m2 : Mm} (h : lwS m m2) : wrC m m2 [] := ⟨by rw [h.1]; simp, fun j _ => h.2.1 j, h.2.2, trivial⟩
theorem wr_t {m m1 m2 : Mm} {L L2 : Rp} (h : wrC m m1 L) (k : wrC m1 m2 L2) (p : 0 ≤ rd m 20 4) : wrC m m2 (L ++ L2) := by
  obtain ⟨a1, a2, a3, a4⟩ := h
  obtain ⟨b1, b2, b3, b4⟩ := k
  have n : ((L ++ L2).length : Int) = L.length + L2.length := by simp
  refine ⟨by omega, fun j q => (b2 j (by omega)).trans (a2 j q), fun j => (b3 j).trans (a3 j), sg_app.mpr ⟨sg_fr p (fun j _ q => b2 j (by omega)) a4, ?_⟩⟩
  rw [← a1]
  exact b4
theorem wr_1 {m m2 : Mm} {c w v : Int} (h : wx m m2 20 c w v) (p : 0 ≤ rd m 20 4 ∧ rd m 20 4 < 420) : wrC m m2 [(c, w)] := by
  obtain ⟨a1, a2, a3, a4⟩ := h.1 p.2
  exact ⟨by rw [a2]; rfl, fun j q => a4 j (by omega), h.2, a3, trivial⟩
def isN (P : List Int) : Prop := P = []
def anyW (_ : List Int) : Prop := True
def eqE (m m2 : Mm) (d : Int) (A B : List Int → Prop) : Prop := rd m2 19 5 = 0 → rd m 20 4 ≤ rd m 19 4 + 8 → rd m2 20 4 - rd m 20 4 ≤ rd m2 19 4 - rd m 19 4 ∧ ∃ (O : Rp) (P : List Int), A P ∧ (∀ W, B W → EM (kC m) (vC m) (rd m 19 4) d 0 W = O ++ EM (kC m) (vC m) (rd m2 19 4) d 1 (P ++ W)) ∧ wrC m m2 (O ++ fl P)
theorem eq_up {m m2 : Mm} {d : Int} {A : List Int → Prop} (h : eqE m m2 d isN anyW) (hA : ∀ {P : List Int}, P = [] → A P) {B : List Int → Prop} : eqE m m2 d A B := fun z p => by
  obtain ⟨a, O, P, b, c, e⟩ := h z p
  exact ⟨a, O, P, hA b, fun W _ => c W trivial, e⟩
theorem eq_su {m m2 : Mm} {d : Int} (h : eqE m m2 d allS topP) : eqE m m2 d allO topS := fun z p => by
  obtain ⟨a, O, P, b, c, e⟩ := h z p
  exact ⟨a, O, P, allS_O b, fun W w => c W (topS_P w), e⟩
theorem eu_u {m mw m2 : Mm} {d k v c w x : Int} (l : lwF m mw) (wx1 : wx m mw 20 c w x) (ek : rd m 2 (Int.toNat (rd m 19 4)) = k) (hu : isU (kC m (rd m 19 4))) (h0 : rd m 19 5 = 0 ∧ rd m 19 4 ≤ 400) (ts : 0 ≤ rd m 20 4 ∧ rd m 20 4 ≤ 420) (u : uc (kC m) (vC m) (rd m 19 4) = (c, w)) (tk : tkP mw m2 k v) (f : lwS mw m2) : eqE m m2 d isN anyW := by
  intro z p
  obtain ⟨l1, l2, -⟩ := l
  have e4 : rd m2 19 4 = rd m 19 4 + 1 := by
    rcases tk.1 with q | ⟨-, -, -, -, -, -, q⟩ | ⟨-, -, q, -⟩
    · exact absurd z (by omega)
    · omega
    · exact absurd z (by omega)
  have W1 := wr_1 wx1 ⟨ts.1, by omega⟩
  have W := wr_t W1 (wr_S f) ts.1
  refine ⟨?_, [(c, w)], [], rfl, fun W _ => ?_, W⟩
  · have a := W1.1
    have b := f.1
    have n : (([(c, w)] : Rp).length : Int) = 1 := rfl
    omega
  · rw [EM_u h0.2 hu, u, e4]
    rfl
theorem eu_par {m m1 m2 m3 : Mm} {d v w : Int} (h0 : rd m 19 5 = 0 ∧ rd m 19 4 ≤ 400) (hp : 0 ≤ d) (t1 : tkP m m1 40 v) (k1 : kC m1 = kC m) (v1 : vC m1 = vC m) (f1 : lwS m m1) (su : eqE m1 m2 (d + 1) allO topS) (au : auP m1 m2 (d + 1)) (k2 : kC m2 = kC m) (v2 : vC m2 = vC m) (t3 : tkP m2 m3 41 w) (f3 : lwS m2 m3) (_r1 : 0 ≤ rd m1 19 4 ∧ rd m1 19 4 ≤ 400) (r2 : 0 ≤ rd m2 19 4 ∧ rd m2 19 4 ≤ 400) (ts : 0 ≤ rd m 20 4 ∧ rd m 20 4 ≤ 420) : eqE m m3 d isN anyW := by
  intro z p
  have c3 : rd m2 19 5 = 0 ∧ kC m2 (rd m2 19 4) = 41 ∧ rd m3 19 4 = rd m2 19 4 + 1 := by
    rcases t3.1 with ⟨q, -, q2, -⟩ | ⟨q, q1, -, -, -, -, q2⟩ | ⟨q, -, q2, -⟩
    · omega
    · exact ⟨q, q1, q2⟩
    · omega
  have z1 : rd m1 19 5 = 0 := by
    by_cases q : rd m1 19 5 = 0
    · exact q
    · have := au.2.1 q; omega
  have c1 : kC m (rd m 19 4) = 40 ∧ rd m1 19 4 = rd m 19 4 + 1 := by
    rcases t1.1 with ⟨q, -, q2, -⟩ | ⟨q, q1, -, -, -, -, q2⟩ | ⟨q, -, q2, -⟩
    · omega
    · exact ⟨q1, q2⟩
    · omega
  have b1 := f1.1
  have b3 := f3.1
  obtain ⟨s, O, P, hP, hE, hW⟩ := su c3.1 (by omega)
  have n1 := hW.1
  refine ⟨by omega, O ++ fl P, [], rfl, fun W _ => ?_, ?_⟩
  · rw [k2] at c3
    have e := hE (40 :: W) (Or.inr ⟨W, rfl⟩)
    rw [k1, v1] at e
    rw [EM_o h0.2 c1.1, ← c1.2, e, EM_c r2.2 c3.2.1 (by omega), po_app (Or.inr ⟨W, rfl⟩) hP, c3.2.2, show d + 1 - 1 = d by omega, List.append_assoc]
    rfl
  · have w := wr_t (wr_t (wr_S f1) hW ts.1) (wr_S f3) ts.1
    exact w
theorem eq_op {m m7 m54 m60 m69 : Mm} {d v c x : Int} {P2 : List Int} {O O2 : Rp} {P : List Int} (W7 : wrC m m7 (O ++ fl P)) (f54 : lwS m7 m54) (W60 : wrC m54 m60 (O2 ++ fl P2)) (wx9 : wx m60 m69 20 c 0 x) (hc : c = opc v) (ts : 0 ≤ rd m 20 4 ∧ rd m 20 4 ≤ 420) (ts0 : 0 ≤ rd m60 20 4 ∧ rd m60 20 4 < 420) : wrC m m69 ((O ++ fl P ++ O2) ++ fl (P2 ++ [v])) := by
  have w := wr_t (wr_t (wr_t W7 (wr_S f54) ts.1) W60 ts.1) (wr_1 wx9 ts0) ts.1
  rw [fl_app, show fl [v] = [(opc v, 0)] from rfl, ← hc]
  have e : O ++ fl P ++ O2 ++ (fl P2 ++ [(c, 0)]) = O ++ fl P ++ [] ++ (O2 ++ fl P2) ++ [(c, 0)] := by simp
  rw [e]
  exact w
theorem tk_op {m7 m54 : Mm} {v : Int} (t : tkP m7 m54 (rd m7 2 (Int.toNat (rd m7 19 4))) v) (z : rd m54 19 5 = 0) : rd m7 19 5 = 0 ∧ rd m54 19 4 = rd m7 19 4 + 1 := by
  rcases t.1 with ⟨q, -, q2, -⟩ | ⟨q, q1, -, -, -, -, q2⟩ | ⟨q, -, q2, -⟩
  · omega
  · exact ⟨q, q2⟩
  · omega
theorem eq_mul {m m7 m54 m60 m69 : Mm} {d v c x : Int} (h : eqE m m7 d allS topP) (h0 : rd m7 19 5 = 0 ∧ rd m7 19 4 ≤ 400) (ho : kC m7 (rd m7 19 4) = 42 ∨ kC m7 (rd m7 19 4) = 47) (k7 : kC m7 = kC m) (v7 : vC m7 = vC m) (t : tkP m7 m54 (rd m7 2 (Int.toNat (rd m7 19 4))) v) (f54 : lwS m7 m54) (k54 : kC m54 = kC m) (v54 : vC m54 = vC m) (u : eqE m54 m60 d isN anyW) (l : lwF m60 m69) (wx9 : wx m60 m69 20 c 0 x) (hc : c = opc (kC m7 (rd m7 19 4))) (ts : 0 ≤ rd m 20 4 ∧ rd m 20 4 ≤ 420) (ts0 : 0 ≤ rd m60 20 4 ∧ rd m60 20 4 ≤ 420) (t60 : 0 ≤ rd m60 19 4 ∧ rd m60 19 4 ≤ 400) (_a : auP m m7 d) (au : auP m54 m60 d) : eqE m m69 d allS topP := by
  intro z p
  obtain ⟨l1, l2, -⟩ := l
  have z60 : rd m60 19 5 = 0 := by omega
  have z54 : rd m54 19 5 = 0 := by
    by_cases q : rd m54 19 5 = 0
    · exact q
    · have := au.2.1 q; omega
  have c54 := tk_op t z54
  have b54 := f54.1
  obtain ⟨s7, O, P, hP, hE, W7⟩ := h c54.1 p
  obtain ⟨s60, O2, P2, hP2, hE2, W60⟩ := u z60 (by omega)
  have e2 : P2 = [] := hP2
  subst e2
  have ts9 : 0 ≤ rd m60 20 4 ∧ rd m60 20 4 < 420 := by omega
  have w1 := (wr_1 wx9 ts9).1
  have n1 : (([(c, 0)] : Rp).length : Int) = 1 := rfl
  rw [k7] at ho hc
  refine ⟨by omega, O ++ fl P ++ O2, [kC m (rd m7 19 4)], allS_one ho, fun W hW => ?_, ?_⟩
  · have st : stg (kC m (rd m7 19 4)) = true := by unfold stg; simp; exact ho
    have e := hE2 (kC m (rd m7 19 4) :: W) trivial
    rw [k54, v54, c54.2] at e
    rw [hE W hW, EM_p h0.2 (by unfold isOp; omega), st, po_str hW hP, e, l1]
    simp
  · exact eq_op (v := kC m (rd m7 19 4)) (d := d) W7 f54 W60 wx9 hc ts ts9
theorem eq_add {m m7 m54 m60 m69 : Mm} {d v c x : Int} (h : eqE m m7 d allO topS) (h0 : rd m7 19 5 = 0 ∧ rd m7 19 4 ≤ 400) (ho : kC m7 (rd m7 19 4) = 43 ∨ kC m7 (rd m7 19 4) = 45) (k7 : kC m7 = kC m) (v7 : vC m7 = vC m) (t : tkP m7 m54 (rd m7 2 (Int.toNat (rd m7 19 4))) v) (f54 : lwS m7 m54) (k54 : kC m54 = kC m) (v54 : vC m54 = vC m) (u : eqE m54 m60 d allS topP) (l : lwF m60 m69) (wx9 : wx m60 m69 20 c 0 x) (hc : c = opc (kC m7 (rd m7 19 4))) (ts : 0 ≤ rd m 20 4 ∧ rd m 20 4 ≤ 420) (ts0 : 0 ≤ rd m60 20 4 ∧ rd m60 20 4 ≤ 420) (t60 : 0 ≤ rd m60 19 4 ∧ rd m60 19 4 ≤ 400) (_a : auP m m7 d) (au : auP m54 m60 d) : eqE m m69 d allO topS := by
  intro z p
  obtain ⟨l1, l2, -⟩ := l
  have z60 : rd m60 19 5 = 0 := by omega
  have z54 : rd m54 19 5 = 0 := by
    by_cases q : rd m54 19 5 = 0
    · exact q
    · have := au.2.1 q; omega
  have c54 := tk_op t z54
  have b54 := f54.1
  obtain ⟨s7, O, P, hP, hE, W7⟩ := h c54.1 p
  obtain ⟨s60, O2, P2, hP2, hE2, W60⟩ := u z60 (by omega)
  have ts9 : 0 ≤ rd m60 20 4 ∧ rd m60 20 4 < 420 := by omega
  have w1 := (wr_1 wx9 ts9).1
  have n1 : (([(c, 0)] : Rp).length : Int) = 1 := rfl
  rw [k7] at ho hc
  refine ⟨by omega, O ++ fl P ++ O2, P2 ++ [kC m (rd m7 19 4)], allO_app (allS_O hP2) (by unfold isOp; omega), fun W hW => ?_, ?_⟩
  · have st : stg (kC m (rd m7 19 4)) = false := by unfold stg; simp; omega
    have e := hE2 (kC m (rd m7 19 4) :: W) (Or.inr ⟨_, W, rfl, by omega⟩)
    rw [k54, v54, c54.2] at e
    rw [hE W hW, EM_p h0.2 (by unfold isOp; omega), st, po_app hW hP, e, l1]
    simp
  · exact eq_op (v := kC m (rd m7 19 4)) (d := d) W7 f54 W60 wx9 hc ts ts9
-- TippedCrates$Reader.readUnit(I)V
set_option maxRecDepth 20000 in
theorem ey_49 {m0 m : Mm} {x1 : Int} {D : Nat} (hD : 3 ≤ D) (ih : ∀ {m0 m : Mm} {y : Int} (_ : RX m0 m) (_ : rg y) (_ : 0 ≤ y ∧ y ≤ 7) (_ : y = 7 → ¬ rd m 19 5 = 0) (_ : x1 < y), CV D 47 [.ref 19, iv y] m (fun m2 => RX m0 m2 ∧ (((suP m m2 y) ∧ (suF m m2)) ∧ (eqE m m2 y allO topS)))) (g_m : RX m0 m) (r_x1 : rg x1) (p0 : 0 ≤ x1 ∧ x1 ≤ 7) (p1 : x1 = 7 → ¬ rd m 19 5 = 0) : CV (D + 1) 49 [.ref 19, iv x1] m (fun m2 => RX m0 m2 ∧ (((auP m m2 x1) ∧ (suF m m2)) ∧ (eqE m m2 x1 isN anyW))) := by
  refine br_49 (d := D) r_x1 ?_
  unfold P_49
  have tt := ty_19_4 g_m.1
  refine ⟨fun hq => ?_, fun hq => ?_⟩
  · skip
    refine CK.mono (ct_36   g_m.1) (by omega) ?_
    rintro m9 v9 r_v9 ⟨e_m9, h_m9⟩
    replace e_m9 := e_m9.symm
    subst e_m9
    refine ⟨fun m_135 => RX m0 m_135 ∧ (((auP m m_135 x1) ∧ (suF m m_135)) ∧ (eqE m m_135 x1 isN anyW)), ?_, ?_⟩
    · skip
      refine ⟨fun hq => ?_, fun hq => ?_⟩
      · skip
        refine CK.mono (ct_36   g_m.1) (by omega) ?_
        rintro m50 v50 r_v50 ⟨e_m50, h_m50⟩
        replace e_m50 := e_m50.symm
        subst e_m50
        refine CK.mono (ct_166   r_v50 (by unfold rg; decide) (by unfold rg; decide)) (by omega) ?_
        rintro m57 v57 r_v57 ⟨e_m57, h_m57⟩
        replace e_m57 := e_m57.symm
        subst e_m57
        refine ⟨fun hq => ?_, fun hq => ?_⟩
        · skip
          refine CK.mono (ct_36   g_m.1) (by omega) ?_
          rintro m92 v92 r_v92 ⟨e_m92, h_m92⟩
          replace e_m92 := e_m92.symm
          subst e_m92
          refine ⟨¬ v92 = 40 ∨ x1 < 6, ?_, ?_⟩
          · skip
            refine ⟨fun hq => ?_, fun hq => ?_⟩
            · skip
              (first | trivial | omega | (refine ⟨?_, ?_⟩ <;> omega))
            · skip
              refine ⟨fun hq => ?_, fun hq => ?_⟩
              · skip
                (first | trivial | omega | (refine ⟨?_, ?_⟩ <;> omega))
              · skip
                refine CV.mono (ct_37   g_m.1 (by unfold rg; decide) (by omega)) (by omega) ?_
                rintro m108 ⟨hx_m108, h_m108⟩
                have g_m108 : RX m0 m108 := RX.tk g_m hx_m108 (by omega) (by omega)
                have au108 : auP m m108 x1 := au_6 (by omega) (by omega) (by omega) h_m108
                have eu108 : eqE m m108 x1 isN anyW := fun z => by omega
                exact ⟨g_m108, by exact ⟨by exact ⟨by first | exact au42 | exact au84 | exact au108 | exact au131, by first | exact (suF_lw hx_m35).trans (suF_tk hx_m42) | exact (suF_lw hx_m75).trans (suF_tk hx_m84) | exact suF_tk hx_m108 | exact ((suF_tk hx_m117).trans f_m125).trans (suF_tk hx_m131)⟩, by first | exact eu42 | exact eu84 | exact eu108 | exact eu131⟩⟩
          · intro   hR_114
            refine CK.mono (ct_39   g_m.1 (by unfold rg; decide)) (by omega) ?_
            rintro m117 v117 r_v117 ⟨hx_m117, h_m117⟩
            have g_m117 : RX m0 m117 := RX.tk g_m hx_m117 (by omega) (by omega)
            have wx : wr (x1 + 1) = x1 + 1 := wr_id (by omega) (by omega)
            try have w2 : wr (x1 + 1) = x1 + 1 := wr_id (by omega) (by omega)
            refine CV.mono (ih g_m117 (wr_rg _) (by omega) (by omega) (by omega)) (by omega) ?_
            rintro m125 ⟨g_m125, h_m125⟩
            obtain ⟨h_m125, q_m125⟩ := h_m125
            obtain ⟨h_m125, f_m125⟩ := h_m125
            refine CK.mono (ct_39   g_m125.1 (by unfold rg; decide)) (by omega) ?_
            rintro m131 v131 r_v131 ⟨hx_m131, h_m131⟩
            have g_m131 : RX m0 m131 := RX.tk g_m125 hx_m131 (by omega) (by omega)
            have t125 := ty_19_4 g_m125.1
            have k17 : kC m117 = kC m := kC_eq g_m g_m117
            have s17 : ∀ j, rd m117 3 j = rd m 3 j := st_eq g_m g_m117
            have k25 : kC m125 = kC m := kC_eq g_m g_m125
            have s25 : ∀ j, rd m125 3 j = rd m 3 j := st_eq g_m g_m125
            have au131 : auP m m131 x1 := au_par (by omega) (by omega) (by omega) (by omega) h_m117 k17 s17 (by rw [wx] at h_m125; exact h_m125) k25 s25 h_m131
            have v17 : vC m117 = vC m := vC_eq g_m g_m117
            have v25 : vC m125 = vC m := vC_eq g_m g_m125
            have eu131 : eqE m m131 x1 isN anyW := eu_par (by omega) (by omega) h_m117 k17 v17 (lwS_tk hx_m117) (by rw [wx] at q_m125; exact q_m125) (by rw [wx] at h_m125; exact h_m125.1) k25 v25 h_m131 (lwS_tk hx_m131) (ty_19_4 g_m117.1) (ty_19_4 g_m125.1) (ty_lw4 g_m.1 lw_20)
            exact ⟨g_m131, by exact ⟨by exact ⟨by first | exact au42 | exact au84 | exact au108 | exact au131, by first | exact (suF_lw hx_m35).trans (suF_tk hx_m42) | exact (suF_lw hx_m75).trans (suF_tk hx_m84) | exact suF_tk hx_m108 | exact ((suF_tk hx_m117).trans f_m125).trans (suF_tk hx_m131)⟩, by first | exact eu42 | exact eu84 | exact eu108 | exact eu131⟩⟩
        · skip
          refine CK.mono (ct_36   g_m.1) (by omega) ?_
          rintro m69 v69 r_v69 ⟨e_m69, h_m69⟩
          replace e_m69 := e_m69.symm
          subst e_m69
          try have w3 : wr (v69 - 12) = v69 - 12 := wr_id (by omega) (by omega)
          refine CK.mono (ex_15   g_m.1 lw_20 (by unfold rg; decide) (wr_rg _) (by omega) (by omega) (fun h => by omega) g_m.2.1) (by omega) ?_
          rintro m75 v75 r_v75 ⟨hx_m75, h_m75⟩
          have g_m75 : RX m0 m75 := RX.lw g_m hx_m75 h_m75.1.1
          obtain ⟨h_m75, q_m75⟩ := h_m75
          have l75 : lwF m m75 := lwF_of hx_m75
          refine CK.mono (ct_36   g_m75.1) (by omega) ?_
          rintro m81 v81 r_v81 ⟨e_m81, h_m81⟩
          replace e_m81 := e_m81.symm
          subst e_m81
          refine CK.mono (ct_39   g_m75.1 r_v81) (by omega) ?_
          rintro m84 v84 r_v84 ⟨hx_m84, h_m84⟩
          have g_m84 : RX m0 m84 := RX.tk g_m75 hx_m84 (by omega) (by omega)
          have au84 : auP m m84 x1 := au_u (k := v81) (v := v84) l75 (by have e := l75.2.2.2.2.2.2.1; have e2 := l75.2.2.2.2.2.1; rw [e2, e] at h_m81; exact h_m81.symm) (Or.inr (by omega)) (by omega) h_m84
          have eu84 : eqE m m84 x1 isN anyW := eu_u (c := 1) (w := wr (v69 - 12)) l75 q_m75 (by have e := l75.2.2.2.2.2.2.1; have e2 := l75.2.2.2.2.2.1; rw [e2, e] at h_m81; exact h_m81.symm) (Or.inr (by show 12 ≤ rd m 2 _ ∧ rd m 2 _ ≤ 20; omega)) (by omega) (ty_lw4 g_m.1 lw_20) (uc_v (by show ¬ rd m 2 _ = 22; omega) (by show wr (v69 - 12) = rd m 2 _ - 12; omega)) h_m84 (lwS_tk hx_m84)
          exact ⟨g_m84, by exact ⟨by exact ⟨by first | exact au42 | exact au84 | exact au108 | exact au131, by first | exact (suF_lw hx_m35).trans (suF_tk hx_m42) | exact (suF_lw hx_m75).trans (suF_tk hx_m84) | exact suF_tk hx_m108 | exact ((suF_tk hx_m117).trans f_m125).trans (suF_tk hx_m131)⟩, by first | exact eu42 | exact eu84 | exact eu108 | exact eu131⟩⟩
      · skip
        have t4 := ty_19_4 g_m.1
        refine ⟨⟨by omega, by omega⟩, ?_⟩
        try have w5 : wr (ld m 4 (Int.toNat (rd m 19 4))) = ld m 4 (Int.toNat (rd m 19 4)) := wr_id (by omega) (by omega)
        have tv := g_m.2.2.2.1 (Int.toNat (rd m 19 4)) (by omega) (by omega)
        have wv : wr (ld m 4 (Int.toNat (rd m 19 4))) = ld m 4 (Int.toNat (rd m 19 4)) := wr_id (by omega) (by omega)
        refine CK.mono (ex_15   g_m.1 lw_20 (by unfold rg; decide) (wr_rg _) (by omega) (by omega) (fun h => by omega) g_m.2.1) (by omega) ?_
        rintro m35 v35 r_v35 ⟨hx_m35, h_m35⟩
        have g_m35 : RX m0 m35 := RX.lw g_m hx_m35 h_m35.1.1
        obtain ⟨h_m35, q_m35⟩ := h_m35
        have l35 : lwF m m35 := lwF_of hx_m35
        refine CK.mono (ct_39   g_m35.1 (by unfold rg; decide)) (by omega) ?_
        rintro m42 v42 r_v42 ⟨hx_m42, h_m42⟩
        have g_m42 : RX m0 m42 := RX.tk g_m35 hx_m42 (by omega) (by omega)
        have au42 : auP m m42 x1 := au_u (k := 22) (v := v42) l35 (by omega) (Or.inl (by omega)) (by omega) h_m42
        have eu42 : eqE m m42 x1 isN anyW := eu_u (c := 0) (w := wr (ld m 4 (Int.toNat (rd m 19 4)))) l35 q_m35 (by omega) (Or.inl (by show rd m 2 _ = 22; omega)) (by omega) (ty_lw4 g_m.1 lw_20) (uc_i (by show rd m 2 _ = 22; omega) wv) h_m42 (lwS_tk hx_m42)
        exact ⟨g_m42, by exact ⟨by exact ⟨by first | exact au42 | exact au84 | exact au108 | exact au131, by first | exact (suF_lw hx_m35).trans (suF_tk hx_m42) | exact (suF_lw hx_m75).trans (suF_tk hx_m84) | exact suF_tk hx_m108 | exact ((suF_tk hx_m117).trans f_m125).trans (suF_tk hx_m131)⟩, by first | exact eu42 | exact eu84 | exact eu108 | exact eu131⟩⟩
    · intro m_135  hR_135
      obtain ⟨g_m_135, hR_135⟩ := hR_135
      obtain ⟨hR_135, dR_135⟩ := hR_135
      obtain ⟨hR_135, cR_135⟩ := hR_135
      exact ⟨g_m_135, by exact ⟨by exact ⟨by first | exact hR_135 | exact au_f (by omega), by first | exact cR_135 | exact suF_rfl _⟩, by first | exact dR_135 | exact fun z => absurd z (by omega)⟩⟩
  · skip
    exact ⟨g_m, by exact ⟨by exact ⟨by first | exact hR_135 | exact au_f (by omega), by first | exact cR_135 | exact suF_rfl _⟩, by first | exact dR_135 | exact fun z => absurd z (by omega)⟩⟩
-- TippedCrates$Reader.readProduct(I)V
set_option maxRecDepth 20000 in
theorem ey_48 {m0 m : Mm} {x1 : Int} {D : Nat} (hD : 3 ≤ D) (ih : ∀ {m0 m : Mm} {y : Int} (_ : RX m0 m) (_ : rg y) (_ : 0 ≤ y ∧ y ≤ 7) (_ : y = 7 → ¬ rd m 19 5 = 0) (_ : x1 < y), CV D 47 [.ref 19, iv y] m (fun m2 => RX m0 m2 ∧ (((suP m m2 y) ∧ (suF m m2)) ∧ (eqE m m2 y allO topS)))) (g_m : RX m0 m) (r_x1 : rg x1) (p0 : 0 ≤ x1 ∧ x1 ≤ 7) (p1 : x1 = 7 → ¬ rd m 19 5 = 0) : CV (D + 2) 48 [.ref 19, iv x1] m (fun m2 => RX m0 m2 ∧ (((prP m m2 x1) ∧ (suF m m2)) ∧ (eqE m m2 x1 allS topP))) := by
  refine br_48 (d := (D + 1)) r_x1 ?_
  unfold P_48
  have tt := ty_19_4 g_m.1
  refine CV.mono (ey_49 hD ih g_m r_x1 (by omega) (by omega)) (by omega) ?_
  rintro m2 ⟨g_m2, h_m2⟩
  obtain ⟨h_m2, q_m2⟩ := h_m2
  obtain ⟨h_m2, f_m2⟩ := h_m2
  refine ⟨fun x2_7 m_7 => RX m0 m_7 ∧ ((((auP m m_7 x1 ∧ (rd m_7 19 5 = 0 → x2_7 < rd m_7 19 4)) ∧ 0 ≤ x2_7 ∧ x2_7 ≤ 400) ∧ (suF m m_7)) ∧ (eqE m m_7 x1 allS topP)), fun x2_7 m_7 => Int.toNat (400 - x2_7), ?_, ?_⟩
  · exact ⟨g_m2, by exact ⟨by exact ⟨by exact ⟨⟨h_m2, fun h => by have := ty_19_4 g_m.1; have := h_m2; unfold auP at this; omega⟩, by omega, by omega⟩, by exact f_m2⟩, by exact eq_up q_m2 (fun e => by rw [e]; exact allS_nil)⟩⟩
  · intro x2_7 m_7 r_x2_7 hI_7
    obtain ⟨g_m_7, hI_7⟩ := hI_7
    obtain ⟨hI_7, dI_7⟩ := hI_7
    obtain ⟨hI_7, cI_7⟩ := hI_7
    have z7 : rd m_7 19 5 = 0 → rd m 19 5 = 0 := fun h => by
      by_cases q : rd m 19 5 = 0
      · exact q
      · have := hI_7.1.1.2.1 q
        omega
    have t7 := ty_19_4 g_m_7.1
    have k7 : kC m_7 = kC m := kC_eq g_m g_m_7
    have s7 : ∀ j, rd m_7 3 j = rd m 3 j := st_eq g_m g_m_7
    refine ⟨fun m_79 => RX m0 m_79 ∧ (((auP m m_79 x1 ∧ (rd m_79 19 5 = 0 → ¬ (kC m (rd m_79 19 4) = 42 ∨ kC m (rd m_79 19 4) = 47))) ∧ (suF m m_79)) ∧ (eqE m m_79 x1 allS topP)), ?_, ?_⟩
    · skip
      refine ⟨fun hq => ?_, fun hq => ?_⟩
      · skip
        exact ⟨g_m_7, by exact ⟨by exact ⟨by first | exact ⟨hI_7.1.1, fun h => absurd h (by omega)⟩ | exact ⟨hI_7.1.1, fun h => by rw [← k7]; show ¬ (rd m_7 2 (Int.toNat (rd m_7 19 4)) = 42 ∨ rd m_7 2 (Int.toNat (rd m_7 19 4)) = 47); omega⟩, by exact cI_7⟩, by exact dI_7⟩⟩
      · skip
        refine ⟨fun hq => ?_, fun hq => ?_⟩
        · skip
          exact ⟨g_m_7, by exact ⟨by exact ⟨by first | exact ⟨hI_7.1.1, fun h => absurd h (by omega)⟩ | exact ⟨hI_7.1.1, fun h => by rw [← k7]; show ¬ (rd m_7 2 (Int.toNat (rd m_7 19 4)) = 42 ∨ rd m_7 2 (Int.toNat (rd m_7 19 4)) = 47); omega⟩, by exact cI_7⟩, by exact dI_7⟩⟩
        · skip
          refine CK.mono (cx_50   g_m_7.1 (by unfold rg; decide) (by unfold rg; decide)) (by omega) ?_
          rintro m26 v26 r_v26 ⟨e_m26, h_m26⟩
          replace e_m26 := e_m26.symm
          subst e_m26
          refine ⟨fun hq => ?_, fun hq => ?_⟩
          · skip
            exact ⟨g_m_7, by exact ⟨by exact ⟨by first | exact ⟨hI_7.1.1, fun h => absurd h (by omega)⟩ | exact ⟨hI_7.1.1, fun h => by rw [← k7]; show ¬ (rd m_7 2 (Int.toNat (rd m_7 19 4)) = 42 ∨ rd m_7 2 (Int.toNat (rd m_7 19 4)) = 47); omega⟩, by exact cI_7⟩, by exact dI_7⟩⟩
          · skip
            refine CK.mono (ct_36   g_m_7.1) (by omega) ?_
            rintro m33 v33 r_v33 ⟨e_m33, h_m33⟩
            replace e_m33 := e_m33.symm
            subst e_m33
            refine ⟨fun s0_48 => (s0_48 = 6 ∧ v33 = 42) ∨ (s0_48 = 7 ∧ ¬ v33 = 42), ?_, ?_⟩
            · skip
              refine ⟨fun hq => ?_, fun hq => ?_⟩
              · skip
                (first | trivial | omega | (refine ⟨?_, ?_⟩ <;> omega))
              · skip
                (first | trivial | omega | (refine ⟨?_, ?_⟩ <;> omega))
            · intro s0_48 r_s0_48 hR_48
              refine CK.mono (ct_36   g_m_7.1) (by omega) ?_
              rintro m51 v51 r_v51 ⟨e_m51, h_m51⟩
              replace e_m51 := e_m51.symm
              subst e_m51
              refine CK.mono (ct_39   g_m_7.1 r_v51) (by omega) ?_
              rintro m54 v54 r_v54 ⟨hx_m54, h_m54⟩
              have g_m54 : RX m0 m54 := RX.tk g_m_7 hx_m54 (by omega) (by omega)
              refine CV.mono (ey_49 hD ih g_m54 r_x1 (by omega) (by omega)) (by omega) ?_
              rintro m60 ⟨g_m60, h_m60⟩
              obtain ⟨h_m60, q_m60⟩ := h_m60
              obtain ⟨h_m60, f_m60⟩ := h_m60
              refine CK.mono (ex_15   g_m60.1 lw_20 r_s0_48 (by unfold rg; decide) (by omega) (by omega) (fun h => by omega) g_m60.2.1) (by omega) ?_
              rintro m69 v69 r_v69 ⟨hx_m69, h_m69⟩
              have g_m69 : RX m0 m69 := RX.lw g_m60 hx_m69 h_m69.1.1
              obtain ⟨h_m69, q_m69⟩ := h_m69
              have l69 : lwF m60 m69 := lwF_of hx_m69
              have k54 : kC m54 = kC m := kC_eq g_m g_m54
              have s54 : ∀ j, rd m54 3 j = rd m 3 j := st_eq g_m g_m54
              have au69 : auP m m69 x1 ∧ (rd m69 19 5 = 0 → rd m_7 19 4 + 2 ≤ rd m69 19 4) := au_op hI_7.1.1 (by omega) (by unfold isOp; omega) k7 s7 (by have q : v51 = rd m_7 2 (Int.toNat (rd m_7 19 4)) := h_m51; rw [q] at h_m54; exact h_m54) k54 s54 h_m60 l69
              have v7 : vC m_7 = vC m := vC_eq g_m g_m_7
              have v54 : vC m54 = vC m := vC_eq g_m g_m54
              have eq69 : eqE m m69 x1 allS topP := eq_mul dI_7 (by omega) (by show rd m_7 2 _ = 42 ∨ rd m_7 2 _ = 47; omega) k7 v7 (by have q : v51 = rd m_7 2 (Int.toNat (rd m_7 19 4)) := h_m51; rw [q] at h_m54; exact h_m54) (lwS_tk hx_m54) k54 v54 q_m60 l69 q_m69 (by show s0_48 = opc (rd m_7 2 _); unfold opc; rw [if_neg (by omega), if_neg (by omega)]; rcases hR_48 with q | q; rw [if_pos (by omega)]; exact q.1; rw [if_neg (by omega)]; exact q.1) (ty_lw4 g_m.1 lw_20) (ty_lw4 g_m60.1 lw_20) (ty_19_4 g_m60.1) hI_7.1.1 h_m60
              try have w2 : wr (x2_7 + 1) = x2_7 + 1 := wr_id (by omega) (by omega)
              intro z2_73 e_z2_73
              have r_z2_73 : rg z2_73 := by rw [e_z2_73]; exact wr_rg _
              exact ⟨⟨g_m69, by exact ⟨by exact ⟨by exact ⟨⟨au69.1, fun h => by have := au69.2 h; omega⟩, by omega, by omega⟩, by exact ((cI_7.trans (suF_tk hx_m54)).trans f_m60).trans (suF_lw hx_m69)⟩, by exact eq69⟩⟩, by (try dsimp only); omega⟩
    · intro m_79  hR_79
      obtain ⟨g_m_79, hR_79⟩ := hR_79
      obtain ⟨hR_79, dR_79⟩ := hR_79
      obtain ⟨hR_79, cR_79⟩ := hR_79
      exact ⟨g_m_79, by exact ⟨by exact ⟨by exact hR_79, by exact cR_79⟩, by exact dR_79⟩⟩
-- TippedCrates$Reader.readSum(I)V
set_option maxRecDepth 20000 in
theorem ey_47s {m0 m : Mm} {x1 : Int} {D : Nat} (hD : 3 ≤ D) (ih : ∀ {m0 m : Mm} {y : Int} (_ : RX m0 m) (_ : rg y) (_ : 0 ≤ y ∧ y ≤ 7) (_ : y = 7 → ¬ rd m 19 5 = 0) (_ : x1 < y), CV D 47 [.ref 19, iv y] m (fun m2 => RX m0 m2 ∧ (((suP m m2 y) ∧ (suF m m2)) ∧ (eqE m m2 y allO topS)))) (g_m : RX m0 m) (r_x1 : rg x1) (p0 : 0 ≤ x1 ∧ x1 ≤ 7) (p1 : x1 = 7 → ¬ rd m 19 5 = 0) : CV (D + 3) 47 [.ref 19, iv x1] m (fun m2 => RX m0 m2 ∧ (((suP m m2 x1) ∧ (suF m m2)) ∧ (eqE m m2 x1 allO topS))) := by
  refine br_47 (d := (D + 2)) r_x1 ?_
  unfold P_47
  have tt := ty_19_4 g_m.1
  refine CV.mono (ey_48 hD ih g_m r_x1 (by omega) (by omega)) (by omega) ?_
  rintro m2 ⟨g_m2, h_m2⟩
  obtain ⟨h_m2, q_m2⟩ := h_m2
  obtain ⟨h_m2, f_m2⟩ := h_m2
  refine ⟨fun x2_7 m_7 => RX m0 m_7 ∧ ((((auP m m_7 x1 ∧ (rd m_7 19 5 = 0 → x2_7 < rd m_7 19 4) ∧ (rd m_7 19 5 = 0 → ¬ (kC m (rd m_7 19 4) = 42 ∨ kC m (rd m_7 19 4) = 47))) ∧ 0 ≤ x2_7 ∧ x2_7 ≤ 400) ∧ (suF m m_7)) ∧ (eqE m m_7 x1 allO topS)), fun x2_7 m_7 => Int.toNat (400 - x2_7), ?_, ?_⟩
  · exact ⟨g_m2, by exact ⟨by exact ⟨by exact ⟨⟨h_m2.1, fun h => by have := ty_19_4 g_m.1; have := h_m2.1; unfold auP at this; omega, h_m2.2⟩, by omega, by omega⟩, by exact f_m2⟩, by exact eq_su q_m2⟩⟩
  · intro x2_7 m_7 r_x2_7 hI_7
    obtain ⟨g_m_7, hI_7⟩ := hI_7
    obtain ⟨hI_7, dI_7⟩ := hI_7
    obtain ⟨hI_7, cI_7⟩ := hI_7
    have z7 : rd m_7 19 5 = 0 → rd m 19 5 = 0 := fun h => by
      by_cases q : rd m 19 5 = 0
      · exact q
      · have := hI_7.1.1.2.1 q
        omega
    have t7 := ty_19_4 g_m_7.1
    have k7 : kC m_7 = kC m := kC_eq g_m g_m_7
    have s7 : ∀ j, rd m_7 3 j = rd m 3 j := st_eq g_m g_m_7
    refine ⟨fun m_77 => RX m0 m_77 ∧ (((suP m m_77 x1) ∧ (suF m m_77)) ∧ (eqE m m_77 x1 allO topS)), ?_, ?_⟩
    · skip
      refine ⟨fun hq => ?_, fun hq => ?_⟩
      · skip
        exact ⟨g_m_7, by exact ⟨by exact ⟨by first | exact ⟨hI_7.1.1, fun h => absurd h (by omega)⟩ | exact ⟨hI_7.1.1, fun h => by have a := hI_7.1.2.2 h; rw [← k7] at a ⊢; have a2 : ¬ (rd m_7 2 (Int.toNat (rd m_7 19 4)) = 42 ∨ rd m_7 2 (Int.toNat (rd m_7 19 4)) = 47) := a; show ¬ isOp (rd m_7 2 (Int.toNat (rd m_7 19 4))); unfold isOp; omega⟩, by exact cI_7⟩, by exact dI_7⟩⟩
      · skip
        refine ⟨fun hq => ?_, fun hq => ?_⟩
        · skip
          exact ⟨g_m_7, by exact ⟨by exact ⟨by first | exact ⟨hI_7.1.1, fun h => absurd h (by omega)⟩ | exact ⟨hI_7.1.1, fun h => by have a := hI_7.1.2.2 h; rw [← k7] at a ⊢; have a2 : ¬ (rd m_7 2 (Int.toNat (rd m_7 19 4)) = 42 ∨ rd m_7 2 (Int.toNat (rd m_7 19 4)) = 47) := a; show ¬ isOp (rd m_7 2 (Int.toNat (rd m_7 19 4))); unfold isOp; omega⟩, by exact cI_7⟩, by exact dI_7⟩⟩
        · skip
          refine CK.mono (cx_50   g_m_7.1 (by unfold rg; decide) (by unfold rg; decide)) (by omega) ?_
          rintro m26 v26 r_v26 ⟨e_m26, h_m26⟩
          replace e_m26 := e_m26.symm
          subst e_m26
          refine ⟨fun hq => ?_, fun hq => ?_⟩
          · skip
            exact ⟨g_m_7, by exact ⟨by exact ⟨by first | exact ⟨hI_7.1.1, fun h => absurd h (by omega)⟩ | exact ⟨hI_7.1.1, fun h => by have a := hI_7.1.2.2 h; rw [← k7] at a ⊢; have a2 : ¬ (rd m_7 2 (Int.toNat (rd m_7 19 4)) = 42 ∨ rd m_7 2 (Int.toNat (rd m_7 19 4)) = 47) := a; show ¬ isOp (rd m_7 2 (Int.toNat (rd m_7 19 4))); unfold isOp; omega⟩, by exact cI_7⟩, by exact dI_7⟩⟩
          · skip
            refine CK.mono (ct_36   g_m_7.1) (by omega) ?_
            rintro m33 v33 r_v33 ⟨e_m33, h_m33⟩
            replace e_m33 := e_m33.symm
            subst e_m33
            refine ⟨fun s0_46 => (s0_46 = 4 ∧ v33 = 43) ∨ (s0_46 = 5 ∧ ¬ v33 = 43), ?_, ?_⟩
            · skip
              refine ⟨fun hq => ?_, fun hq => ?_⟩
              · skip
                (first | trivial | omega | (refine ⟨?_, ?_⟩ <;> omega))
              · skip
                (first | trivial | omega | (refine ⟨?_, ?_⟩ <;> omega))
            · intro s0_46 r_s0_46 hR_46
              refine CK.mono (ct_36   g_m_7.1) (by omega) ?_
              rintro m49 v49 r_v49 ⟨e_m49, h_m49⟩
              replace e_m49 := e_m49.symm
              subst e_m49
              refine CK.mono (ct_39   g_m_7.1 r_v49) (by omega) ?_
              rintro m52 v52 r_v52 ⟨hx_m52, h_m52⟩
              have g_m52 : RX m0 m52 := RX.tk g_m_7 hx_m52 (by omega) (by omega)
              refine CV.mono (ey_48 hD ih g_m52 r_x1 (by omega) (by omega)) (by omega) ?_
              rintro m58 ⟨g_m58, h_m58⟩
              obtain ⟨h_m58, q_m58⟩ := h_m58
              obtain ⟨h_m58, f_m58⟩ := h_m58
              refine CK.mono (ex_15   g_m58.1 lw_20 r_s0_46 (by unfold rg; decide) (by omega) (by omega) (fun h => by omega) g_m58.2.1) (by omega) ?_
              rintro m67 v67 r_v67 ⟨hx_m67, h_m67⟩
              have g_m67 : RX m0 m67 := RX.lw g_m58 hx_m67 h_m67.1.1
              obtain ⟨h_m67, q_m67⟩ := h_m67
              have l67 : lwF m58 m67 := lwF_of hx_m67
              have k52 : kC m52 = kC m := kC_eq g_m g_m52
              have s52 : ∀ j, rd m52 3 j = rd m 3 j := st_eq g_m g_m52
              have tk52 : tkP m_7 m52 (rd m_7 2 (Int.toNat (rd m_7 19 4))) v52 := by have q : v49 = rd m_7 2 (Int.toNat (rd m_7 19 4)) := h_m49; rw [q] at h_m52; exact h_m52
              have au67 : auP m m67 x1 ∧ (rd m67 19 5 = 0 → rd m_7 19 4 + 2 ≤ rd m67 19 4) := au_op hI_7.1.1 (by omega) (by unfold isOp; omega) k7 s7 tk52 k52 s52 h_m58.1 l67
              have np67 : rd m67 19 5 = 0 → ¬ (kC m (rd m67 19 4) = 42 ∨ kC m (rd m67 19 4) = 47) := fun h => by
                have e4 := l67.1
                have e5 := l67.2.1
                rw [e4]
                have := h_m58.2 (by omega)
                rw [k52] at this
                exact this
              have v7 : vC m_7 = vC m := vC_eq g_m g_m_7
              have v52 : vC m52 = vC m := vC_eq g_m g_m52
              have eq67 : eqE m m67 x1 allO topS := eq_add dI_7 (by omega) (by show rd m_7 2 _ = 43 ∨ rd m_7 2 _ = 45; omega) k7 v7 tk52 (lwS_tk hx_m52) k52 v52 q_m58 l67 q_m67 (by show s0_46 = opc (rd m_7 2 _); unfold opc; rcases hR_46 with q | q; rw [if_pos (by omega)]; exact q.1; rw [if_neg (by omega), if_pos (by omega)]; exact q.1) (ty_lw4 g_m.1 lw_20) (ty_lw4 g_m58.1 lw_20) (ty_19_4 g_m58.1) hI_7.1.1 h_m58.1
              try have w2 : wr (x2_7 + 1) = x2_7 + 1 := wr_id (by omega) (by omega)
              intro z2_71 e_z2_71
              have r_z2_71 : rg z2_71 := by rw [e_z2_71]; exact wr_rg _
              exact ⟨⟨g_m67, by exact ⟨by exact ⟨by exact ⟨⟨au67.1, fun h => by have := au67.2 h; omega, np67⟩, by omega, by omega⟩, by exact ((cI_7.trans (suF_tk hx_m52)).trans f_m58).trans (suF_lw hx_m67)⟩, by exact eq67⟩⟩, by (try dsimp only); omega⟩
    · intro m_77  hR_77
      obtain ⟨g_m_77, hR_77⟩ := hR_77
      obtain ⟨hR_77, dR_77⟩ := hR_77
      obtain ⟨hR_77, cR_77⟩ := hR_77
      exact ⟨g_m_77, by exact ⟨by exact ⟨by exact hR_77, by exact cR_77⟩, by exact dR_77⟩⟩
theorem ey_47n (N : Nat) : ∀ {m0 m : Mm} {x1 : Int} (_ : RX m0 m) (_ : rg x1) (_ : 0 ≤ x1 ∧ x1 ≤ 7) (_ : x1 = 7 → ¬ rd m 19 5 = 0) (_ : Int.toNat (8 - x1) ≤ N), CV (3 * N + 3) 47 [.ref 19, iv x1] m (fun m2 => RX m0 m2 ∧ (((suP m m2 x1) ∧ (suF m m2)) ∧ (eqE m m2 x1 allO topS))) := by
  induction N with
  | zero => intros; omega
  | succ N ih =>
    intro m0 m x1 g r p0 p1 hN
    exact CV.mono (ey_47s (D := 3 * N + 3) (by omega) (fun g2 r2 q0 q1 q2 => ih g2 r2 q0 q1 (by omega)) g r p0 p1) (by omega) (fun _ h => h)
theorem ey_47 {m0 m : Mm} {x1 : Int} (g : RX m0 m) (r : rg x1) (p0 : 0 ≤ x1 ∧ x1 ≤ 7) (p1 : x1 = 7 → ¬ rd m 19 5 = 0) : CV 33 47 [.ref 19, iv x1] m (fun m2 => RX m0 m2 ∧ (((suP m m2 x1) ∧ (suF m m2)) ∧ (eqE m m2 x1 allO topS))) :=
  CV.mono (ey_47n 8 g r p0 p1 (by omega)) (by omega) (fun _ h => h)
