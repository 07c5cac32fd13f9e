/-- a State is of the text in place -/
def okS (m : Mm) (a : Nat) : Prop := rd m a 4 = rd m 7 3 ∧ okC m a
theorem okS_G {m0 m : Mm} (h : okS m0 274) (g : G m0 m) : okS m 274 := by
  refine ⟨?_, okC_fr h.2 (fun i c hi => g.2.1 i c ?_)⟩
  · rw [g.2.1 274 4 rfl, g.2.1 7 3 rfl]; exact h.1
  · have : i = 274 ∨ i = 275 ∨ i = 276 ∨ i = 277 ∨ i = 278 := by omega
    rcases this with rfl | rfl | rfl | rfl | rfl <;> rfl
theorem okC_st {m m2 : Mm} {a b : Nat} (h : stEq m2 a m b) (o : okC m b) (h3 : rd m b 4 ≤ 3) : okC m2 a := by
  have e := h.2.2.2.2.1
  refine ⟨fun c hc => ?_, fun k hk => ?_⟩
  · rw [h.2.1 c (by omega)]; exact o.1 c (by omega)
  · rw [h.2.2.1 k (by omega)]; exact o.2 k (by omega)
theorem in_sA279 (i j : Nat) (h : sA 279 i j = true) : scr i j = true := by
  have q := sA_in h
  have : i = 279 ∨ i = 280 ∨ i = 281 ∨ i = 282 ∨ i = 283 := by omega
  rcases this with rfl | rfl | rfl | rfl | rfl <;> rfl
theorem in_sT279 (i j : Nat) (h : sT 279 i j = true) : scr i j = true := by
  by_cases h1 : i = 12
  · rw [h1]; rfl
  · by_cases h2 : i = 15
    · rw [h2]; rfl
    · by_cases h3 : i < 279 ∨ 283 < i
      · rw [sT_no h1 h2 (by omega)] at h; cases h
      · have : i = 279 ∨ i = 280 ∨ i = 281 ∨ i = 282 ∨ i = 283 := by omega
        rcases this with rfl | rfl | rfl | rfl | rfl <;> rfl
-- TippedCrates.canAskRows(III)Z
set_option maxRecDepth 20000 in
theorem ct_161 {m : Mm} {x1 : Int} {x2 : Int} {x3 : Int}  (T_m : Ty m) (r_x1 : rg x1) (r_x2 : rg x2) (r_x3 : rg x3)  : CK 3 161 [.ref 0, iv x1, iv x2, iv x3] m (fun m2 v => m2 = m ∧ ((v = 1 ∧ 0 ≤ x1 ∧ x1 ≤ rd m 49 0 ∧ 0 ≤ x2 ∧ x2 ≤ rd m 7 3 - 1 ∧ 1 ≤ x3 ∧ x3 ≤ 5) ∨ v = 0)) := by
  refine br_161 r_x1 r_x2 r_x3 ?_
  unfold P_161
  have t1 := ty_49_0 T_m
  refine CK.mono (ct_166   r_x1 (by unfold rg; decide) (rd_rg _ _ _)) (by decide) ?_
  rintro m9 v9 r_v9 ⟨e_m9, h_m9⟩
  replace e_m9 := e_m9.symm
  subst e_m9
  refine ⟨fun s0_37 m_37 => m_37 = m ∧ ((s0_37 = 1 ∧ 0 ≤ x1 ∧ x1 ≤ rd m 49 0 ∧ 0 ≤ x2 ∧ x2 ≤ rd m 7 3 - 1 ∧ 1 ≤ x3 ∧ x3 ≤ 5) ∨ s0_37 = 0), ?_, ?_⟩
  · skip
    refine ⟨fun m_36 => m_36 = m ∧ (True), ?_, ?_⟩
    · skip
      refine ⟨fun hq => ?_, fun hq => ?_⟩
      · skip
        exact ⟨rfl, by first | trivial | omega | (refine ⟨?_, ?_⟩ <;> omega)⟩
      · skip
        refine CK.mono (ct_162   T_m r_x2) (by decide) ?_
        rintro m17 v17 r_v17 ⟨e_m17, h_m17⟩
        replace e_m17 := e_m17.symm
        subst e_m17
        refine ⟨fun hq => ?_, fun hq => ?_⟩
        · skip
          exact ⟨rfl, by first | trivial | omega | (refine ⟨?_, ?_⟩ <;> omega)⟩
        · skip
          refine CK.mono (ct_166   r_x3 (by unfold rg; decide) (by unfold rg; decide)) (by decide) ?_
          rintro m26 v26 r_v26 ⟨e_m26, h_m26⟩
          replace e_m26 := e_m26.symm
          subst e_m26
          refine ⟨fun hq => ?_, fun hq => ?_⟩
          · skip
            exact ⟨rfl, by first | trivial | omega | (refine ⟨?_, ?_⟩ <;> omega)⟩
          · skip
            exact ⟨rfl, by first | trivial | omega | (refine ⟨?_, ?_⟩ <;> omega)⟩
    · intro m_36  hR_36
      obtain ⟨e_m_36, hR_36⟩ := hR_36
      replace e_m_36 := e_m_36.symm
      subst e_m_36
      exact ⟨rfl, by first | trivial | omega | (refine ⟨?_, ?_⟩ <;> omega)⟩
  · intro s0_37 m_37 r_s0_37 hR_37
    obtain ⟨e_m_37, hR_37⟩ := hR_37
    replace e_m_37 := e_m_37.symm
    subst e_m_37
    exact ⟨by omega, ⟨rfl, by first | trivial | omega | (refine ⟨?_, ?_⟩ <;> omega)⟩⟩
-- TippedCrates.fewest(IIII)I
set_option maxRecDepth 20000 in
theorem ct_133 {m0 m : Mm} {x1 : Int} {x2 : Int} {x3 : Int} {x4 : Int}  (g_m : G m0 m) (r_x1 : rg x1) (r_x2 : rg x2) (r_x3 : rg x3) (r_x4 : rg x4) (p0 : okS m 274) : CK 3 133 [.ref 0, iv x1, iv x2, iv x3, iv x4] m (fun m2 v => G m0 m2 ∧ (True)) := by
  refine br_133 r_x1 r_x2 r_x3 r_x4 ?_
  unfold P_133
  have ok := p0
  have okn := p0.1
  have t73 := ty_7_3 g_m.1
  refine CK.mono (ct_162   g_m.1 r_x1) (by decide) ?_
  rintro m2 v2 r_v2 ⟨e_m2, h_m2⟩
  replace e_m2 := e_m2.symm
  subst e_m2
  refine ⟨fun m_23 => G m0 m_23 ∧ (True), ?_, ?_⟩
  · skip
    refine ⟨fun hq => ?_, fun hq => ?_⟩
    · skip
      exact ⟨g_m, by first | trivial | omega | (refine ⟨?_, ?_⟩ <;> omega)⟩
    · skip
      refine CK.mono (ct_163   g_m.1 r_x2) (by decide) ?_
      rintro m10 v10 r_v10 ⟨e_m10, h_m10⟩
      replace e_m10 := e_m10.symm
      subst e_m10
      refine ⟨fun hq => ?_, fun hq => ?_⟩
      · skip
        exact ⟨g_m, by first | trivial | omega | (refine ⟨?_, ?_⟩ <;> omega)⟩
      · skip
        refine CK.mono (ct_164   r_x3) (by decide) ?_
        rintro m17 v17 r_v17 ⟨e_m17, h_m17⟩
        replace e_m17 := e_m17.symm
        subst e_m17
        refine ⟨fun hq => ?_, fun hq => ?_⟩
        · skip
          refine CV.mono (ct_70   g_m st_274 r_x1 (by omega) (ok.2.1 _ (by omega)) (fun k hk => ok.2.2 _ (by omega))) (by decide) ?_
          rintro m34 ⟨g_m34, h_m34⟩
          refine CV.mono (ct_105   g_m34) (by decide) ?_
          rintro m41 ⟨g_m41, h_m41⟩
          refine CK.mono (ct_107   g_m41.1 r_x2 r_x3) (by decide) ?_
          rintro m54 v54 r_v54 ⟨e_m54, h_m54⟩
          replace e_m54 := e_m54.symm
          subst e_m54
          refine CK.mono (ct_108   g_m41.1 r_v54 r_x4 (by omega)) (by decide) ?_
          rintro m59 v59 r_v59 ⟨e_m59, h_m59⟩
          replace e_m59 := e_m59.symm
          subst e_m59
          exact ⟨g_m41, by first | trivial | omega | (refine ⟨?_, ?_⟩ <;> omega)⟩
        · skip
          exact ⟨g_m, by first | trivial | omega | (refine ⟨?_, ?_⟩ <;> omega)⟩
  · intro m_23  hR_23
    obtain ⟨g_m_23, hR_23⟩ := hR_23
    exact ⟨g_m_23, by first | trivial | omega | (refine ⟨?_, ?_⟩ <;> omega)⟩
-- TippedCrates.cheapest(II)I
set_option maxRecDepth 20000 in
theorem ct_134 {m0 m : Mm} {x1 : Int} {x2 : Int}  (g_m : G m0 m) (r_x1 : rg x1) (r_x2 : rg x2) (p0 : okS m 274) (p1 : lwOk m0 11) : CK 5 134 [.ref 0, iv x1, iv x2] m (fun m2 v => G m0 m2 ∧ (True)) := by
  refine br_134 r_x1 r_x2 ?_
  unfold P_134
  have ok := p0
  have okn := p0.1
  have t73 := ty_7_3 g_m.1
  refine CK.mono (ct_162   g_m.1 r_x1) (by decide) ?_
  rintro m2 v2 r_v2 ⟨e_m2, h_m2⟩
  replace e_m2 := e_m2.symm
  subst e_m2
  refine ⟨fun m_16 => G m0 m_16 ∧ (True), ?_, ?_⟩
  · skip
    refine ⟨fun hq => ?_, fun hq => ?_⟩
    · skip
      exact ⟨g_m, by first | trivial | omega | (refine ⟨?_, ?_⟩ <;> omega)⟩
    · skip
      refine CK.mono (ct_163   g_m.1 r_x2) (by decide) ?_
      rintro m10 v10 r_v10 ⟨e_m10, h_m10⟩
      replace e_m10 := e_m10.symm
      subst e_m10
      refine ⟨fun hq => ?_, fun hq => ?_⟩
      · skip
        refine CV.mono (ct_70   g_m st_274 r_x1 (by omega) (ok.2.1 _ (by omega)) (fun k hk => ok.2.2 _ (by omega))) (by decide) ?_
        rintro m27 ⟨g_m27, h_m27⟩
        refine CK.mono (ct_115   g_m27 st_274 r_x1 r_x2 (by omega) p1) (by decide) ?_
        rintro m40 v40 r_v40 ⟨g_m40, h_m40⟩
        exact ⟨g_m40, by first | trivial | omega | (refine ⟨?_, ?_⟩ <;> omega)⟩
      · skip
        exact ⟨g_m, by first | trivial | omega | (refine ⟨?_, ?_⟩ <;> omega)⟩
  · intro m_16  hR_16
    obtain ⟨g_m_16, hR_16⟩ := hR_16
    exact ⟨g_m_16, by first | trivial | omega | (refine ⟨?_, ?_⟩ <;> omega)⟩
-- TippedCrates.never(II)I
set_option maxRecDepth 20000 in
theorem ct_135 {m0 m : Mm} {x1 : Int} {x2 : Int}  (g_m : G m0 m) (r_x1 : rg x1) (r_x2 : rg x2) (p0 : okS m 274) : CK 3 135 [.ref 0, iv x1, iv x2] m (fun m2 v => G m0 m2 ∧ (True)) := by
  refine br_135 r_x1 r_x2 ?_
  unfold P_135
  have ok := p0
  have okn := p0.1
  have t73 := ty_7_3 g_m.1
  refine CK.mono (ct_162   g_m.1 r_x1) (by decide) ?_
  rintro m2 v2 r_v2 ⟨e_m2, h_m2⟩
  replace e_m2 := e_m2.symm
  subst e_m2
  refine ⟨fun m_15 => G m0 m_15 ∧ (True), ?_, ?_⟩
  · skip
    refine ⟨fun hq => ?_, fun hq => ?_⟩
    · skip
      exact ⟨g_m, by first | trivial | omega | (refine ⟨?_, ?_⟩ <;> omega)⟩
    · skip
      refine CK.mono (ct_164   r_x2) (by decide) ?_
      rintro m9 v9 r_v9 ⟨e_m9, h_m9⟩
      replace e_m9 := e_m9.symm
      subst e_m9
      refine ⟨fun hq => ?_, fun hq => ?_⟩
      · skip
        refine CV.mono (ct_70   g_m st_274 r_x1 (by omega) (ok.2.1 _ (by omega)) (fun k hk => ok.2.2 _ (by omega))) (by decide) ?_
        rintro m26 ⟨g_m26, h_m26⟩
        refine CV.mono (ct_105   g_m26) (by decide) ?_
        rintro m33 ⟨g_m33, h_m33⟩
        refine CK.mono (ct_32   ) (by decide) ?_
        rintro m40 v40 r_v40 ⟨e_m40, h_m40⟩
        replace e_m40 := e_m40.symm
        subst e_m40
        refine CK.mono (ct_109   g_m33.1 r_x2) (by decide) ?_
        rintro m48 v48 r_v48 ⟨e_m48, h_m48⟩
        replace e_m48 := e_m48.symm
        subst e_m48
        exact ⟨g_m33, by first | trivial | omega | (refine ⟨?_, ?_⟩ <;> omega)⟩
      · skip
        exact ⟨g_m, by first | trivial | omega | (refine ⟨?_, ?_⟩ <;> omega)⟩
  · intro m_15  hR_15
    obtain ⟨g_m_15, hR_15⟩ := hR_15
    exact ⟨g_m_15, by first | trivial | omega | (refine ⟨?_, ?_⟩ <;> omega)⟩
-- TippedCrates.nearest(III)I
set_option maxRecDepth 20000 in
theorem ct_136 {m0 m : Mm} {x1 : Int} {x2 : Int} {x3 : Int}  (g_m : G m0 m) (r_x1 : rg x1) (r_x2 : rg x2) (r_x3 : rg x3) (p0 : okS m 274) : CK 3 136 [.ref 0, iv x1, iv x2, iv x3] m (fun m2 v => G m0 m2 ∧ (True)) := by
  refine br_136 r_x1 r_x2 r_x3 ?_
  unfold P_136
  have ok := p0
  have okn := p0.1
  have t73 := ty_7_3 g_m.1
  refine CK.mono (ct_162   g_m.1 r_x1) (by decide) ?_
  rintro m2 v2 r_v2 ⟨e_m2, h_m2⟩
  replace e_m2 := e_m2.symm
  subst e_m2
  refine ⟨fun m_24 => G m0 m_24 ∧ (True), ?_, ?_⟩
  · skip
    refine ⟨fun hq => ?_, fun hq => ?_⟩
    · skip
      exact ⟨g_m, by first | trivial | omega | (refine ⟨?_, ?_⟩ <;> omega)⟩
    · skip
      refine CK.mono (ct_164   r_x2) (by decide) ?_
      rintro m9 v9 r_v9 ⟨e_m9, h_m9⟩
      replace e_m9 := e_m9.symm
      subst e_m9
      refine ⟨fun hq => ?_, fun hq => ?_⟩
      · skip
        exact ⟨g_m, by first | trivial | omega | (refine ⟨?_, ?_⟩ <;> omega)⟩
      · skip
        refine CK.mono (ct_166   r_x3 (by unfold rg; decide) (by unfold rg; decide)) (by decide) ?_
        rintro m18 v18 r_v18 ⟨e_m18, h_m18⟩
        replace e_m18 := e_m18.symm
        subst e_m18
        refine ⟨fun hq => ?_, fun hq => ?_⟩
        · skip
          refine CV.mono (ct_70   g_m st_274 r_x1 (by omega) (ok.2.1 _ (by omega)) (fun k hk => ok.2.2 _ (by omega))) (by decide) ?_
          rintro m35 ⟨g_m35, h_m35⟩
          refine CV.mono (ct_105   g_m35) (by decide) ?_
          rintro m42 ⟨g_m42, h_m42⟩
          refine CK.mono (ct_110   g_m42.1 r_x2 r_x3) (by decide) ?_
          rintro m51 v51 r_v51 ⟨e_m51, h_m51⟩
          replace e_m51 := e_m51.symm
          subst e_m51
          exact ⟨g_m42, by first | trivial | omega | (refine ⟨?_, ?_⟩ <;> omega)⟩
        · skip
          exact ⟨g_m, by first | trivial | omega | (refine ⟨?_, ?_⟩ <;> omega)⟩
  · intro m_24  hR_24
    obtain ⟨g_m_24, hR_24⟩ := hR_24
    exact ⟨g_m_24, by first | trivial | omega | (refine ⟨?_, ?_⟩ <;> omega)⟩
-- TippedCrates.spots(I)I
set_option maxRecDepth 20000 in
theorem ct_137 {m0 m : Mm} {x1 : Int}  (g_m : G m0 m) (r_x1 : rg x1) (p0 : okS m 274) : CK 3 137 [.ref 0, iv x1] m (fun m2 v => G m0 m2 ∧ (True)) := by
  refine br_137 r_x1 ?_
  unfold P_137
  have ok := p0
  have okn := p0.1
  have t73 := ty_7_3 g_m.1
  refine CK.mono (ct_162   g_m.1 r_x1) (by decide) ?_
  rintro m2 v2 r_v2 ⟨e_m2, h_m2⟩
  replace e_m2 := e_m2.symm
  subst e_m2
  refine ⟨fun hq => ?_, fun hq => ?_⟩
  · skip
    refine CV.mono (ct_70   g_m st_274 r_x1 (by omega) (ok.2.1 _ (by omega)) (fun k hk => ok.2.2 _ (by omega))) (by decide) ?_
    rintro m19 ⟨g_m19, h_m19⟩
    refine CV.mono (ct_105   g_m19) (by decide) ?_
    rintro m26 ⟨g_m26, h_m26⟩
    have t1 := ty_39_0 g_m26.1
    exact ⟨g_m26, by first | trivial | omega | (refine ⟨?_, ?_⟩ <;> omega)⟩
  · skip
    exact ⟨g_m, by first | trivial | omega | (refine ⟨?_, ?_⟩ <;> omega)⟩
-- TippedCrates.round(II)I
set_option maxRecDepth 20000 in
theorem ct_138 {m0 m : Mm} {x1 : Int} {x2 : Int}  (g_m : G m0 m) (r_x1 : rg x1) (r_x2 : rg x2) (p0 : okS m 274) : CK 3 138 [.ref 0, iv x1, iv x2] m (fun m2 v => G m0 m2 ∧ (True)) := by
  refine br_138 r_x1 r_x2 ?_
  unfold P_138
  have ok := p0
  have okn := p0.1
  have t73 := ty_7_3 g_m.1
  refine CK.mono (ct_162   g_m.1 r_x1) (by decide) ?_
  rintro m2 v2 r_v2 ⟨e_m2, h_m2⟩
  replace e_m2 := e_m2.symm
  subst e_m2
  refine ⟨fun m_17 => G m0 m_17 ∧ (True), ?_, ?_⟩
  · skip
    refine ⟨fun hq => ?_, fun hq => ?_⟩
    · skip
      exact ⟨g_m, by first | trivial | omega | (refine ⟨?_, ?_⟩ <;> omega)⟩
    · skip
      refine CK.mono (ct_166   r_x2 (by unfold rg; decide) (by unfold rg; decide)) (by decide) ?_
      rintro m11 v11 r_v11 ⟨e_m11, h_m11⟩
      replace e_m11 := e_m11.symm
      subst e_m11
      refine ⟨fun hq => ?_, fun hq => ?_⟩
      · skip
        refine CV.mono (ct_70   g_m st_274 r_x1 (by omega) (ok.2.1 _ (by omega)) (fun k hk => ok.2.2 _ (by omega))) (by decide) ?_
        rintro m28 ⟨g_m28, h_m28⟩
        refine CV.mono (ct_105   g_m28) (by decide) ?_
        rintro m35 ⟨g_m35, h_m35⟩
        refine ⟨fun s0_59 m_59 => G m0 m_59 ∧ (True), ?_, ?_⟩
        · skip
          refine ⟨fun hq => ?_, fun hq => ?_⟩
          · skip
            refine CK.mono (ct_112   g_m35.1) (by decide) ?_
            rintro m56 v56 r_v56 ⟨e_m56, h_m56⟩
            replace e_m56 := e_m56.symm
            subst e_m56
            exact ⟨g_m35, by first | trivial | omega | (refine ⟨?_, ?_⟩ <;> omega)⟩
          · skip
            refine CK.mono (ct_111   g_m35.1) (by decide) ?_
            rintro m46 v46 r_v46 ⟨e_m46, h_m46⟩
            replace e_m46 := e_m46.symm
            subst e_m46
            exact ⟨g_m35, by first | trivial | omega | (refine ⟨?_, ?_⟩ <;> omega)⟩
        · intro s0_59 m_59 r_s0_59 hR_59
          obtain ⟨g_m_59, hR_59⟩ := hR_59
          exact ⟨g_m_59, by first | trivial | omega | (refine ⟨?_, ?_⟩ <;> omega)⟩
      · skip
        exact ⟨g_m, by first | trivial | omega | (refine ⟨?_, ?_⟩ <;> omega)⟩
  · intro m_17  hR_17
    obtain ⟨g_m_17, hR_17⟩ := hR_17
    exact ⟨g_m_17, by first | trivial | omega | (refine ⟨?_, ?_⟩ <;> omega)⟩
-- TippedCrates.richest(III)I
set_option maxRecDepth 20000 in
theorem ct_139 {m0 m : Mm} {x1 : Int} {x2 : Int} {x3 : Int}  (g_m : G m0 m) (r_x1 : rg x1) (r_x2 : rg x2) (r_x3 : rg x3) (p0 : okS m 274) : CK 4 139 [.ref 0, iv x1, iv x2, iv x3] m (fun m2 v => G m0 m2 ∧ (True)) := by
  refine br_139 r_x1 r_x2 r_x3 ?_
  unfold P_139
  have ok := p0
  have okn := p0.1
  have t73 := ty_7_3 g_m.1
  refine CK.mono (ct_162   g_m.1 r_x1) (by decide) ?_
  rintro m2 v2 r_v2 ⟨e_m2, h_m2⟩
  replace e_m2 := e_m2.symm
  subst e_m2
  refine ⟨fun m_27 => G m0 m_27 ∧ (True), ?_, ?_⟩
  · skip
    refine ⟨fun hq => ?_, fun hq => ?_⟩
    · skip
      exact ⟨g_m, by first | trivial | omega | (refine ⟨?_, ?_⟩ <;> omega)⟩
    · skip
      refine CK.mono (ct_166   r_x2 (by unfold rg; decide) (by unfold rg; decide)) (by decide) ?_
      rintro m12 v12 r_v12 ⟨e_m12, h_m12⟩
      replace e_m12 := e_m12.symm
      subst e_m12
      refine ⟨fun hq => ?_, fun hq => ?_⟩
      · skip
        exact ⟨g_m, by first | trivial | omega | (refine ⟨?_, ?_⟩ <;> omega)⟩
      · skip
        refine CK.mono (ct_166   r_x3 (by unfold rg; decide) (by unfold rg; decide)) (by decide) ?_
        rintro m21 v21 r_v21 ⟨e_m21, h_m21⟩
        replace e_m21 := e_m21.symm
        subst e_m21
        refine ⟨fun hq => ?_, fun hq => ?_⟩
        · skip
          refine CV.mono (ct_70   g_m st_274 r_x1 (by omega) (ok.2.1 _ (by omega)) (fun k hk => ok.2.2 _ (by omega))) (by decide) ?_
          rintro m38 ⟨g_m38, h_m38⟩
          refine CK.mono (ct_119   g_m38 r_x2 r_x3 (by omega)) (by decide) ?_
          rintro m47 v47 r_v47 ⟨g_m47, h_m47⟩
          exact ⟨g_m47, by first | trivial | omega | (refine ⟨?_, ?_⟩ <;> omega)⟩
        · skip
          exact ⟨g_m, by first | trivial | omega | (refine ⟨?_, ?_⟩ <;> omega)⟩
  · intro m_27  hR_27
    obtain ⟨g_m_27, hR_27⟩ := hR_27
    exact ⟨g_m_27, by first | trivial | omega | (refine ⟨?_, ?_⟩ <;> omega)⟩
-- TippedCrates.spell(III)I
set_option maxRecDepth 20000 in
theorem ct_140 {m0 m : Mm} {x1 : Int} {x2 : Int} {x3 : Int}  (g_m : G m0 m) (r_x1 : rg x1) (r_x2 : rg x2) (r_x3 : rg x3) (p0 : okS m 274) : CK 12 140 [.ref 0, iv x1, iv x2, iv x3] m (fun m2 v => G m0 m2 ∧ (True)) := by
  refine br_140 r_x1 r_x2 r_x3 ?_
  unfold P_140
  have ok := p0
  have okn := p0.1
  have t73 := ty_7_3 g_m.1
  refine CK.mono (ct_162   g_m.1 r_x1) (by decide) ?_
  rintro m2 v2 r_v2 ⟨e_m2, h_m2⟩
  replace e_m2 := e_m2.symm
  subst e_m2
  refine ⟨fun m_18 => G m0 m_18 ∧ (True), ?_, ?_⟩
  · skip
    refine ⟨fun hq => ?_, fun hq => ?_⟩
    · skip
      exact ⟨g_m, by first | trivial | omega | (refine ⟨?_, ?_⟩ <;> omega)⟩
    · skip
      refine CK.mono (ct_166   r_x3 (by unfold rg; decide) (by unfold rg; decide)) (by decide) ?_
      rintro m12 v12 r_v12 ⟨e_m12, h_m12⟩
      replace e_m12 := e_m12.symm
      subst e_m12
      refine ⟨fun hq => ?_, fun hq => ?_⟩
      · skip
        refine ⟨True, ?_, ?_⟩
        · skip
          refine ⟨fun hq => ?_, fun hq => ?_⟩
          · skip
            (first | trivial | omega | (refine ⟨?_, ?_⟩ <;> omega))
          · skip
            refine ⟨⟨by omega, by omega⟩, ?_⟩
            have sxf1 := sx_4 (j := x3) ⟨by omega, by omega⟩
            refine ⟨fun hq => ?_, fun hq => ?_⟩
            · skip
              refine CV.mono (ct_70   g_m st_274 r_x1 (by omega) (ok.2.1 _ (by omega)) (fun k hk => ok.2.2 _ (by omega))) (by decide) ?_
              rintro m44 ⟨g_m44, h_m44⟩
              refine CK.mono (ct_64   g_m44.1 r_x2 r_x3 (by omega)) (by decide) ?_
              rintro m53 v53 r_v53 ⟨e_m53, h_m53⟩
              replace e_m53 := e_m53.symm
              subst e_m53
              exact ⟨g_m44, by first | trivial | omega | (refine ⟨?_, ?_⟩ <;> omega)⟩
            · skip
              (first | trivial | omega | (refine ⟨?_, ?_⟩ <;> omega))
        · intro   hR_33
          exact ⟨g_m, by first | trivial | omega | (refine ⟨?_, ?_⟩ <;> omega)⟩
      · skip
        exact ⟨g_m, by first | trivial | omega | (refine ⟨?_, ?_⟩ <;> omega)⟩
  · intro m_18  hR_18
    obtain ⟨g_m_18, hR_18⟩ := hR_18
    exact ⟨g_m_18, by first | trivial | omega | (refine ⟨?_, ?_⟩ <;> omega)⟩
-- TippedCrates.game(III)I
set_option maxRecDepth 20000 in
theorem ct_141 {m0 m : Mm} {x1 : Int} {x2 : Int} {x3 : Int}  (g_m : G m0 m) (r_x1 : rg x1) (r_x2 : rg x2) (r_x3 : rg x3) (p0 : okS m 274) : CK 12 141 [.ref 0, iv x1, iv x2, iv x3] m (fun m2 v => G m0 m2 ∧ (True)) := by
  refine br_141 r_x1 r_x2 r_x3 ?_
  unfold P_141
  have ok := p0
  have okn := p0.1
  have t73 := ty_7_3 g_m.1
  refine CK.mono (ct_162   g_m.1 r_x1) (by decide) ?_
  rintro m2 v2 r_v2 ⟨e_m2, h_m2⟩
  replace e_m2 := e_m2.symm
  subst e_m2
  refine ⟨fun m_27 => G m0 m_27 ∧ (True), ?_, ?_⟩
  · skip
    refine ⟨fun hq => ?_, fun hq => ?_⟩
    · skip
      exact ⟨g_m, by first | trivial | omega | (refine ⟨?_, ?_⟩ <;> omega)⟩
    · skip
      refine CK.mono (ct_166   r_x2 (by unfold rg; decide) (by unfold rg; decide)) (by decide) ?_
      rintro m12 v12 r_v12 ⟨e_m12, h_m12⟩
      replace e_m12 := e_m12.symm
      subst e_m12
      refine ⟨fun hq => ?_, fun hq => ?_⟩
      · skip
        exact ⟨g_m, by first | trivial | omega | (refine ⟨?_, ?_⟩ <;> omega)⟩
      · skip
        refine CK.mono (ct_166   r_x3 (by unfold rg; decide) (by unfold rg; decide)) (by decide) ?_
        rintro m21 v21 r_v21 ⟨e_m21, h_m21⟩
        replace e_m21 := e_m21.symm
        subst e_m21
        refine ⟨fun hq => ?_, fun hq => ?_⟩
        · skip
          refine CV.mono (ct_70   g_m st_274 r_x1 (by omega) (ok.2.1 _ (by omega)) (fun k hk => ok.2.2 _ (by omega))) (by decide) ?_
          rintro m38 ⟨g_m38, h_m38⟩
          refine CK.mono (ct_66   g_m38.1 r_x2 (by omega)) (by decide) ?_
          rintro m46 v46 r_v46 ⟨e_m46, h_m46⟩
          replace e_m46 := e_m46.symm
          subst e_m46
          refine ⟨fun s0_70 m_70 => G m0 m_70 ∧ (True), ?_, ?_⟩
          · skip
            refine ⟨fun hq => ?_, fun hq => ?_⟩
            · skip
              refine CK.mono (ct_67   g_m38.1 r_v46 r_x2 (by omega)) (by decide) ?_
              rintro m67 v67 r_v67 ⟨e_m67, h_m67⟩
              replace e_m67 := e_m67.symm
              subst e_m67
              exact ⟨g_m38, by first | trivial | omega | (refine ⟨?_, ?_⟩ <;> omega)⟩
            · skip
              exact ⟨g_m38, by first | trivial | omega | (refine ⟨?_, ?_⟩ <;> omega)⟩
          · intro s0_70 m_70 r_s0_70 hR_70
            obtain ⟨g_m_70, hR_70⟩ := hR_70
            exact ⟨g_m_70, by first | trivial | omega | (refine ⟨?_, ?_⟩ <;> omega)⟩
        · skip
          exact ⟨g_m, by first | trivial | omega | (refine ⟨?_, ?_⟩ <;> omega)⟩
  · intro m_27  hR_27
    obtain ⟨g_m_27, hR_27⟩ := hR_27
    exact ⟨g_m_27, by first | trivial | omega | (refine ⟨?_, ?_⟩ <;> omega)⟩
-- TippedCrates.tops(I)I
set_option maxRecDepth 20000 in
theorem ct_142 {m0 m : Mm} {x1 : Int}  (g_m : G m0 m) (r_x1 : rg x1) (p0 : okS m 274) : CK 3 142 [.ref 0, iv x1] m (fun m2 v => G m0 m2 ∧ (True)) := by
  refine br_142 r_x1 ?_
  unfold P_142
  have ok := p0
  have okn := p0.1
  have t73 := ty_7_3 g_m.1
  refine CK.mono (ct_162   g_m.1 r_x1) (by decide) ?_
  rintro m2 v2 r_v2 ⟨e_m2, h_m2⟩
  replace e_m2 := e_m2.symm
  subst e_m2
  refine ⟨fun hq => ?_, fun hq => ?_⟩
  · skip
    refine CV.mono (ct_70   g_m st_274 r_x1 (by omega) (ok.2.1 _ (by omega)) (fun k hk => ok.2.2 _ (by omega))) (by decide) ?_
    rintro m19 ⟨g_m19, h_m19⟩
    refine CV.mono (ct_105   g_m19) (by decide) ?_
    rintro m26 ⟨g_m26, h_m26⟩
    refine CK.mono (ct_113   g_m26.1) (by decide) ?_
    rintro m33 v33 r_v33 ⟨e_m33, h_m33⟩
    replace e_m33 := e_m33.symm
    subst e_m33
    exact ⟨g_m26, by first | trivial | omega | (refine ⟨?_, ?_⟩ <;> omega)⟩
  · skip
    exact ⟨g_m, by first | trivial | omega | (refine ⟨?_, ?_⟩ <;> omega)⟩
-- TippedCrates.beside(II)I
set_option maxRecDepth 20000 in
theorem ct_143 {m0 m : Mm} {x1 : Int} {x2 : Int}  (g_m : G m0 m) (r_x1 : rg x1) (r_x2 : rg x2) (p0 : okS m 274) : CK 3 143 [.ref 0, iv x1, iv x2] m (fun m2 v => G m0 m2 ∧ (True)) := by
  refine br_143 r_x1 r_x2 ?_
  unfold P_143
  have ok := p0
  have okn := p0.1
  have t73 := ty_7_3 g_m.1
  refine CK.mono (ct_162   g_m.1 r_x1) (by decide) ?_
  rintro m2 v2 r_v2 ⟨e_m2, h_m2⟩
  replace e_m2 := e_m2.symm
  subst e_m2
  refine ⟨fun m_21 => G m0 m_21 ∧ (True), ?_, ?_⟩
  · skip
    refine ⟨fun hq => ?_, fun hq => ?_⟩
    · skip
      exact ⟨g_m, by first | trivial | omega | (refine ⟨?_, ?_⟩ <;> omega)⟩
    · skip
      refine CK.mono (ct_162   g_m.1 r_x2) (by decide) ?_
      rintro m10 v10 r_v10 ⟨e_m10, h_m10⟩
      replace e_m10 := e_m10.symm
      subst e_m10
      refine ⟨fun hq => ?_, fun hq => ?_⟩
      · skip
        exact ⟨g_m, by first | trivial | omega | (refine ⟨?_, ?_⟩ <;> omega)⟩
      · skip
        refine ⟨fun hq => ?_, fun hq => ?_⟩
        · skip
          refine CV.mono (ct_70   g_m st_274 r_x1 (by omega) (ok.2.1 _ (by omega)) (fun k hk => ok.2.2 _ (by omega))) (by decide) ?_
          rintro m32 ⟨g_m32, h_m32⟩
          refine CV.mono (ct_105   g_m32) (by decide) ?_
          rintro m39 ⟨g_m39, h_m39⟩
          refine ⟨⟨by omega, by omega⟩, ?_⟩
          have t1 := ty_sF g_m39.1 st_274 (Int.toNat x2)
          refine CK.mono (ct_114   g_m39.1 (rd_rg _ _ _)) (by decide) ?_
          rintro m55 v55 r_v55 ⟨e_m55, h_m55⟩
          replace e_m55 := e_m55.symm
          subst e_m55
          exact ⟨g_m39, by first | trivial | omega | (refine ⟨?_, ?_⟩ <;> omega)⟩
        · skip
          exact ⟨g_m, by first | trivial | omega | (refine ⟨?_, ?_⟩ <;> omega)⟩
  · intro m_21  hR_21
    obtain ⟨g_m_21, hR_21⟩ := hR_21
    exact ⟨g_m_21, by first | trivial | omega | (refine ⟨?_, ?_⟩ <;> omega)⟩
-- TippedCrates.rows(IIII)I
set_option maxRecDepth 20000 in
theorem ct_153 {m0 m : Mm} {x1 : Int} {x2 : Int} {x3 : Int} {x4 : Int}  (g_m : G m0 m) (r_x1 : rg x1) (r_x2 : rg x2) (r_x3 : rg x3) (r_x4 : rg x4) (p0 : okS m 274) : CK 12 153 [.ref 0, iv x1, iv x2, iv x3, iv x4] m (fun m2 v => G m0 m2 ∧ (True)) := by
  refine br_153 r_x1 r_x2 r_x3 r_x4 ?_
  unfold P_153
  have ok := p0
  have okn := p0.1
  have t73 := ty_7_3 g_m.1
  have t49 := ty_49_0 g_m.1
  refine CK.mono (ct_161   g_m.1 r_x1 r_x2 r_x3) (by decide) ?_
  rintro m4 v4 r_v4 ⟨e_m4, h_m4⟩
  replace e_m4 := e_m4.symm
  subst e_m4
  refine ⟨fun m_20 => G m0 m_20 ∧ (True), ?_, ?_⟩
  · skip
    refine ⟨fun hq => ?_, fun hq => ?_⟩
    · skip
      exact ⟨g_m, by first | trivial | omega | (refine ⟨?_, ?_⟩ <;> omega)⟩
    · skip
      refine CK.mono (ct_166   r_x4 (by unfold rg; decide) (by unfold rg; decide)) (by decide) ?_
      rintro m14 v14 r_v14 ⟨e_m14, h_m14⟩
      replace e_m14 := e_m14.symm
      subst e_m14
      refine ⟨fun hq => ?_, fun hq => ?_⟩
      · skip
        refine CV.mono (ct_70   g_m st_274 r_x2 (by omega) (ok.2.1 _ (by omega)) (fun k hk => ok.2.2 _ (by omega))) (by decide) ?_
        rintro m31 ⟨g_m31, h_m31⟩
        refine CV.mono (ct_58   g_m31 r_x1 r_x3 (by omega) (by omega)) (by decide) ?_
        rintro m40 ⟨g_m40, h_m40⟩
        refine ⟨fun s0_65 => True, ?_, ?_⟩
        · skip
          refine ⟨fun hq => ?_, fun hq => ?_⟩
          · skip
            (first | trivial | omega | (refine ⟨?_, ?_⟩ <;> omega))
          · skip
            (first | trivial | omega | (refine ⟨?_, ?_⟩ <;> omega))
        · intro s0_65 r_s0_65 hR_65
          exact ⟨g_m40, by first | trivial | omega | (refine ⟨?_, ?_⟩ <;> omega)⟩
      · skip
        exact ⟨g_m, by first | trivial | omega | (refine ⟨?_, ?_⟩ <;> omega)⟩
  · intro m_20  hR_20
    obtain ⟨g_m_20, hR_20⟩ := hR_20
    exact ⟨g_m_20, by first | trivial | omega | (refine ⟨?_, ?_⟩ <;> omega)⟩
-- TippedCrates.listen(III)I
set_option maxRecDepth 20000 in
theorem ct_154 {m0 m : Mm} {x1 : Int} {x2 : Int} {x3 : Int}  (g_m : G m0 m) (r_x1 : rg x1) (r_x2 : rg x2) (r_x3 : rg x3) (p0 : okS m 274) : CK 12 154 [.ref 0, iv x1, iv x2, iv x3] m (fun m2 v => G m0 m2 ∧ (True)) := by
  refine br_154 r_x1 r_x2 r_x3 ?_
  unfold P_154
  have ok := p0
  have okn := p0.1
  have t73 := ty_7_3 g_m.1
  have t49 := ty_49_0 g_m.1
  refine CK.mono (ct_161   g_m.1 r_x1 r_x2 r_x3) (by decide) ?_
  rintro m4 v4 r_v4 ⟨e_m4, h_m4⟩
  replace e_m4 := e_m4.symm
  subst e_m4
  refine ⟨fun hq => ?_, fun hq => ?_⟩
  · skip
    refine CV.mono (ct_70   g_m st_274 r_x2 (by omega) (ok.2.1 _ (by omega)) (fun k hk => ok.2.2 _ (by omega))) (by decide) ?_
    rintro m21 ⟨g_m21, h_m21⟩
    refine CV.mono (ct_58   g_m21 r_x1 r_x3 (by omega) (by omega)) (by decide) ?_
    rintro m30 ⟨g_m30, h_m30⟩
    refine CK.mono (ct_62   g_m30.1 r_x3 (by omega)) (by decide) ?_
    rintro m38 v38 r_v38 ⟨e_m38, h_m38⟩
    replace e_m38 := e_m38.symm
    subst e_m38
    exact ⟨g_m30, by first | trivial | omega | (refine ⟨?_, ?_⟩ <;> omega)⟩
  · skip
    exact ⟨g_m, by first | trivial | omega | (refine ⟨?_, ?_⟩ <;> omega)⟩
-- TippedCrates.alike(II)I
set_option maxRecDepth 20000 in
theorem ct_144 {m0 m : Mm} {x1 : Int} {x2 : Int}  (g_m : G m0 m) (r_x1 : rg x1) (r_x2 : rg x2) (p0 : okS m 274) : CK 3 144 [.ref 0, iv x1, iv x2] m (fun m2 v => G m0 m2 ∧ (True)) := by
  refine br_144 r_x1 r_x2 ?_
  unfold P_144
  have ok := p0
  have okn := p0.1
  have t73 := ty_7_3 g_m.1
  refine CK.mono (ct_162   g_m.1 r_x1) (by decide) ?_
  rintro m2 v2 r_v2 ⟨e_m2, h_m2⟩
  replace e_m2 := e_m2.symm
  subst e_m2
  refine ⟨fun m_16 => G m0 m_16 ∧ (True), ?_, ?_⟩
  · skip
    refine ⟨fun hq => ?_, fun hq => ?_⟩
    · skip
      exact ⟨g_m, by first | trivial | omega | (refine ⟨?_, ?_⟩ <;> omega)⟩
    · skip
      refine CK.mono (ct_162   g_m.1 r_x2) (by decide) ?_
      rintro m10 v10 r_v10 ⟨e_m10, h_m10⟩
      replace e_m10 := e_m10.symm
      subst e_m10
      refine ⟨fun hq => ?_, fun hq => ?_⟩
      · skip
        refine CV.mono (ct_100   g_m (st_3 st_274) r_x1 (by omega) rfl) (by decide) ?_
        rintro m30 ⟨g_m30, h_m30⟩
        refine CK.mono (ct_98   g_m30.1 (st_3 st_274) r_x2 (by unfold rg; decide) (by omega) (by omega) rfl) (by decide) ?_
        rintro m50 v50 r_v50 ⟨e_m50, h_m50⟩
        replace e_m50 := e_m50.symm
        subst e_m50
        refine CK.mono (ct_101   g_m30.1 r_v50) (by decide) ?_
        rintro m53 v53 r_v53 ⟨e_m53, h_m53⟩
        replace e_m53 := e_m53.symm
        subst e_m53
        refine ⟨fun s0_64 => (s0_64 = 0 ∨ s0_64 = 1), ?_, ?_⟩
        · skip
          refine ⟨fun hq => ?_, fun hq => ?_⟩
          · skip
            (first | trivial | omega | (refine ⟨?_, ?_⟩ <;> omega))
          · skip
            (first | trivial | omega | (refine ⟨?_, ?_⟩ <;> omega))
        · intro s0_64 r_s0_64 hR_64
          exact ⟨g_m30, by first | trivial | omega | (refine ⟨?_, ?_⟩ <;> omega)⟩
      · skip
        exact ⟨g_m, by first | trivial | omega | (refine ⟨?_, ?_⟩ <;> omega)⟩
  · intro m_16  hR_16
    obtain ⟨g_m_16, hR_16⟩ := hR_16
    exact ⟨g_m_16, by first | trivial | omega | (refine ⟨?_, ?_⟩ <;> omega)⟩
-- TippedCrates.looks(I)I
set_option maxRecDepth 20000 in
theorem ct_145 {m0 m : Mm} {x1 : Int}  (g_m : G m0 m) (r_x1 : rg x1) (p0 : okS m 274) : CK 3 145 [.ref 0, iv x1] m (fun m2 v => G m0 m2 ∧ (True)) := by
  refine br_145 r_x1 ?_
  unfold P_145
  have ok := p0
  have okn := p0.1
  have t73 := ty_7_3 g_m.1
  refine CK.mono (ct_162   g_m.1 r_x1) (by decide) ?_
  rintro m2 v2 r_v2 ⟨e_m2, h_m2⟩
  replace e_m2 := e_m2.symm
  subst e_m2
  refine ⟨fun hq => ?_, fun hq => ?_⟩
  · skip
    refine CV.mono (ct_100   g_m (st_3 st_274) r_x1 (by omega) rfl) (by decide) ?_
    rintro m22 ⟨g_m22, h_m22⟩
    refine CK.mono (ct_102   g_m22.1) (by decide) ?_
    rintro m29 v29 r_v29 ⟨e_m29, h_m29⟩
    replace e_m29 := e_m29.symm
    subst e_m29
    exact ⟨g_m22, by first | trivial | omega | (refine ⟨?_, ?_⟩ <;> omega)⟩
  · skip
    exact ⟨g_m, by first | trivial | omega | (refine ⟨?_, ?_⟩ <;> omega)⟩
-- TippedCrates.mirror(I)I
set_option maxRecDepth 20000 in
theorem ct_146 {m0 m : Mm} {x1 : Int}  (g_m : G m0 m) (r_x1 : rg x1) (p0 : okS m 274) : CK 3 146 [.ref 0, iv x1] m (fun m2 v => G m0 m2 ∧ (True)) := by
  refine br_146 r_x1 ?_
  unfold P_146
  have ok := p0
  have okn := p0.1
  have t73 := ty_7_3 g_m.1
  refine CK.mono (ct_162   g_m.1 r_x1) (by decide) ?_
  rintro m2 v2 r_v2 ⟨e_m2, h_m2⟩
  replace e_m2 := e_m2.symm
  subst e_m2
  refine ⟨fun hq => ?_, fun hq => ?_⟩
  · skip
    refine CV.mono (ct_100   g_m (st_3 st_274) r_x1 (by omega) rfl) (by decide) ?_
    rintro m22 ⟨g_m22, h_m22⟩
    refine CK.mono (ct_99   g_m22.1 (st_3 st_274) r_x1 (by omega) rfl) (by decide) ?_
    rintro m41 v41 r_v41 ⟨e_m41, h_m41⟩
    replace e_m41 := e_m41.symm
    subst e_m41
    refine CK.mono (ct_101   g_m22.1 r_v41) (by decide) ?_
    rintro m44 v44 r_v44 ⟨e_m44, h_m44⟩
    replace e_m44 := e_m44.symm
    subst e_m44
    refine ⟨fun s0_55 => (s0_55 = 0 ∨ s0_55 = 1), ?_, ?_⟩
    · skip
      refine ⟨fun hq => ?_, fun hq => ?_⟩
      · skip
        (first | trivial | omega | (refine ⟨?_, ?_⟩ <;> omega))
      · skip
        (first | trivial | omega | (refine ⟨?_, ?_⟩ <;> omega))
    · intro s0_55 r_s0_55 hR_55
      exact ⟨g_m22, by first | trivial | omega | (refine ⟨?_, ?_⟩ <;> omega)⟩
  · skip
    exact ⟨g_m, by first | trivial | omega | (refine ⟨?_, ?_⟩ <;> omega)⟩
-- TippedCrates.flag(II)I
set_option maxRecDepth 20000 in
theorem ct_126 {m : Mm} {x1 : Int} {x2 : Int}  (T_m : Ty m) (r_x1 : rg x1) (r_x2 : rg x2)  : CK 3 126 [.ref 0, iv x1, iv x2] m (fun m2 v => m2 = m ∧ (True)) := by
  refine br_126 r_x1 r_x2 ?_
  unfold P_126
  have wb := wh_b (ty_7_0 T_m) (ty_7_1 T_m)
  refine CK.mono (ct_163   T_m r_x1) (by decide) ?_
  rintro m2 v2 r_v2 ⟨e_m2, h_m2⟩
  replace e_m2 := e_m2.symm
  subst e_m2
  refine ⟨fun hq => ?_, fun hq => ?_⟩
  · skip
    refine ⟨fun hq => ?_, fun hq => ?_, fun hq => ?_, fun hq => ?_⟩
    · skip
      refine ⟨⟨by omega, by omega⟩, ?_⟩
      have t1 := ty_sM T_m st_274 (Int.toNat x1)
      exact ⟨rfl, by first | trivial | omega | (refine ⟨?_, ?_⟩ <;> omega)⟩
    · skip
      refine CK.mono (ct_31   r_x1) (by decide) ?_
      rintro m51 v51 r_v51 ⟨e_m51, h_m51⟩
      replace e_m51 := e_m51.symm
      subst e_m51
      refine ⟨fun s0_62 => (s0_62 = 0 ∨ s0_62 = 1), ?_, ?_⟩
      · skip
        refine ⟨fun hq => ?_, fun hq => ?_⟩
        · skip
          (first | trivial | omega | (refine ⟨?_, ?_⟩ <;> omega))
        · skip
          (first | trivial | omega | (refine ⟨?_, ?_⟩ <;> omega))
      · intro s0_62 r_s0_62 hR_62
        exact ⟨rfl, by first | trivial | omega | (refine ⟨?_, ?_⟩ <;> omega)⟩
    · skip
      refine CK.mono (ct_77   T_m st_274 r_x1) (by decide) ?_
      rintro m68 v68 r_v68 ⟨e_m68, h_m68⟩
      replace e_m68 := e_m68.symm
      subst e_m68
      refine ⟨fun s0_83 => True, ?_, ?_⟩
      · skip
        refine ⟨fun hq => ?_, fun hq => ?_⟩
        · skip
          (first | trivial | omega | (refine ⟨?_, ?_⟩ <;> omega))
        · skip
          (first | trivial | omega | (refine ⟨?_, ?_⟩ <;> omega))
      · intro s0_83 r_s0_83 hR_83
        exact ⟨rfl, by first | trivial | omega | (refine ⟨?_, ?_⟩ <;> omega)⟩
    · skip
      exact ⟨rfl, by first | trivial | omega | (refine ⟨?_, ?_⟩ <;> omega)⟩
  · skip
    exact ⟨rfl, by first | trivial | omega | (refine ⟨?_, ?_⟩ <;> omega)⟩
-- TippedCrates.crate(II)I
set_option maxRecDepth 20000 in
theorem ct_127 {m : Mm} {x1 : Int} {x2 : Int}  (T_m : Ty m) (r_x1 : rg x1) (r_x2 : rg x2)  : CK 3 127 [.ref 0, iv x1, iv x2] m (fun m2 v => m2 = m ∧ (True)) := by
  refine br_127 r_x1 r_x2 ?_
  unfold P_127
  have t73 := ty_7_3 T_m
  refine CK.mono (ct_162   T_m r_x1) (by decide) ?_
  rintro m2 v2 r_v2 ⟨e_m2, h_m2⟩
  replace e_m2 := e_m2.symm
  subst e_m2
  refine ⟨fun hq => ?_, fun hq => ?_⟩
  · skip
    refine ⟨fun hq => ?_, fun hq => ?_⟩
    · skip
      refine ⟨fun hq => ?_, fun hq => ?_⟩
      · skip
        refine CK.mono (ct_166   r_x2 (by unfold rg; decide) (by unfold rg; decide)) (by decide) ?_
        rintro m45 v45 r_v45 ⟨e_m45, h_m45⟩
        replace e_m45 := e_m45.symm
        subst e_m45
        refine ⟨fun s0_69 => True, ?_, ?_⟩
        · skip
          refine ⟨fun hq => ?_, fun hq => ?_⟩
          · skip
            (first | trivial | omega | (refine ⟨?_, ?_⟩ <;> omega))
          · skip
            try have w1 : wr (x1 * 6) = x1 * 6 := wr_id (by omega) (by omega)
            try have w2 : wr ((wr (x1 * 6)) + x2) = (wr (x1 * 6)) + x2 := wr_id (by omega) (by omega)
            refine ⟨⟨by omega, by omega⟩, ?_⟩
            have t3 := ty_sC T_m st_274 (Int.toNat (wr ((wr (x1 * 6)) + x2)))
            (first | trivial | omega | (refine ⟨?_, ?_⟩ <;> omega))
        · intro s0_69 r_s0_69 hR_69
          exact ⟨rfl, by first | trivial | omega | (refine ⟨?_, ?_⟩ <;> omega)⟩
      · skip
        refine ⟨⟨by omega, by omega⟩, ?_⟩
        exact ⟨rfl, by first | trivial | omega | (refine ⟨?_, ?_⟩ <;> omega)⟩
    · skip
      refine ⟨⟨by omega, by omega⟩, ?_⟩
      have t5 := ty_sF T_m st_274 (Int.toNat x1)
      exact ⟨rfl, by first | trivial | omega | (refine ⟨?_, ?_⟩ <;> omega)⟩
  · skip
    exact ⟨rfl, by first | trivial | omega | (refine ⟨?_, ?_⟩ <;> omega)⟩
-- TippedCrates.tells(III)I
set_option maxRecDepth 20000 in
theorem ct_128 {m0 m : Mm} {x1 : Int} {x2 : Int} {x3 : Int}  (g_m : G m0 m) (r_x1 : rg x1) (r_x2 : rg x2) (r_x3 : rg x3) (p0 : okS m 274) (p1 : lwOk m0 11) : CK 4 128 [.ref 0, iv x1, iv x2, iv x3] m (fun m2 v => G m0 m2 ∧ (True)) := by
  refine br_128 r_x1 r_x2 r_x3 ?_
  unfold P_128
  have ok := p0
  have okn := p0.1
  have t73 := ty_7_3 g_m.1
  refine CK.mono (ct_162   g_m.1 r_x1) (by decide) ?_
  rintro m2 v2 r_v2 ⟨e_m2, h_m2⟩
  replace e_m2 := e_m2.symm
  subst e_m2
  refine ⟨fun m_15 => G m0 m_15 ∧ (True), ?_, ?_⟩
  · skip
    refine ⟨fun hq => ?_, fun hq => ?_⟩
    · skip
      exact ⟨g_m, by first | trivial | omega | (refine ⟨?_, ?_⟩ <;> omega)⟩
    · skip
      refine CK.mono (ct_165   r_x2) (by decide) ?_
      rintro m9 v9 r_v9 ⟨e_m9, h_m9⟩
      replace e_m9 := e_m9.symm
      subst e_m9
      refine ⟨fun hq => ?_, fun hq => ?_⟩
      · skip
        have fl := ok.2.1 (Int.toNat x1) (by omega)
        refine CV.mono (ct_2   g_m.1 st_274 r_x1 r_x2 (by omega) (by omega) fl) (by decide) ?_
        rintro m27 ⟨hx_m27, h_m27⟩
        have g_m27 : G m0 m27 := gx_in g_m hx_m27 in_s12_scr
        refine ⟨fun hq => ?_, fun hq => ?_, fun hq => ?_, fun hq => ?_, fun hq => ?_, fun hq => ?_⟩
        · skip
          have fl27 : 0 ≤ rd m27 276 (Int.toNat x1) := by rw [hx_m27.2.1 276 _ rfl]; exact fl
          refine CK.mono (ct_1   g_m27.1 st_274 r_x1 r_x2 (by omega) (by omega) fl27) (by decide) ?_
          rintro m74 v74 r_v74 ⟨e_m74, h_m74⟩
          replace e_m74 := e_m74.symm
          subst e_m74
          refine ⟨fun s0_85 => (s0_85 = 0 ∨ s0_85 = 1), ?_, ?_⟩
          · skip
            refine ⟨fun hq => ?_, fun hq => ?_⟩
            · skip
              (first | trivial | omega | (refine ⟨?_, ?_⟩ <;> omega))
            · skip
              (first | trivial | omega | (refine ⟨?_, ?_⟩ <;> omega))
          · intro s0_85 r_s0_85 hR_85
            exact ⟨g_m27, by first | trivial | omega | (refine ⟨?_, ?_⟩ <;> omega)⟩
        · skip
          refine CK.mono (ct_4   g_m27.1 (lwOk_G p1 g_m27)) (by decide) ?_
          rintro m90 v90 r_v90 ⟨hx_m90, h_m90⟩
          have g_m90 : G m0 m90 := gx_in g_m27 hx_m90 in_s15_scr
          exact ⟨g_m90, by first | trivial | omega | (refine ⟨?_, ?_⟩ <;> omega)⟩
        · skip
          refine CK.mono (ct_6   g_m27.1 (by unfold rg; decide) (lwOk_G p1 g_m27) (by omega)) (by decide) ?_
          rintro m99 v99 r_v99 ⟨hx_m99, h_m99⟩
          have g_m99 : G m0 m99 := gx_in g_m27 hx_m99 in_s15_scr
          refine ⟨fun s0_110 => (s0_110 = 0 ∨ s0_110 = 1), ?_, ?_⟩
          · skip
            refine ⟨fun hq => ?_, fun hq => ?_⟩
            · skip
              (first | trivial | omega | (refine ⟨?_, ?_⟩ <;> omega))
            · skip
              (first | trivial | omega | (refine ⟨?_, ?_⟩ <;> omega))
          · intro s0_110 r_s0_110 hR_110
            exact ⟨g_m99, by first | trivial | omega | (refine ⟨?_, ?_⟩ <;> omega)⟩
        · skip
          refine CK.mono (ct_6   g_m27.1 (by unfold rg; decide) (lwOk_G p1 g_m27) (by omega)) (by decide) ?_
          rintro m116 v116 r_v116 ⟨hx_m116, h_m116⟩
          have g_m116 : G m0 m116 := gx_in g_m27 hx_m116 in_s15_scr
          refine ⟨fun s0_127 => (s0_127 = 0 ∨ s0_127 = 1), ?_, ?_⟩
          · skip
            refine ⟨fun hq => ?_, fun hq => ?_⟩
            · skip
              (first | trivial | omega | (refine ⟨?_, ?_⟩ <;> omega))
            · skip
              (first | trivial | omega | (refine ⟨?_, ?_⟩ <;> omega))
          · intro s0_127 r_s0_127 hR_127
            exact ⟨g_m116, by first | trivial | omega | (refine ⟨?_, ?_⟩ <;> omega)⟩
        · skip
          refine CK.mono (ct_5   g_m27.1 (lwOk_G p1 g_m27)) (by decide) ?_
          rintro m132 v132 r_v132 ⟨hx_m132, h_m132⟩
          have g_m132 : G m0 m132 := gx_in g_m27 hx_m132 in_s15_scr
          exact ⟨g_m132, by first | trivial | omega | (refine ⟨?_, ?_⟩ <;> omega)⟩
        · skip
          exact ⟨g_m27, by first | trivial | omega | (refine ⟨?_, ?_⟩ <;> omega)⟩
      · skip
        exact ⟨g_m, by first | trivial | omega | (refine ⟨?_, ?_⟩ <;> omega)⟩
  · intro m_15  hR_15
    obtain ⟨g_m_15, hR_15⟩ := hR_15
    exact ⟨g_m_15, by first | trivial | omega | (refine ⟨?_, ?_⟩ <;> omega)⟩
-- TippedCrates.stuckCrates()I
set_option maxRecDepth 20000 in
theorem ct_159 {m : Mm}   (T_m : Ty m)  (p0 : okS m 274) : CK 3 159 [.ref 0] m (fun m2 v => m2 = m ∧ (True)) := by
  refine br_159  ?_
  unfold P_159
  have ok := p0
  have okn := p0.1
  have t73 := ty_7_3 T_m
  refine ⟨fun x1_4 x2_4 m_4 => m_4 = m ∧ (0 ≤ x2_4 ∧ x2_4 ≤ 3), fun x1_4 x2_4 m_4 => Int.toNat (3 - x2_4), ?_, ?_⟩
  · exact ⟨rfl, by first | omega | (refine ⟨?_, ?_⟩ <;> omega) | trivial⟩
  · intro x1_4 x2_4 m_4 r_x1_4 r_x2_4 hI_4
    obtain ⟨e_m_4, hI_4⟩ := hI_4
    replace e_m_4 := e_m_4.symm
    subst e_m_4
    have t1 := ty_7_3 T_m
    refine ⟨fun hq => ?_, fun hq => ?_⟩
    · skip
      exact ⟨rfl, by first | trivial | omega | (refine ⟨?_, ?_⟩ <;> omega)⟩
    · skip
      refine ⟨fun x3_20 x4_20 m_20 => m_20 = m ∧ (0 ≤ x4_20 ∧ x4_20 ≤ 4), fun x3_20 x4_20 m_20 => Int.toNat (4 - x4_20), ?_, ?_⟩
      · exact ⟨rfl, by first | omega | (refine ⟨?_, ?_⟩ <;> omega) | trivial⟩
      · intro x3_20 x4_20 m_20 r_x3_20 r_x4_20 hI_20
        obtain ⟨e_m_20, hI_20⟩ := hI_20
        replace e_m_20 := e_m_20.symm
        subst e_m_20
        refine ⟨fun hq => ?_, fun hq => ?_⟩
        · skip
          refine ⟨fun y1_59 => True, ?_, ?_⟩
          · skip
            refine ⟨fun hq => ?_, fun hq => ?_⟩
            · skip
              (first | trivial | omega | (refine ⟨?_, ?_⟩ <;> omega))
            · skip
              intro z1_58 e_z1_58
              have r_z1_58 : rg z1_58 := by rw [e_z1_58]; exact (io_rg _ _ _)
              (first | trivial | omega | (refine ⟨?_, ?_⟩ <;> omega))
          · intro y1_59 r_y1_59 hR_59
            try have w2 : wr (x2_4 + 1) = x2_4 + 1 := wr_id (by omega) (by omega)
            intro z2_59 e_z2_59
            have r_z2_59 : rg z2_59 := by rw [e_z2_59]; exact wr_rg _
            exact ⟨⟨rfl, by first | omega | (refine ⟨?_, ?_⟩ <;> omega) | trivial⟩, by (try dsimp only); omega⟩
        · skip
          refine CK.mono (ct_1   T_m st_274 r_x2_4 r_x4_20 (by omega) (by omega) (ok.2.1 _ (by omega))) (by decide) ?_
          rintro m38 v38 r_v38 ⟨e_m38, h_m38⟩
          replace e_m38 := e_m38.symm
          subst e_m38
          intro z3_42 e_z3_42
          have r_z3_42 : rg z3_42 := by rw [e_z3_42]; exact (io_rg _ _ _)
          try have w3 : wr (x4_20 + 1) = x4_20 + 1 := wr_id (by omega) (by omega)
          intro z4_43 e_z4_43
          have r_z4_43 : rg z4_43 := by rw [e_z4_43]; exact wr_rg _
          exact ⟨⟨rfl, by first | omega | (refine ⟨?_, ?_⟩ <;> omega) | trivial⟩, by (try dsimp only); omega⟩
-- TippedCrates.countCratesAndFlags(I)I
set_option maxRecDepth 20000 in
theorem ct_158 {m : Mm} {x1 : Int}  (T_m : Ty m) (r_x1 : rg x1) (p0 : okS m 274) : CK 4 158 [.ref 0, iv x1] m (fun m2 v => m2 = m ∧ (True)) := by
  refine br_158 r_x1 ?_
  unfold P_158
  refine ⟨fun hq => ?_, fun hq => ?_, fun hq => ?_, fun hq => ?_, fun hq => ?_, fun hq => ?_, fun hq => ?_, fun hq => ?_, fun hq => ?_, fun hq => ?_, fun hq => ?_, fun hq => ?_⟩
  · skip
    refine CK.mono (ct_79   T_m st_274) (by decide) ?_
    rintro m64 v64 r_v64 ⟨e_m64, h_m64⟩
    replace e_m64 := e_m64.symm
    subst e_m64
    exact ⟨rfl, by first | trivial | omega | (refine ⟨?_, ?_⟩ <;> omega)⟩
  · skip
    refine CK.mono (ct_80   T_m st_274) (by decide) ?_
    rintro m72 v72 r_v72 ⟨e_m72, h_m72⟩
    replace e_m72 := e_m72.symm
    subst e_m72
    exact ⟨rfl, by first | trivial | omega | (refine ⟨?_, ?_⟩ <;> omega)⟩
  · skip
    exact ⟨rfl, by first | trivial | omega | (refine ⟨?_, ?_⟩ <;> omega)⟩
  · skip
    exact ⟨rfl, by first | trivial | omega | (refine ⟨?_, ?_⟩ <;> omega)⟩
  · skip
    exact ⟨rfl, by first | trivial | omega | (refine ⟨?_, ?_⟩ <;> omega)⟩
  · skip
    exact ⟨rfl, by first | trivial | omega | (refine ⟨?_, ?_⟩ <;> omega)⟩
  · skip
    refine CK.mono (ct_82   T_m st_274) (by decide) ?_
    rintro m80 v80 r_v80 ⟨e_m80, h_m80⟩
    replace e_m80 := e_m80.symm
    subst e_m80
    exact ⟨rfl, by first | trivial | omega | (refine ⟨?_, ?_⟩ <;> omega)⟩
  · skip
    refine CK.mono (ct_83   T_m st_274) (by decide) ?_
    rintro m88 v88 r_v88 ⟨e_m88, h_m88⟩
    replace e_m88 := e_m88.symm
    subst e_m88
    exact ⟨rfl, by first | trivial | omega | (refine ⟨?_, ?_⟩ <;> omega)⟩
  · skip
    refine CK.mono (ct_81   T_m st_274) (by decide) ?_
    rintro m96 v96 r_v96 ⟨e_m96, h_m96⟩
    replace e_m96 := e_m96.symm
    subst e_m96
    exact ⟨rfl, by first | trivial | omega | (refine ⟨?_, ?_⟩ <;> omega)⟩
  · skip
    refine CK.mono (ct_159   T_m p0) (by decide) ?_
    rintro m101 v101 r_v101 ⟨e_m101, h_m101⟩
    replace e_m101 := e_m101.symm
    subst e_m101
    exact ⟨rfl, by first | trivial | omega | (refine ⟨?_, ?_⟩ <;> omega)⟩
  · skip
    refine CK.mono (ct_84   T_m st_274) (by decide) ?_
    rintro m109 v109 r_v109 ⟨e_m109, h_m109⟩
    replace e_m109 := e_m109.symm
    subst e_m109
    exact ⟨rfl, by first | trivial | omega | (refine ⟨?_, ?_⟩ <;> omega)⟩
  · skip
    exact ⟨rfl, by first | trivial | omega | (refine ⟨?_, ?_⟩ <;> omega)⟩
-- TippedCrates.count(I)I
set_option maxRecDepth 20000 in
theorem ct_157 {m : Mm} {x1 : Int}  (T_m : Ty m) (r_x1 : rg x1) (p0 : okS m 274) : CK 5 157 [.ref 0, iv x1] m (fun m2 v => m2 = m ∧ (True)) := by
  refine br_157 r_x1 ?_
  unfold P_157
  refine ⟨fun hq => ?_, fun hq => ?_, fun hq => ?_, fun hq => ?_, fun hq => ?_, fun hq => ?_, fun hq => ?_, fun hq => ?_, fun hq => ?_, fun hq => ?_, fun hq => ?_, fun hq => ?_, fun hq => ?_⟩
  · skip
    have t1 := ty_7_0 T_m
    exact ⟨rfl, by first | trivial | omega | (refine ⟨?_, ?_⟩ <;> omega)⟩
  · skip
    have t2 := ty_7_1 T_m
    exact ⟨rfl, by first | trivial | omega | (refine ⟨?_, ?_⟩ <;> omega)⟩
  · skip
    have t3 := ty_7_3 T_m
    exact ⟨rfl, by first | trivial | omega | (refine ⟨?_, ?_⟩ <;> omega)⟩
  · skip
    exact ⟨rfl, by first | trivial | omega | (refine ⟨?_, ?_⟩ <;> omega)⟩
  · skip
    exact ⟨rfl, by first | trivial | omega | (refine ⟨?_, ?_⟩ <;> omega)⟩
  · skip
    exact ⟨rfl, by first | trivial | omega | (refine ⟨?_, ?_⟩ <;> omega)⟩
  · skip
    refine CK.mono (ct_158   T_m r_x1 p0) (by decide) ?_
    rintro m146 v146 r_v146 ⟨e_m146, h_m146⟩
    replace e_m146 := e_m146.symm
    subst e_m146
    exact ⟨rfl, by first | trivial | omega | (refine ⟨?_, ?_⟩ <;> omega)⟩
  · skip
    refine CK.mono (ct_158   T_m r_x1 p0) (by decide) ?_
    rintro m146 v146 r_v146 ⟨e_m146, h_m146⟩
    replace e_m146 := e_m146.symm
    subst e_m146
    exact ⟨rfl, by first | trivial | omega | (refine ⟨?_, ?_⟩ <;> omega)⟩
  · skip
    have t7 := ty_1_0 T_m
    exact ⟨rfl, by first | trivial | omega | (refine ⟨?_, ?_⟩ <;> omega)⟩
  · skip
    have t8 := ty_55_0 T_m
    exact ⟨rfl, by first | trivial | omega | (refine ⟨?_, ?_⟩ <;> omega)⟩
  · skip
    have t9 := ty_49_0 T_m
    exact ⟨rfl, by first | trivial | omega | (refine ⟨?_, ?_⟩ <;> omega)⟩
  · skip
    refine CK.mono (ct_25   T_m) (by decide) ?_
    rintro m140 v140 r_v140 ⟨e_m140, h_m140⟩
    replace e_m140 := e_m140.symm
    subst e_m140
    exact ⟨rfl, by first | trivial | omega | (refine ⟨?_, ?_⟩ <;> omega)⟩
  · skip
    refine CK.mono (ct_158   T_m r_x1 p0) (by decide) ?_
    rintro m146 v146 r_v146 ⟨e_m146, h_m146⟩
    replace e_m146 := e_m146.symm
    subst e_m146
    exact ⟨rfl, by first | trivial | omega | (refine ⟨?_, ?_⟩ <;> omega)⟩
-- TippedCrates.place()I
set_option maxRecDepth 20000 in
theorem ct_125 {m : Mm}   (T_m : Ty m)   : CK 1 125 [.ref 0] m (fun m2 v => m2 = m ∧ (True)) := by
  refine br_125  ?_
  unfold P_125
  exact ⟨rfl, by first | trivial | omega | (refine ⟨?_, ?_⟩ <;> omega)⟩
-- TippedCrates.foresee(II)V
set_option maxRecDepth 20000 in
theorem ct_160 {m0 m : Mm} {x1 : Int} {x2 : Int}  (g_m : G m0 m) (r_x1 : rg x1) (r_x2 : rg x2) (p0 : okS m 274) (p1 : lwOk m0 11) (p2 : x1 ≤ 60) : CV 7 160 [.ref 0, iv x1, iv x2] m (fun m2 => G m0 m2 ∧ (True)) := by
  refine br_160 r_x1 r_x2 ?_
  unfold P_160
  have ok := p0
  have t4 := ty_s4 g_m.1 st_274
  refine CV.mono (ct_76   g_m.1 st_279 st_274) (by decide) ?_
  rintro m8 ⟨hx_m8, h_m8⟩
  have g_m8 : G m0 m8 := gx_in g_m hx_m8 (in_sA279 )
  have o8 : okC m8 279 := okC_st h_m8 ok.2 t4.2
  have l8 : lwOk m8 11 := lwOk_G p1 g_m8
  refine CV.mono (ct_8   g_m8.1 st_279 r_x1 r_x2 o8 l8 (by omega)) (by decide) ?_
  rintro m21 ⟨hx_m21, h_m21⟩
  have g_m21 : G m0 m21 := gx_in g_m8 hx_m21 in_sT279
  exact ⟨g_m21, by first | trivial | omega | (refine ⟨?_, ?_⟩ <;> omega)⟩
-- TippedCrates.then(III)I
set_option maxRecDepth 20000 in
theorem ct_147 {m0 m : Mm} {x1 : Int} {x2 : Int} {x3 : Int}  (g_m : G m0 m) (r_x1 : rg x1) (r_x2 : rg x2) (r_x3 : rg x3) (p0 : okS m 274) (p1 : lwOk m0 11) : CK 8 147 [.ref 0, iv x1, iv x2, iv x3] m (fun m2 v => G m0 m2 ∧ (True)) := by
  refine br_147 r_x1 r_x2 r_x3 ?_
  unfold P_147
  have ok := p0
  have okn := p0.1
  have t73 := ty_7_3 g_m.1
  refine CK.mono (ct_162   g_m.1 r_x1) (by decide) ?_
  rintro m2 v2 r_v2 ⟨e_m2, h_m2⟩
  replace e_m2 := e_m2.symm
  subst e_m2
  refine ⟨fun m_27 => G m0 m_27 ∧ (True), ?_, ?_⟩
  · skip
    refine ⟨fun hq => ?_, fun hq => ?_⟩
    · skip
      exact ⟨g_m, by first | trivial | omega | (refine ⟨?_, ?_⟩ <;> omega)⟩
    · skip
      refine CK.mono (ct_166   r_x2 (by unfold rg; decide) (by unfold rg; decide)) (by decide) ?_
      rintro m12 v12 r_v12 ⟨e_m12, h_m12⟩
      replace e_m12 := e_m12.symm
      subst e_m12
      refine ⟨fun hq => ?_, fun hq => ?_⟩
      · skip
        exact ⟨g_m, by first | trivial | omega | (refine ⟨?_, ?_⟩ <;> omega)⟩
      · skip
        refine CK.mono (ct_166   r_x3 (by unfold rg; decide) (by unfold rg; decide)) (by decide) ?_
        rintro m21 v21 r_v21 ⟨e_m21, h_m21⟩
        replace e_m21 := e_m21.symm
        subst e_m21
        refine ⟨fun hq => ?_, fun hq => ?_⟩
        · skip
          refine CV.mono (ct_160   g_m r_x2 (rd_rg _ _ _) p0 p1 (by omega)) (by decide) ?_
          rintro m38 ⟨g_m38, h_m38⟩
          refine ⟨fun s0_65 m_65 => G m0 m_65 ∧ (True), ?_, ?_⟩
          · skip
            refine ⟨fun hq => ?_, fun hq => ?_⟩
            · skip
              refine CK.mono (ct_78   g_m38.1 st_279 r_x1 (by omega)) (by decide) ?_
              rintro m62 v62 r_v62 ⟨e_m62, h_m62⟩
              replace e_m62 := e_m62.symm
              subst e_m62
              exact ⟨g_m38, by first | trivial | omega | (refine ⟨?_, ?_⟩ <;> omega)⟩
            · skip
              refine ⟨⟨by omega, by omega⟩, ?_⟩
              have t2 := ty_sF g_m38.1 st_279 (Int.toNat x1)
              exact ⟨g_m38, by first | trivial | omega | (refine ⟨?_, ?_⟩ <;> omega)⟩
          · intro s0_65 m_65 r_s0_65 hR_65
            obtain ⟨g_m_65, hR_65⟩ := hR_65
            exact ⟨g_m_65, by first | trivial | omega | (refine ⟨?_, ?_⟩ <;> omega)⟩
        · skip
          exact ⟨g_m, by first | trivial | omega | (refine ⟨?_, ?_⟩ <;> omega)⟩
  · intro m_27  hR_27
    obtain ⟨g_m_27, hR_27⟩ := hR_27
    exact ⟨g_m_27, by first | trivial | omega | (refine ⟨?_, ?_⟩ <;> omega)⟩
-- TippedCrates.flagIn(II)I
set_option maxRecDepth 20000 in
theorem ct_148 {m0 m : Mm} {x1 : Int} {x2 : Int}  (g_m : G m0 m) (r_x1 : rg x1) (r_x2 : rg x2) (p0 : okS m 274) (p1 : lwOk m0 11) : CK 8 148 [.ref 0, iv x1, iv x2] m (fun m2 v => G m0 m2 ∧ (True)) := by
  refine br_148 r_x1 r_x2 ?_
  unfold P_148
  have wb := wh_b (ty_7_0 g_m.1) (ty_7_1 g_m.1)
  refine CK.mono (ct_163   g_m.1 r_x1) (by decide) ?_
  rintro m2 v2 r_v2 ⟨e_m2, h_m2⟩
  replace e_m2 := e_m2.symm
  subst e_m2
  refine ⟨fun m_18 => G m0 m_18 ∧ (True), ?_, ?_⟩
  · skip
    refine ⟨fun hq => ?_, fun hq => ?_⟩
    · skip
      exact ⟨g_m, by first | trivial | omega | (refine ⟨?_, ?_⟩ <;> omega)⟩
    · skip
      refine CK.mono (ct_166   r_x2 (by unfold rg; decide) (by unfold rg; decide)) (by decide) ?_
      rintro m12 v12 r_v12 ⟨e_m12, h_m12⟩
      replace e_m12 := e_m12.symm
      subst e_m12
      refine ⟨fun hq => ?_, fun hq => ?_⟩
      · skip
        refine CV.mono (ct_160   g_m r_x2 (rd_rg _ _ _) p0 p1 (by omega)) (by decide) ?_
        rintro m29 ⟨g_m29, h_m29⟩
        refine ⟨⟨by omega, by omega⟩, ?_⟩
        have t2 := ty_sM g_m29.1 st_279 (Int.toNat x1)
        exact ⟨g_m29, by first | trivial | omega | (refine ⟨?_, ?_⟩ <;> omega)⟩
      · skip
        exact ⟨g_m, by first | trivial | omega | (refine ⟨?_, ?_⟩ <;> omega)⟩
  · intro m_18  hR_18
    obtain ⟨g_m_18, hR_18⟩ := hR_18
    exact ⟨g_m_18, by first | trivial | omega | (refine ⟨?_, ?_⟩ <;> omega)⟩
-- TippedCrates.paidIn(I)I
set_option maxRecDepth 20000 in
theorem ct_149 {m0 m : Mm} {x1 : Int}  (g_m : G m0 m) (r_x1 : rg x1) (p0 : okS m 274) (p1 : lwOk m0 11) : CK 8 149 [.ref 0, iv x1] m (fun m2 v => G m0 m2 ∧ (True)) := by
  refine br_149 r_x1 ?_
  unfold P_149
  refine CK.mono (ct_166   r_x1 (by unfold rg; decide) (by unfold rg; decide)) (by decide) ?_
  rintro m4 v4 r_v4 ⟨e_m4, h_m4⟩
  replace e_m4 := e_m4.symm
  subst e_m4
  refine ⟨fun hq => ?_, fun hq => ?_⟩
  · skip
    refine CV.mono (ct_160   g_m r_x1 (rd_rg _ _ _) p0 p1 (by omega)) (by decide) ?_
    rintro m21 ⟨g_m21, h_m21⟩
    exact ⟨g_m21, by first | trivial | omega | (refine ⟨?_, ?_⟩ <;> omega)⟩
  · skip
    exact ⟨g_m, by first | trivial | omega | (refine ⟨?_, ?_⟩ <;> omega)⟩
-- TippedCrates.year(IIII)I
set_option maxRecDepth 20000 in
theorem ct_150 {m0 m : Mm} {x1 : Int} {x2 : Int} {x3 : Int} {x4 : Int}  (g_m : G m0 m) (r_x1 : rg x1) (r_x2 : rg x2) (r_x3 : rg x3) (r_x4 : rg x4) (p0 : okS m 274) (p1 : lwOk m0 11) (p2 : okS m0 274) : CK 8 150 [.ref 0, iv x1, iv x2, iv x3, iv x4] m (fun m2 v => G m0 m2 ∧ (True)) := by
  refine br_150 r_x1 r_x2 r_x3 r_x4 ?_
  unfold P_150
  have ok := p0
  have okn := p0.1
  have t73 := ty_7_3 g_m.1
  refine CK.mono (ct_162   g_m.1 r_x1) (by decide) ?_
  rintro m2 v2 r_v2 ⟨e_m2, h_m2⟩
  replace e_m2 := e_m2.symm
  subst e_m2
  refine ⟨fun m_15 => G m0 m_15 ∧ (True), ?_, ?_⟩
  · skip
    refine ⟨fun hq => ?_, fun hq => ?_⟩
    · skip
      exact ⟨g_m, by first | trivial | omega | (refine ⟨?_, ?_⟩ <;> omega)⟩
    · skip
      refine CK.mono (ct_164   r_x2) (by decide) ?_
      rintro m9 v9 r_v9 ⟨e_m9, h_m9⟩
      replace e_m9 := e_m9.symm
      subst e_m9
      refine ⟨fun hq => ?_, fun hq => ?_⟩
      · skip
        refine CK.mono (ct_166   r_x3 (by unfold rg; decide) (by unfold rg; decide)) (by decide) ?_
        rintro m21 v21 r_v21 ⟨e_m21, h_m21⟩
        replace e_m21 := e_m21.symm
        subst e_m21
        refine ⟨fun m_38 => G m0 m_38 ∧ (True), ?_, ?_⟩
        · skip
          refine ⟨fun hq => ?_, fun hq => ?_⟩
          · skip
            exact ⟨g_m, by first | trivial | omega | (refine ⟨?_, ?_⟩ <;> omega)⟩
          · skip
            refine CK.mono (ct_166   r_x4 (by unfold rg; decide) (by unfold rg; decide)) (by decide) ?_
            rintro m32 v32 r_v32 ⟨e_m32, h_m32⟩
            replace e_m32 := e_m32.symm
            subst e_m32
            refine ⟨fun hq => ?_, fun hq => ?_⟩
            · skip
              refine ⟨fun x5_46 x6_46 m_46 => G m0 m_46 ∧ (0 ≤ x6_46 ∧ x6_46 ≤ 20), fun x5_46 x6_46 m_46 => Int.toNat (20 - x6_46), ?_, ?_⟩
              · exact ⟨g_m, by first | omega | (refine ⟨?_, ?_⟩ <;> omega) | trivial⟩
              · intro x5_46 x6_46 m_46 r_x5_46 r_x6_46 hI_46
                obtain ⟨g_m_46, hI_46⟩ := hI_46
                refine ⟨fun hq => ?_, fun hq => ?_⟩
                · skip
                  exact ⟨g_m_46, by first | trivial | omega | (refine ⟨?_, ?_⟩ <;> omega)⟩
                · skip
                  try have w2 : wr ((rd m_46 7 2) + x6_46) = (rd m_46 7 2) + x6_46 := wr_id (by omega) (by omega)
                  refine CV.mono (ct_160   g_m_46 r_x3 (wr_rg _) (okS_G p2 g_m_46) p1 (by omega)) (by decide) ?_
                  rintro m65 ⟨g_m65, h_m65⟩
                  refine CK.mono (ct_78   g_m65.1 st_279 r_x1 (by omega)) (by decide) ?_
                  rintro m73 v73 r_v73 ⟨e_m73, h_m73⟩
                  replace e_m73 := e_m73.symm
                  subst e_m73
                  refine ⟨fun y5_83 => True, ?_, ?_⟩
                  · skip
                    refine ⟨fun hq => ?_, fun hq => ?_⟩
                    · skip
                      (first | trivial | omega | (refine ⟨?_, ?_⟩ <;> omega))
                    · skip
                      try have w3 : wr (x5_46 + 1) = x5_46 + 1 := wr_id (by omega) (by omega)
                      intro z5_80 e_z5_80
                      have r_z5_80 : rg z5_80 := by rw [e_z5_80]; exact wr_rg _
                      (first | trivial | omega | (refine ⟨?_, ?_⟩ <;> omega))
                  · intro y5_83 r_y5_83 hR_83
                    try have w4 : wr (x6_46 + 1) = x6_46 + 1 := wr_id (by omega) (by omega)
                    intro z6_83 e_z6_83
                    have r_z6_83 : rg z6_83 := by rw [e_z6_83]; exact wr_rg _
                    exact ⟨⟨g_m65, by first | omega | (refine ⟨?_, ?_⟩ <;> omega) | trivial⟩, by (try dsimp only); omega⟩
            · skip
              exact ⟨g_m, by first | trivial | omega | (refine ⟨?_, ?_⟩ <;> omega)⟩
        · intro m_38  hR_38
          obtain ⟨g_m_38, hR_38⟩ := hR_38
          exact ⟨g_m_38, by first | trivial | omega | (refine ⟨?_, ?_⟩ <;> omega)⟩
      · skip
        exact ⟨g_m, by first | trivial | omega | (refine ⟨?_, ?_⟩ <;> omega)⟩
  · intro m_15  hR_15
    obtain ⟨g_m_15, hR_15⟩ := hR_15
    exact ⟨g_m_15, by first | trivial | omega | (refine ⟨?_, ?_⟩ <;> omega)⟩
