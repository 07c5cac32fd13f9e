/-- powers of ten -/
def te : Nat → Int
  | 0 => 1
  | n + 1 => 10 * te n
theorem te_b : ∀ n : Nat, n ≤ 6 → 1 ≤ te n ∧ te n ≤ 1000000 := by decide
theorem sx_te {j : Int} (h : 0 ≤ j ∧ j ≤ 6) : sx 4 j = te (Int.toNat j) := by
  have h1 : j = 0 ∨ j = 1 ∨ j = 2 ∨ j = 3 ∨ j = 4 ∨ j = 5 ∨ j = 6 := by omega
  rcases h1 with rfl | rfl | rfl | rfl | rfl | rfl | rfl <;> decide
/-- tippings from s whose next mark is d: the sum of u behind them -/
def spS (mv : Int → Int → Int) (mk : Int → Int) (d : Int) (u : Int → Int) (s : Int) : Nat → Int
  | 0 => 0
  | k + 1 => if mv s (k : Int) = -1 then spS mv mk d u s k else if mk (mv s (k : Int)) = d then wr (spS mv mk d u s k + u (mv s (k : Int))) else spS mv mk d u s k
def spF (mv : Int → Int → Int) (mk : Int → Int) : Nat → Int → Int → Int
  | 0, _, _ => 1
  | n + 1, s, q => spS mv mk (q / te n) (fun t => spF mv mk n t (q % te n)) s 4
theorem spS_s (mv : Int → Int → Int) (mk : Int → Int) (d : Int) (u : Int → Int) (s x : Int) (h : 0 ≤ x) : spS mv mk d u s (Int.toNat x + 1) = if mv s x = -1 then spS mv mk d u s (Int.toNat x) else if mk (mv s x) = d then wr (spS mv mk d u s (Int.toNat x) + u (mv s x)) else spS mv mk d u s (Int.toNat x) := by
  show (if mv s ((Int.toNat x : Nat) : Int) = -1 then spS mv mk d u s (Int.toNat x) else if mk (mv s ((Int.toNat x : Nat) : Int)) = d then wr (spS mv mk d u s (Int.toNat x) + u (mv s ((Int.toNat x : Nat) : Int))) else spS mv mk d u s (Int.toNat x)) = _
  rw [Int.toNat_of_nonneg h]
section SPS
variable {mv : Int → Int → Int} {mk : Int → Int} {d s x v w y z L : Int} {u : Int → Int}
theorem sp_0 (e : y = spS mv mk d u s (Int.toNat x)) (h : 0 ≤ x) (ev : v = mv s x) (n : v = -1) : y = spS mv mk d u s (Int.toNat x + 1) := by
  rw [spS_s mv mk d u s x h, ← ev, if_pos n]
  exact e
theorem sp_1 (e : y = spS mv mk d u s (Int.toNat x)) (h : 0 ≤ x) (ev : v = mv s x) (n : ¬ v = -1) (ew : w = mk v) (ne : ¬ w = d) : y = spS mv mk d u s (Int.toNat x + 1) := by
  rw [spS_s mv mk d u s x h, ← ev, if_neg n, ← ew, if_neg ne]
  exact e
theorem sp_2 {a : Int} (e : y = spS mv mk d u s (Int.toNat x)) (h : 0 ≤ x) (ev : v = mv s x) (n : ¬ v = -1) (ew : w = mk v) (eq : w = d) (ea : a = u v) (ez : z = wr (y + a)) : z = spS mv mk d u s (Int.toNat x + 1) := by
  rw [spS_s mv mk d u s x h, ← ev, if_neg n, ← ew, if_pos eq, ← ea, ← e]
  exact ez
theorem sp_lt (cl : cloN mv L) (h : 0 ≤ s) (h1 : s < L) (hx : 0 ≤ x ∧ x ≤ 3) (ev : v = mv s x) (n : ¬ v = -1) : v < L := by
  have c := cl s x h h1 hx.1 hx.2
  rw [← ev] at c
  omega
end SPS
theorem sp_rm {x2 x3 z : Int} (e : z = rmI x2 (sx 4 (wr (x3 - 1)))) (h : 0 ≤ x2) (b : ((0 : Int) ≤ wr (x3 - 1) ∧ wr (x3 - 1) < 7) ∧ x2 ≤ 2147483647) : 0 ≤ z := by
  have t := sx_4 b.1
  rw [e, rm_eq h b.2 (by omega) (by omega)]
  exact Int.emod_nonneg _ (by omega)
theorem sp_e {mv : Int → Int → Int} {mk : Int → Int} {s x2 x3 x7 y z4 z5 : Int} (d : y = spS mv mk z4 (fun t => spF mv mk (Int.toNat (x3 - 1)) t z5) s (Int.toNat x7)) (h7 : x7 = 4) (b : 1 ≤ x3 ∧ x3 ≤ 6) (e4 : z4 = dvI x2 (sx 4 (wr (x3 - 1)))) (e5 : z5 = rmI x2 (sx 4 (wr (x3 - 1)))) (h : 0 ≤ x2) (r2 : x2 ≤ 2147483647) (w : wr (x3 - 1) = x3 - 1) : y = spF mv mk (Int.toNat x3) s x2 := by
  have tb := te_b (Int.toNat (x3 - 1)) (by omega)
  rw [w, sx_te (by omega)] at e4 e5
  rw [dv_eq h r2 (by omega) (by omega)] at e4
  rw [rm_eq h r2 (by omega) (by omega)] at e5
  rw [show Int.toNat x3 = Int.toNat (x3 - 1) + 1 by omega]
  show y = spS mv mk (x2 / te (Int.toNat (x3 - 1))) (fun t => spF mv mk (Int.toNat (x3 - 1)) t (x2 % te (Int.toNat (x3 - 1)))) s 4
  rw [← e4, ← e5, d, h7]
  rfl
/-- the marks beneath are mk -/
def t2M (m : Mm) (mk : Int → Int) : Prop := ∀ s : Int, 0 ≤ s → s ≤ 599 → rd m 38 (Int.toNat (rd m 32 (Int.toNat (s % 24 * 6 + 1)))) = mk s
/-! behind 'stand' -/
def stP (m : Mm) (A : Ab) (T F : Nat → Int) (c : Int) : Prop := agm m (mvN A.Y A.r T c) (24 * (A.Y 0 * A.Y 1)) ∧ cloN (mvN A.Y A.r T c) (24 * (A.Y 0 * A.Y 1)) ∧ (∀ t s : Int, 0 ≤ t → t ≤ 5 → 0 ≤ s → rd m 38 (Int.toNat (rd m 32 (Int.toNat (s % 24 * 6 + t)))) = mkN A.r F c s t) ∧ rd m 36 1 = 24 * fC A.r c ∧ (0 ≤ fC A.r c ∧ fC A.r c < A.Y 0 * A.Y 1) ∧ agC m A c
theorem st_C {m0 m m26 : Mm} {A : Ab} {T F : Nat → Int} {c : Int} (h : cA m A) (ds : dsR A.Y A.r) (hc : 0 ≤ c ∧ c < A.Y 3) (tb : tbR m 32 33 F T) (g : G m0 m) (g26 : G m0 m26) (p : sdP m m26 274 c) : stP m26 A T F c := by
  have a26 := ag_C h ds hc p
  have t26 : ∀ j : Nat, rd m26 33 j = rd m 33 j := fun j => (g26.2.1 33 j rfl).trans (g.2.1 33 j rfl).symm
  have t32 : ∀ j : Nat, rd m26 32 j = rd m 32 j := fun j => (g26.2.1 32 j rfl).trans (g.2.1 32 j rfl).symm
  have own := h.2.2.1.1 c hc.1 hc.2
  have clo := mv_clo (r := A.r) (T := T) (c := c) h.2.1 (fun j hj => by rw [← tb.2 j hj]; exact ty_33 g.1 j)
  refine ⟨fun s k v s0 s1 k0 k1 w => tp_C a26 (fun j hj => (t26 j).trans (tb.2 j hj)) h.2.1 ⟨s0, s1⟩ ⟨k0, k1⟩ w, clo, fun t s t0 t1 s0 => ?_, a26.1, own, a26⟩
  have f := ty_32 g26.1 (Int.toNat (s % 24 * 6 + t))
  have e := tb.1 (Int.toNat (s % 24 * 6 + t)) (by omega)
  rw [a26.2.1 _ (by omega), t32, e]
  rfl
def speA (A : Ab) (T F : Nat → Int) (x1 x2 x3 : Int) : Int := if ((0 ≤ x1 ∧ x1 < A.Y 3) ∧ 1 ≤ x3 ∧ x3 ≤ 6) ∧ 0 ≤ x2 ∧ x2 < te (Int.toNat x3) then spF (mvN A.Y A.r T x1) (fun s => mkN A.r F x1 s 1) (Int.toNat x3) (24 * fC A.r x1) x2 else -1
theorem spe_C {m : Mm} {A : Ab} {T F : Nat → Int} {x1 x2 x3 v : Int} (st : stP m A T F x1) (hc : 0 ≤ x1 ∧ x1 < A.Y 3) (h3 : 1 ≤ x3 ∧ x3 ≤ 6) (h2 : 0 ≤ x2) (l : x2 < sx 4 x3) (q : ∀ mv mk L, agm m mv L → cloN mv L → t2M m mk → rd m 36 1 < L → 0 ≤ x2 → v = spF mv mk (Int.toNat x3) (rd m 36 1) x2) : v = speA A T F x1 x2 x3 := by
  obtain ⟨s1, s2, s3, s4, s5, -⟩ := st
  rw [sx_te (by omega)] at l
  unfold speA
  rw [if_pos ⟨⟨hc, h3⟩, h2, l⟩, ← s4]
  exact q _ _ _ s1 s2 (fun s h0 _ => s3 1 s (by decide) (by decide) h0) (by rw [s4]; omega) h2
theorem spe_n {A : Ab} {T F : Nat → Int} {x1 x2 x3 : Int} (h3 : 1 ≤ x3 ∧ x3 ≤ 6) (n : x2 < 0 ∨ ¬ x2 < sx 4 x3) : (-1 : Int) = speA A T F x1 x2 x3 := by
  rw [sx_te (by omega)] at n
  unfold speA
  rw [if_neg (by omega)]
theorem spe_m {m : Mm} {A : Ab} {T F : Nat → Int} {x1 x2 x3 : Int} (h : cA m A) (n : ¬ (0 ≤ x1 ∧ x1 ≤ rd m 7 3 - 1) ∨ ¬ (1 ≤ x3 ∧ x3 ≤ 6)) : (-1 : Int) = speA A T F x1 x2 x3 := by
  rw [h.1.1.2.2.2.1] at n
  unfold speA
  rw [if_neg (by omega)]
-- TippedCrates$Rows.spellFrom(III)I
set_option maxRecDepth 20000 in
theorem fy_65 (N : Nat) : ∀ {m : Mm} {x1 : Int} {x2 : Int} {x3 : Int}  (T_m : Ty m) (r_x1 : rg x1) (r_x2 : rg x2) (r_x3 : rg x3) (p0 : 0 ≤ x1 ∧ x1 ≤ 599) (hN : Int.toNat x3 < N), CK (N + 3) 65 [.ref 49, iv x1, iv x2, iv x3] m (fun m2 v => m2 = m ∧ ((True) ∧ (∀ mv mk L, agm m mv L → cloN mv L → t2M m mk → x1 < L → 0 ≤ x2 → x3 ≤ 6 → v = spF mv mk (Int.toNat x3) x1 x2))) := by
  induction N with
  | zero => intros; omega
  | succ N ih =>
    intro m x1 x2 x3 T_m r_x1 r_x2 r_x3 p0 hN
    refine br_65 (d := N + 3) r_x1 r_x2 r_x3 ?_
    unfold P_65
    refine ⟨x3 < 1 ∨ 6 < x3, ?_, ?_⟩
    · skip
      refine ⟨fun hq => ?_, fun hq => ?_⟩
      · skip
        (omega)
      · skip
        refine ⟨fun hq => ?_, fun hq => ?_⟩
        · skip
          try have w1 : wr (x3 - 1) = x3 - 1 := wr_id (by omega) (by omega)
          refine ⟨⟨by omega, by omega⟩, ?_⟩
          have sxf2 := sx_4 (j := (wr (x3 - 1))) ⟨by omega, by omega⟩
          refine ⟨by omega, ?_⟩
          intro z4_22 e_z4_22
          have r_z4_22 : rg z4_22 := by rw [e_z4_22]; exact (io_rg _ _ _)
          refine ⟨⟨by omega, by omega⟩, ?_⟩
          refine ⟨by omega, ?_⟩
          intro z5_33 e_z5_33
          have r_z5_33 : rg z5_33 := by rw [e_z5_33]; exact (io_rg _ _ _)
          refine ⟨fun x6_41 x7_41 m_41 => m_41 = m ∧ ((0 ≤ x7_41 ∧ x7_41 ≤ 4) ∧ (∀ mv mk L, agm m mv L → cloN mv L → t2M m mk → x1 < L → 0 ≤ x2 → x6_41 = spS mv mk z4_22 (fun t => spF mv mk (Int.toNat (x3 - 1)) t z5_33) x1 (Int.toNat x7_41))), fun x6_41 x7_41 m_41 => Int.toNat (4 - x7_41), ?_, ?_⟩
          · exact ⟨rfl, by exact ⟨by first | omega | (refine ⟨?_, ?_⟩ <;> omega) | trivial, by exact fun mv mk L ag cl tm h1 h2 => rfl⟩⟩
          · intro x6_41 x7_41 m_41 r_x6_41 r_x7_41 hI_41
            obtain ⟨e_m_41, hI_41⟩ := hI_41
            replace e_m_41 := e_m_41.symm
            subst e_m_41
            obtain ⟨hI_41, dI_41⟩ := hI_41
            refine ⟨fun hq => ?_, fun hq => ?_⟩
            · skip
              exact ⟨rfl, by exact ⟨by first | trivial | omega | (refine ⟨?_, ?_⟩ <;> omega), by first | (have u := dI_41; exact fun mv mk L ag cl tm h1 h2 h3 => sp_e (dI_41 mv mk L ag cl tm h1 h2) (by omega) (by omega) e_z4_22 e_z5_33 h2 (by omega) (by omega)) | exact fun mv mk L ag cl tm h1 h2 h3 => by rw [show Int.toNat x3 = 0 by omega]; rfl⟩⟩
            · skip
              refine CK.mono (ct_71   T_m r_x1 r_x7_41 (by omega) (by omega)) (by omega) ?_
              rintro m54 v54 r_v54 ⟨e_m54, h_m54⟩
              replace e_m54 := e_m54.symm
              subst e_m54
              refine ⟨fun y6_95 m_95 => m_95 = m ∧ (∀ mv mk L, agm m mv L → cloN mv L → t2M m mk → x1 < L → 0 ≤ x2 → y6_95 = spS mv mk z4_22 (fun t => spF mv mk (Int.toNat (x3 - 1)) t z5_33) x1 (Int.toNat x7_41 + 1)), ?_, ?_⟩
              · skip
                refine ⟨fun hq => ?_, fun hq => ?_⟩
                · skip
                  exact ⟨rfl, by first | (have u := h_m89; exact fun mv mk L ag cl tm h1 h2 => sp_2 (dI_41 mv mk L ag cl tm h1 h2) (by omega) (ag x1 x7_41 v54 (by omega) h1 (by omega) (by omega) h_m54.2.2) (by omega) (h_m71.1.trans (tm v54 (by omega) (by omega))) (by assumption) ((h_m89.2 mv mk L ag cl tm (sp_lt cl (by omega) h1 (by omega) (ag x1 x7_41 v54 (by omega) h1 (by omega) (by omega) h_m54.2.2) (by omega)) (sp_rm e_z5_33 h2 (by omega)) (by omega)).trans (congrArg (fun q => spF mv mk q v54 z5_33) (by omega))) e_z6_93) | (have u := h_m71; exact fun mv mk L ag cl tm h1 h2 => sp_1 (dI_41 mv mk L ag cl tm h1 h2) (by omega) (ag x1 x7_41 v54 (by omega) h1 (by omega) (by omega) h_m54.2.2) (by omega) (h_m71.1.trans (tm v54 (by omega) (by omega))) (by assumption)) | exact fun mv mk L ag cl tm h1 h2 => sp_0 (dI_41 mv mk L ag cl tm h1 h2) (by omega) (ag x1 x7_41 v54 (by omega) h1 (by omega) (by omega) h_m54.2.2) (by assumption)⟩
                · skip
                  refine CK.mono (ct_73   T_m r_v54 (by omega)) (by omega) ?_
                  rintro m71 v71 r_v71 ⟨e_m71, h_m71⟩
                  replace e_m71 := e_m71.symm
                  subst e_m71
                  refine ⟨fun hq => ?_, fun hq => ?_⟩
                  · skip
                    exact ⟨rfl, by first | (have u := h_m89; exact fun mv mk L ag cl tm h1 h2 => sp_2 (dI_41 mv mk L ag cl tm h1 h2) (by omega) (ag x1 x7_41 v54 (by omega) h1 (by omega) (by omega) h_m54.2.2) (by omega) (h_m71.1.trans (tm v54 (by omega) (by omega))) (by assumption) ((h_m89.2 mv mk L ag cl tm (sp_lt cl (by omega) h1 (by omega) (ag x1 x7_41 v54 (by omega) h1 (by omega) (by omega) h_m54.2.2) (by omega)) (sp_rm e_z5_33 h2 (by omega)) (by omega)).trans (congrArg (fun q => spF mv mk q v54 z5_33) (by omega))) e_z6_93) | (have u := h_m71; exact fun mv mk L ag cl tm h1 h2 => sp_1 (dI_41 mv mk L ag cl tm h1 h2) (by omega) (ag x1 x7_41 v54 (by omega) h1 (by omega) (by omega) h_m54.2.2) (by omega) (h_m71.1.trans (tm v54 (by omega) (by omega))) (by assumption)) | exact fun mv mk L ag cl tm h1 h2 => sp_0 (dI_41 mv mk L ag cl tm h1 h2) (by omega) (ag x1 x7_41 v54 (by omega) h1 (by omega) (by omega) h_m54.2.2) (by assumption)⟩
                  · skip
                    refine CK.mono (ih T_m r_v54 r_z5_33 (wr_rg _) (by omega) (by omega)) (Nat.le_refl _) ?_
                    rintro m89 v89 r_v89 ⟨e_m89, h_m89⟩
                    replace e_m89 := e_m89.symm
                    subst e_m89
                    try have w3 : wr (x6_41 + v89) = x6_41 + v89 := wr_id (by omega) (by omega)
                    intro z6_93 e_z6_93
                    have r_z6_93 : rg z6_93 := by rw [e_z6_93]; exact (wr_rg _)
                    exact ⟨rfl, by first | (have u := h_m89; exact fun mv mk L ag cl tm h1 h2 => sp_2 (dI_41 mv mk L ag cl tm h1 h2) (by omega) (ag x1 x7_41 v54 (by omega) h1 (by omega) (by omega) h_m54.2.2) (by omega) (h_m71.1.trans (tm v54 (by omega) (by omega))) (by assumption) ((h_m89.2 mv mk L ag cl tm (sp_lt cl (by omega) h1 (by omega) (ag x1 x7_41 v54 (by omega) h1 (by omega) (by omega) h_m54.2.2) (by omega)) (sp_rm e_z5_33 h2 (by omega)) (by omega)).trans (congrArg (fun q => spF mv mk q v54 z5_33) (by omega))) e_z6_93) | (have u := h_m71; exact fun mv mk L ag cl tm h1 h2 => sp_1 (dI_41 mv mk L ag cl tm h1 h2) (by omega) (ag x1 x7_41 v54 (by omega) h1 (by omega) (by omega) h_m54.2.2) (by omega) (h_m71.1.trans (tm v54 (by omega) (by omega))) (by assumption)) | exact fun mv mk L ag cl tm h1 h2 => sp_0 (dI_41 mv mk L ag cl tm h1 h2) (by omega) (ag x1 x7_41 v54 (by omega) h1 (by omega) (by omega) h_m54.2.2) (by assumption)⟩
              · intro y6_95 m_95 r_y6_95 hR_95
                obtain ⟨e_m_95, hR_95⟩ := hR_95
                replace e_m_95 := e_m_95.symm
                subst e_m_95
                try have w4 : wr (x7_41 + 1) = x7_41 + 1 := wr_id (by omega) (by omega)
                intro z7_95 e_z7_95
                have r_z7_95 : rg z7_95 := by rw [e_z7_95]; exact wr_rg _
                exact ⟨⟨rfl, by exact ⟨by first | omega | (refine ⟨?_, ?_⟩ <;> omega) | trivial, by exact fun mv mk L ag cl tm h1 h2 => (hR_95 mv mk L ag cl tm h1 h2).trans (congrArg (spS mv mk z4_22 (fun t => spF mv mk (Int.toNat (x3 - 1)) t z5_33) x1) (by omega))⟩⟩, by (try dsimp only); omega⟩
        · skip
          (omega)
    · intro   hR_11
      exact ⟨rfl, by exact ⟨by first | trivial | omega | (refine ⟨?_, ?_⟩ <;> omega), by first | (have u := dI_41; exact fun mv mk L ag cl tm h1 h2 h3 => sp_e (dI_41 mv mk L ag cl tm h1 h2) (by omega) (by omega) e_z4_22 e_z5_33 h2 (by omega) (by omega)) | exact fun mv mk L ag cl tm h1 h2 h3 => by rw [show Int.toNat x3 = 0 by omega]; rfl⟩⟩
-- TippedCrates$Rows.spellings(II)I
set_option maxRecDepth 20000 in
theorem fy_64 {m : Mm} {x1 : Int} {x2 : Int}  (T_m : Ty m) (r_x1 : rg x1) (r_x2 : rg x2) (p0 : 1 ≤ x2 ∧ x2 ≤ 6) : CK 11 64 [.ref 49, iv x1, iv x2] m (fun m2 v => m2 = m ∧ ((True) ∧ (∀ mv mk L, agm m mv L → cloN mv L → t2M m mk → rd m 36 1 < L → 0 ≤ x1 → v = spF mv mk (Int.toNat x2) (rd m 36 1) x1))) := by
  refine br_64 r_x1 r_x2 ?_
  unfold P_64
  have t1 := ty_36_1 T_m
  refine CK.mono (fy_65 7  T_m (rd_rg _ _ _) r_x1 r_x2 (by omega) (by omega)) (by decide) ?_
  rintro m10 v10 r_v10 ⟨e_m10, h_m10⟩
  replace e_m10 := e_m10.symm
  subst e_m10
  exact ⟨rfl, by exact ⟨by first | trivial | omega | (refine ⟨?_, ?_⟩ <;> omega), by exact fun mv mk L ag cl tm h1 h2 => h_m10.2 mv mk L ag cl tm h1 h2 (by omega)⟩⟩
-- TippedCrates.spell(III)I
set_option maxRecDepth 20000 in
theorem fy_140 {m0 m : Mm} {x1 : Int} {x2 : Int} {x3 : Int}  (g_m : G m0 m) (r_x1 : rg x1) (r_x2 : rg x2) (r_x3 : rg x3) (p0 : okS m 274) : CK 12 140 [.ref 0, iv x1, iv x2, iv x3] m (fun m2 v => G m0 m2 ∧ ((True) ∧ (∀ A T F, cA m A → dsR A.Y A.r → tbR m 32 33 F T → v = speA A T F x1 x2 x3))) := by
  refine br_140 r_x1 r_x2 r_x3 ?_
  unfold P_140
  have ok := p0
  have okn := p0.1
  have t73 := ty_7_3 g_m.1
  refine CK.mono (ct_162   g_m.1 r_x1) (by decide) ?_
  rintro m2 v2 r_v2 ⟨e_m2, h_m2⟩
  replace e_m2 := e_m2.symm
  subst e_m2
  refine ⟨fun m_18 => G m0 m_18 ∧ (¬ (0 ≤ x1 ∧ x1 ≤ rd m 7 3 - 1) ∨ ¬ (1 ≤ x3 ∧ x3 ≤ 6)), ?_, ?_⟩
  · skip
    refine ⟨fun hq => ?_, fun hq => ?_⟩
    · skip
      exact ⟨g_m, by omega⟩
    · skip
      refine CK.mono (ct_166   r_x3 (by unfold rg; decide) (by unfold rg; decide)) (by decide) ?_
      rintro m12 v12 r_v12 ⟨e_m12, h_m12⟩
      replace e_m12 := e_m12.symm
      subst e_m12
      refine ⟨fun hq => ?_, fun hq => ?_⟩
      · skip
        refine ⟨x2 < 0 ∨ ¬ x2 < sx 4 x3, ?_, ?_⟩
        · skip
          refine ⟨fun hq => ?_, fun hq => ?_⟩
          · skip
            (omega)
          · skip
            refine ⟨⟨by omega, by omega⟩, ?_⟩
            have sxf1 := sx_4 (j := x3) ⟨by omega, by omega⟩
            refine ⟨fun hq => ?_, fun hq => ?_⟩
            · skip
              refine CV.mono (fy_70   g_m st_274 r_x1 (by omega) (ok.2.1 _ (by omega)) (fun k hk => ok.2.2 _ (by omega))) (by decide) ?_
              rintro m44 ⟨g_m44, h_m44⟩
              refine CK.mono (fy_64   g_m44.1 r_x2 r_x3 (by omega)) (by decide) ?_
              rintro m53 v53 r_v53 ⟨e_m53, h_m53⟩
              replace e_m53 := e_m53.symm
              subst e_m53
              exact ⟨g_m44, by exact ⟨by first | trivial | omega | (refine ⟨?_, ?_⟩ <;> omega), by first | (have u := h_m53; exact fun A T F h ds tb => spe_C (st_C h ds (te_Cx h (by omega)) tb g_m g_m44 h_m44.2) (te_Cx h (by omega)) (by omega) (by omega) (by assumption) h_m53.2) | (have u := hR_33; exact fun A T F h ds tb => spe_n (by omega) hR_33) | exact fun A T F h ds tb => spe_m h hR_18⟩⟩
            · skip
              (omega)
        · intro   hR_33
          exact ⟨g_m, by exact ⟨by first | trivial | omega | (refine ⟨?_, ?_⟩ <;> omega), by first | (have u := h_m53; exact fun A T F h ds tb => spe_C (st_C h ds (te_Cx h (by omega)) tb g_m g_m44 h_m44.2) (te_Cx h (by omega)) (by omega) (by omega) (by assumption) h_m53.2) | (have u := hR_33; exact fun A T F h ds tb => spe_n (by omega) hR_33) | exact fun A T F h ds tb => spe_m h hR_18⟩⟩
      · skip
        exact ⟨g_m, by omega⟩
  · intro m_18  hR_18
    obtain ⟨g_m_18, hR_18⟩ := hR_18
    exact ⟨g_m_18, by exact ⟨by first | trivial | omega | (refine ⟨?_, ?_⟩ <;> omega), by first | (have u := h_m53; exact fun A T F h ds tb => spe_C (st_C h ds (te_Cx h (by omega)) tb g_m g_m44 h_m44.2) (te_Cx h (by omega)) (by omega) (by omega) (by assumption) h_m53.2) | (have u := hR_33; exact fun A T F h ds tb => spe_n (by omega) hR_33) | exact fun A T F h ds tb => spe_m h hR_18⟩⟩
