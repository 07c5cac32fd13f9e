/-- the best of the tippings from s for him who is at turn -/
def plS (mv : Int → Int → Int) (u : Int → Int) (b s : Int) : Nat → Int
  | 0 => -1
  | k + 1 => if mv s (k : Int) = -1 then plS mv u b s k else if plS mv u b s k = -1 ∨ (b = 0 ∧ u (mv s (k : Int)) < plS mv u b s k) ∨ (¬ b = 0 ∧ plS mv u b s k < u (mv s (k : Int))) then u (mv s (k : Int)) else plS mv u b s k
def plF (mv : Int → Int → Int) (mk : Int → Int) : Nat → Int → Int → Int
  | 0, _, s => mk s
  | n + 1, b, s => if plS mv (fun t => plF mv mk n (if b = 0 then 1 else 0) t) b s 4 = -1 then mk s else plS mv (fun t => plF mv mk n (if b = 0 then 1 else 0) t) b s 4
theorem plS_s (mv : Int → Int → Int) (u : Int → Int) (b s x : Int) (h : 0 ≤ x) : plS mv u b s (Int.toNat x + 1) = if mv s x = -1 then plS mv u b s (Int.toNat x) else if plS mv u b s (Int.toNat x) = -1 ∨ (b = 0 ∧ u (mv s x) < plS mv u b s (Int.toNat x)) ∨ (¬ b = 0 ∧ plS mv u b s (Int.toNat x) < u (mv s x)) then u (mv s x) else plS mv u b s (Int.toNat x) := by
  show (if mv s ((Int.toNat x : Nat) : Int) = -1 then plS mv u b s (Int.toNat x) else if plS mv u b s (Int.toNat x) = -1 ∨ (b = 0 ∧ u (mv s ((Int.toNat x : Nat) : Int)) < plS mv u b s (Int.toNat x)) ∨ (¬ b = 0 ∧ plS mv u b s (Int.toNat x) < u (mv s ((Int.toNat x : Nat) : Int))) then u (mv s ((Int.toNat x : Nat) : Int)) else plS mv u b s (Int.toNat x)) = _
  rw [Int.toNat_of_nonneg h]
section PLS
variable {mv : Int → Int → Int} {mk : Int → Int} {b s x v w y : Int} {u : Int → Int}
theorem ply_u {a c : Nat} {d t : Int} (e : w = plF mv mk a d t) (ea : a = c) (es : d = b) : w = plF mv mk c b t := by
  rw [e, ea, es]
theorem ply_0 (e : y = plS mv u b s (Int.toNat x)) (h : 0 ≤ x) (ev : v = mv s x) (n : v = -1) : y = plS mv u b s (Int.toNat x + 1) := by
  rw [plS_s mv u b s x h, ← ev, if_pos n]
  exact e
theorem ply_1 (e : y = plS mv u b s (Int.toNat x)) (h : 0 ≤ x) (ev : v = mv s x) (n : ¬ v = -1) (ew : w = u v) (k : ¬ (y = -1 ∨ (b = 0 ∧ w < y) ∨ (¬ b = 0 ∧ y < w))) : y = plS mv u b s (Int.toNat x + 1) := by
  rw [plS_s mv u b s x h, ← ev, if_neg n, ← ew, ← e, if_neg k]
theorem ply_2 (e : y = plS mv u b s (Int.toNat x)) (h : 0 ≤ x) (ev : v = mv s x) (n : ¬ v = -1) (ew : w = u v) (k : y = -1 ∨ (b = 0 ∧ w < y) ∨ (¬ b = 0 ∧ y < w)) : w = plS mv u b s (Int.toNat x + 1) := by
  rw [plS_s mv u b s x h, ← ev, if_neg n, ← ew, ← e, if_pos k]
theorem ply_e {x2 x3 x5 t : Int} (n : x2 ≤ 0 → y = -1) (e : y = plS mv (fun t => plF mv mk (Int.toNat (x2 - 1)) (if x3 = 0 then 1 else 0) t) x3 s (Int.toNat x5)) (r : 4 ≤ x5 ∨ x2 ≤ 0 ∨ 6 < x2) (h : x5 ≤ 4 ∧ x2 ≤ 6) (q : (¬ y = -1 ∧ v = y) ∨ (y = -1 ∧ v = t)) (et : t = mk s) : v = plF mv mk (Int.toNat x2) x3 s := by
  by_cases c : x2 ≤ 0
  · rw [show Int.toNat x2 = 0 by omega]
    show v = mk s
    have := n c
    omega
  · have e5 : Int.toNat x5 = 4 := by omega
    rw [e5] at e
    rw [show Int.toNat x2 = Int.toNat (x2 - 1) + 1 by omega]
    show v = if plS mv (fun t => plF mv mk (Int.toNat (x2 - 1)) (if x3 = 0 then 1 else 0) t) x3 s 4 = -1 then mk s else plS mv (fun t => plF mv mk (Int.toNat (x2 - 1)) (if x3 = 0 then 1 else 0) t) x3 s 4
    rw [← e]
    rcases q with ⟨q1, q2⟩ | ⟨q1, q2⟩
    · rw [if_neg q1]; exact q2
    · rw [if_pos q1]; exact q2.trans et
/-- the first way behind which u is E -/
def fiK (mv : Int → Int → Int) (u : Int → Int) (s E v : Int) : Prop := (v = -2 ∧ ∀ k : Int, 0 ≤ k → k ≤ 3 → ¬ mv s k = -1 → ¬ u (mv s k) = E) ∨ ((0 ≤ v ∧ v ≤ 3) ∧ (¬ mv s v = -1 ∧ u (mv s v) = E) ∧ ∀ k : Int, 0 ≤ k → k < v → ¬ mv s k = -1 → ¬ u (mv s k) = E)
theorem fiK_u {E : Int} (h : fiK mv u s E v) (k : fiK mv u s E w) : v = w := by
  rcases h with ⟨a, b⟩ | ⟨a, ⟨b1, b2⟩, c⟩ <;> rcases k with ⟨d, e⟩ | ⟨d, ⟨e1, e2⟩, f⟩
  · omega
  · exact absurd e2 (b w d.1 d.2 e1)
  · exact absurd b2 (e v a.1 a.2 b1)
  · rcases Int.lt_trichotomy v w with q | q | q
    · exact absurd b2 (f v a.1 q b1)
    · exact q
    · exact absurd e2 (c w d.1 q e1)
theorem fk_s {E z : Int} (d : ∀ k : Int, 0 ≤ k → k < x → ¬ mv s k = -1 → ¬ u (mv s k) = E) (h : 0 ≤ x ∧ z = x + 1) (n : ¬ mv s x = -1 → ¬ u (mv s x) = E) : ∀ k : Int, 0 ≤ k → k < z → ¬ mv s k = -1 → ¬ u (mv s k) = E := fun k h0 h1 => by
  by_cases q : k < x
  · exact d k h0 q
  · have e : k = x := by omega
    subst e
    exact n
theorem fk_y {E : Int} (d : ∀ k : Int, 0 ≤ k → k < x → ¬ mv s k = -1 → ¬ u (mv s k) = E) (h : 0 ≤ x ∧ x ≤ 3) (ev : v = mv s x) (n : ¬ v = -1) (ew : w = u v) (e : w = E) : fiK mv u s E x := by
  rw [ev] at n ew
  exact Or.inr ⟨h, ⟨n, ew.symm.trans e⟩, d⟩
end PLS
def gamA (A : Ab) (T F : Nat → Int) (x1 x2 x3 v : Int) : Prop := (¬ ((0 ≤ x1 ∧ x1 < A.Y 3) ∧ (1 ≤ x2 ∧ x2 ≤ 6) ∧ 0 ≤ x3 ∧ x3 ≤ 1) ∧ v = -1) ∨ (((0 ≤ x1 ∧ x1 < A.Y 3) ∧ (1 ≤ x2 ∧ x2 ≤ 6) ∧ 0 ≤ x3 ∧ x3 ≤ 1) ∧ ((x3 = 0 ∧ v = plF (mvN A.Y A.r T x1) (fun s => mkN A.r F x1 s 0) (Int.toNat x2) 1 (24 * fC A.r x1)) ∨ (¬ x3 = 0 ∧ fiK (mvN A.Y A.r T x1) (fun t => plF (mvN A.Y A.r T x1) (fun s => mkN A.r F x1 s 0) (Int.toNat (x2 - 1)) 0 t) (24 * fC A.r x1) (plF (mvN A.Y A.r T x1) (fun s => mkN A.r F x1 s 0) (Int.toNat x2) 1 (24 * fC A.r x1)) v)))
theorem gamA_u {A : Ab} {T F : Nat → Int} {x1 x2 x3 v w : Int} (h : gamA A T F x1 x2 x3 v) (k : gamA A T F x1 x2 x3 w) : v = w := by
  rcases h with ⟨a, b⟩ | ⟨a, b⟩ <;> rcases k with ⟨c, d⟩ | ⟨c, d⟩
  · exact b.trans d.symm
  · exact absurd c a
  · exact absurd a c
  · rcases b with ⟨b1, b2⟩ | ⟨b1, b2⟩ <;> rcases d with ⟨d1, d2⟩ | ⟨d1, d2⟩
    · exact b2.trans d2.symm
    · exact absurd b1 d1
    · exact absurd d1 b1
    · exact fiK_u b2 d2
theorem gam_C {m : Mm} {A : Ab} {T F : Nat → Int} {x1 x2 x3 v : Int} (st : stP m A T F x1) (hc : 0 ≤ x1 ∧ x1 < A.Y 3) (h2 : 1 ≤ x2 ∧ x2 ≤ 6) (h3 : 0 ≤ x3 ∧ x3 ≤ 1) (q : ∀ mv mk L, agm m mv L → cloN mv L → tpM m mk → rd m 36 1 < L → (x3 = 0 ∧ v = plF mv mk (Int.toNat x2) 1 (rd m 36 1)) ∨ (¬ x3 = 0 ∧ fiK mv (fun t => plF mv mk (Int.toNat (x2 - 1)) 0 t) (rd m 36 1) (plF mv mk (Int.toNat x2) 1 (rd m 36 1)) v)) : gamA A T F x1 x2 x3 v := by
  obtain ⟨s1, s2, s3, s4, s5, -⟩ := st
  have k := q _ (fun s => mkN A.r F x1 s 0) _ s1 s2 (fun s h0 _ => by
    have e := s3 0 s (by decide) (by decide) h0
    rw [Int.add_zero] at e
    exact e) (by rw [s4]; omega)
  rw [s4] at k
  exact Or.inr ⟨⟨hc, h2, h3⟩, k⟩
theorem gam_n {m : Mm} {A : Ab} {T F : Nat → Int} {x1 x2 x3 : Int} (h : cA m A) (n : ¬ (0 ≤ x1 ∧ x1 ≤ rd m 7 3 - 1) ∨ ¬ (1 ≤ x2 ∧ x2 ≤ 6) ∨ ¬ (0 ≤ x3 ∧ x3 ≤ 1)) : gamA A T F x1 x2 x3 (-1) := by
  rw [h.1.1.2.2.2.1] at n
  exact Or.inl ⟨by omega, rfl⟩
-- TippedCrates$Rows.playFrom(IIZ)I
set_option maxRecDepth 20000 in
theorem fy_68 (N : Nat) : ∀ {m : Mm} {x1 : Int} {x2 : Int} {x3 : Int}  (T_m : Ty m) (r_x1 : rg x1) (r_x2 : rg x2) (r_x3 : rg x3) (p0 : 0 ≤ x1 ∧ x1 ≤ 599) (hN : Int.toNat x2 < N), CK (N + 3) 68 [.ref 49, iv x1, iv x2, iv x3] m (fun m2 v => m2 = m ∧ ((True) ∧ (∀ mv mk L, agm m mv L → cloN mv L → tpM m mk → x1 < L → x2 ≤ 6 → v = plF mv mk (Int.toNat x2) x3 x1))) := by
  induction N with
  | zero => intros; omega
  | succ N ih =>
    intro m x1 x2 x3 T_m r_x1 r_x2 r_x3 p0 hN
    refine br_68 (d := N + 3) r_x1 r_x2 r_x3 ?_
    unfold P_68
    refine ⟨fun x4_6 x5_6 m_6 => m_6 = m ∧ ((0 ≤ x5_6 ∧ x5_6 ≤ 4) ∧ ((x2 ≤ 0 → x4_6 = -1) ∧ ∀ mv mk L, agm m mv L → cloN mv L → tpM m mk → x1 < L → x2 ≤ 6 → x4_6 = plS mv (fun t => plF mv mk (Int.toNat (x2 - 1)) (if x3 = 0 then 1 else 0) t) x3 x1 (Int.toNat x5_6))), fun x4_6 x5_6 m_6 => Int.toNat (4 - x5_6), ?_, ?_⟩
    · exact ⟨rfl, by exact ⟨by first | omega | (refine ⟨?_, ?_⟩ <;> omega) | trivial, by exact ⟨fun _ => rfl, fun _ _ _ _ _ _ _ _ => rfl⟩⟩⟩
    · intro x4_6 x5_6 m_6 r_x4_6 r_x5_6 hI_6
      obtain ⟨e_m_6, hI_6⟩ := hI_6
      replace e_m_6 := e_m_6.symm
      subst e_m_6
      obtain ⟨hI_6, dI_6⟩ := hI_6
      refine ⟨4 ≤ x5_6 ∨ x2 ≤ 0 ∨ 6 < x2, ?_, ?_⟩
      · skip
        refine ⟨fun hq => ?_, fun hq => ?_⟩
        · skip
          (omega)
        · skip
          refine ⟨fun hq => ?_, fun hq => ?_⟩
          · skip
            (omega)
          · skip
            refine ⟨fun hq => ?_, fun hq => ?_⟩
            · skip
              (omega)
            · skip
              refine CK.mono (ct_71   T_m r_x1 r_x5_6 (by omega) (by omega)) (by omega) ?_
              rintro m29 v29 r_v29 ⟨e_m29, h_m29⟩
              replace e_m29 := e_m29.symm
              subst e_m29
              refine ⟨fun y4_94 m_94 => m_94 = m ∧ (∀ mv mk L, agm m mv L → cloN mv L → tpM m mk → x1 < L → x2 ≤ 6 → y4_94 = plS mv (fun t => plF mv mk (Int.toNat (x2 - 1)) (if x3 = 0 then 1 else 0) t) x3 x1 (Int.toNat x5_6 + 1)), ?_, ?_⟩
              · skip
                refine ⟨fun hq => ?_, fun hq => ?_⟩
                · skip
                  refine ⟨fun s3_58 => s3_58 = if x3 = 0 then 1 else 0, ?_, ?_⟩
                  · skip
                    refine ⟨fun hq => ?_, fun hq => ?_⟩
                    · skip
                      (first | exact (if_pos (by assumption)).symm | exact (if_neg (by assumption)).symm)
                    · skip
                      (first | exact (if_pos (by assumption)).symm | exact (if_neg (by assumption)).symm)
                  · intro s3_58 r_s3_58 hR_58
                    try have w1 : wr (x2 - 1) = x2 - 1 := wr_id (by omega) (by omega)
                    refine CK.mono (ih T_m r_v29 (wr_rg _) r_s3_58 (by omega) (by omega)) (Nat.le_refl _) ?_
                    rintro m58 v58 r_v58 ⟨e_m58, h_m58⟩
                    replace e_m58 := e_m58.symm
                    subst e_m58
                    refine ⟨x4_6 = -1 ∨ (x3 = 0 ∧ v58 < x4_6) ∨ (¬ x3 = 0 ∧ x4_6 < v58), ?_, ?_⟩
                    · skip
                      refine ⟨fun hq => ?_, fun hq => ?_⟩
                      · skip
                        (omega)
                      · skip
                        refine ⟨fun hq => ?_, fun hq => ?_⟩
                        · skip
                          refine ⟨fun hq => ?_, fun hq => ?_⟩
                          · skip
                            exact ⟨rfl, by first | (have u := hR_90; exact fun mv mk L ag cl tm h1 h2 => ply_2 (dI_6.2 mv mk L ag cl tm h1 h2) (by omega) (ag x1 x5_6 v29 (by omega) h1 (by omega) (by omega) h_m29.2.2) (by omega) (ply_u (h_m58.2 mv mk L ag cl tm (sp_lt cl (by omega) h1 (by omega) (ag x1 x5_6 v29 (by omega) h1 (by omega) (by omega) h_m29.2.2) (by omega)) (by omega)) (by omega) hR_58) hR_90) | (have u := h_m58; exact fun mv mk L ag cl tm h1 h2 => ply_1 (dI_6.2 mv mk L ag cl tm h1 h2) (by omega) (ag x1 x5_6 v29 (by omega) h1 (by omega) (by omega) h_m29.2.2) (by omega) (ply_u (h_m58.2 mv mk L ag cl tm (sp_lt cl (by omega) h1 (by omega) (ag x1 x5_6 v29 (by omega) h1 (by omega) (by omega) h_m29.2.2) (by omega)) (by omega)) (by omega) hR_58) (by omega)) | exact fun mv mk L ag cl tm h1 h2 => ply_0 (dI_6.2 mv mk L ag cl tm h1 h2) (by omega) (ag x1 x5_6 v29 (by omega) h1 (by omega) (by omega) h_m29.2.2) (by assumption)⟩
                          · skip
                            (omega)
                        · skip
                          refine ⟨fun hq => ?_, fun hq => ?_⟩
                          · skip
                            exact ⟨rfl, by first | (have u := hR_90; exact fun mv mk L ag cl tm h1 h2 => ply_2 (dI_6.2 mv mk L ag cl tm h1 h2) (by omega) (ag x1 x5_6 v29 (by omega) h1 (by omega) (by omega) h_m29.2.2) (by omega) (ply_u (h_m58.2 mv mk L ag cl tm (sp_lt cl (by omega) h1 (by omega) (ag x1 x5_6 v29 (by omega) h1 (by omega) (by omega) h_m29.2.2) (by omega)) (by omega)) (by omega) hR_58) hR_90) | (have u := h_m58; exact fun mv mk L ag cl tm h1 h2 => ply_1 (dI_6.2 mv mk L ag cl tm h1 h2) (by omega) (ag x1 x5_6 v29 (by omega) h1 (by omega) (by omega) h_m29.2.2) (by omega) (ply_u (h_m58.2 mv mk L ag cl tm (sp_lt cl (by omega) h1 (by omega) (ag x1 x5_6 v29 (by omega) h1 (by omega) (by omega) h_m29.2.2) (by omega)) (by omega)) (by omega) hR_58) (by omega)) | exact fun mv mk L ag cl tm h1 h2 => ply_0 (dI_6.2 mv mk L ag cl tm h1 h2) (by omega) (ag x1 x5_6 v29 (by omega) h1 (by omega) (by omega) h_m29.2.2) (by assumption)⟩
                          · skip
                            (omega)
                    · intro   hR_90
                      exact ⟨rfl, by first | (have u := hR_90; exact fun mv mk L ag cl tm h1 h2 => ply_2 (dI_6.2 mv mk L ag cl tm h1 h2) (by omega) (ag x1 x5_6 v29 (by omega) h1 (by omega) (by omega) h_m29.2.2) (by omega) (ply_u (h_m58.2 mv mk L ag cl tm (sp_lt cl (by omega) h1 (by omega) (ag x1 x5_6 v29 (by omega) h1 (by omega) (by omega) h_m29.2.2) (by omega)) (by omega)) (by omega) hR_58) hR_90) | (have u := h_m58; exact fun mv mk L ag cl tm h1 h2 => ply_1 (dI_6.2 mv mk L ag cl tm h1 h2) (by omega) (ag x1 x5_6 v29 (by omega) h1 (by omega) (by omega) h_m29.2.2) (by omega) (ply_u (h_m58.2 mv mk L ag cl tm (sp_lt cl (by omega) h1 (by omega) (ag x1 x5_6 v29 (by omega) h1 (by omega) (by omega) h_m29.2.2) (by omega)) (by omega)) (by omega) hR_58) (by omega)) | exact fun mv mk L ag cl tm h1 h2 => ply_0 (dI_6.2 mv mk L ag cl tm h1 h2) (by omega) (ag x1 x5_6 v29 (by omega) h1 (by omega) (by omega) h_m29.2.2) (by assumption)⟩
                · skip
                  exact ⟨rfl, by first | (have u := hR_90; exact fun mv mk L ag cl tm h1 h2 => ply_2 (dI_6.2 mv mk L ag cl tm h1 h2) (by omega) (ag x1 x5_6 v29 (by omega) h1 (by omega) (by omega) h_m29.2.2) (by omega) (ply_u (h_m58.2 mv mk L ag cl tm (sp_lt cl (by omega) h1 (by omega) (ag x1 x5_6 v29 (by omega) h1 (by omega) (by omega) h_m29.2.2) (by omega)) (by omega)) (by omega) hR_58) hR_90) | (have u := h_m58; exact fun mv mk L ag cl tm h1 h2 => ply_1 (dI_6.2 mv mk L ag cl tm h1 h2) (by omega) (ag x1 x5_6 v29 (by omega) h1 (by omega) (by omega) h_m29.2.2) (by omega) (ply_u (h_m58.2 mv mk L ag cl tm (sp_lt cl (by omega) h1 (by omega) (ag x1 x5_6 v29 (by omega) h1 (by omega) (by omega) h_m29.2.2) (by omega)) (by omega)) (by omega) hR_58) (by omega)) | exact fun mv mk L ag cl tm h1 h2 => ply_0 (dI_6.2 mv mk L ag cl tm h1 h2) (by omega) (ag x1 x5_6 v29 (by omega) h1 (by omega) (by omega) h_m29.2.2) (by assumption)⟩
              · intro y4_94 m_94 r_y4_94 hR_94
                obtain ⟨e_m_94, hR_94⟩ := hR_94
                replace e_m_94 := e_m_94.symm
                subst e_m_94
                try have w2 : wr (x5_6 + 1) = x5_6 + 1 := wr_id (by omega) (by omega)
                intro z5_94 e_z5_94
                have r_z5_94 : rg z5_94 := by rw [e_z5_94]; exact wr_rg _
                exact ⟨⟨rfl, by exact ⟨by first | omega | (refine ⟨?_, ?_⟩ <;> omega) | trivial, by exact ⟨fun _ => by omega, fun mv mk L ag cl tm h1 h2 => (hR_94 mv mk L ag cl tm h1 h2).trans (congrArg (plS mv (fun t => plF mv mk (Int.toNat (x2 - 1)) (if x3 = 0 then 1 else 0) t) x3 x1) (by omega))⟩⟩⟩, by (try dsimp only); omega⟩
      · intro   hR_100
        refine ⟨fun s0_119 m_119 => m_119 = m ∧ ((¬ x4_6 = -1 ∧ s0_119 = x4_6) ∨ (x4_6 = -1 ∧ s0_119 = rd m 38 (Int.toNat (rd m 32 (Int.toNat (x1 % 24 * 6)))))), ?_, ?_⟩
        · skip
          refine ⟨fun hq => ?_, fun hq => ?_⟩
          · skip
            exact ⟨rfl, by first | exact Or.inr ⟨by assumption, h_m111.1⟩ | exact Or.inl ⟨by assumption, rfl⟩⟩
          · skip
            refine CK.mono (ct_72   T_m r_x1 (by omega)) (by omega) ?_
            rintro m111 v111 r_v111 ⟨e_m111, h_m111⟩
            replace e_m111 := e_m111.symm
            subst e_m111
            exact ⟨rfl, by first | exact Or.inr ⟨by assumption, h_m111.1⟩ | exact Or.inl ⟨by assumption, rfl⟩⟩
        · intro s0_119 m_119 r_s0_119 hR_119
          obtain ⟨e_m_119, hR_119⟩ := hR_119
          replace e_m_119 := e_m_119.symm
          subst e_m_119
          exact ⟨rfl, by exact ⟨by first | trivial | omega | (refine ⟨?_, ?_⟩ <;> omega), by exact fun mv mk L ag cl tm h1 h2 => ply_e dI_6.1 (dI_6.2 mv mk L ag cl tm h1 h2) hR_100 (by omega) hR_119 (tm x1 (by omega) (by omega))⟩⟩
-- TippedCrates$Rows.endOfGame(I)I
set_option maxRecDepth 20000 in
theorem fy_66 {m : Mm} {x1 : Int}  (T_m : Ty m) (r_x1 : rg x1) (p0 : 1 ≤ x1 ∧ x1 ≤ 6) : CK 11 66 [.ref 49, iv x1] m (fun m2 v => m2 = m ∧ ((True) ∧ (∀ mv mk L, agm m mv L → cloN mv L → tpM m mk → rd m 36 1 < L → v = plF mv mk (Int.toNat x1) 1 (rd m 36 1)))) := by
  refine br_66 r_x1 ?_
  unfold P_66
  have t1 := ty_36_1 T_m
  refine CK.mono (fy_68 7  T_m (rd_rg _ _ _) r_x1 (by unfold rg; decide) (by omega) (by omega)) (by decide) ?_
  rintro m10 v10 r_v10 ⟨e_m10, h_m10⟩
  replace e_m10 := e_m10.symm
  subst e_m10
  exact ⟨rfl, by exact ⟨by first | trivial | omega | (refine ⟨?_, ?_⟩ <;> omega), by exact fun mv mk L ag cl tm h1 => h_m10.2 mv mk L ag cl tm h1 (by omega)⟩⟩
-- TippedCrates$Rows.openingWay(II)I
set_option maxRecDepth 20000 in
theorem fy_67 {m : Mm} {x1 : Int} {x2 : Int}  (T_m : Ty m) (r_x1 : rg x1) (r_x2 : rg x2) (p0 : 1 ≤ x2 ∧ x2 ≤ 6) : CK 11 67 [.ref 49, iv x1, iv x2] m (fun m2 v => m2 = m ∧ ((True) ∧ (∀ mv mk L, agm m mv L → cloN mv L → tpM m mk → rd m 36 1 < L → fiK mv (fun t => plF mv mk (Int.toNat (x2 - 1)) 0 t) (rd m 36 1) x1 v))) := by
  refine br_67 r_x1 r_x2 ?_
  unfold P_67
  refine ⟨fun x3_2 m_2 => m_2 = m ∧ ((0 ≤ x3_2 ∧ x3_2 ≤ 4) ∧ (∀ mv mk L, agm m mv L → cloN mv L → tpM m mk → rd m 36 1 < L → ∀ k : Int, 0 ≤ k → k < x3_2 → ¬ mv (rd m 36 1) k = -1 → ¬ (fun t => plF mv mk (Int.toNat (x2 - 1)) 0 t) (mv (rd m 36 1) k) = x1)), fun x3_2 m_2 => Int.toNat (4 - x3_2), ?_, ?_⟩
  · exact ⟨rfl, by exact ⟨by first | omega | (refine ⟨?_, ?_⟩ <;> omega) | trivial, by exact fun _ _ _ _ _ _ _ k h0 h1 => by omega⟩⟩
  · intro x3_2 m_2 r_x3_2 hI_2
    obtain ⟨e_m_2, hI_2⟩ := hI_2
    replace e_m_2 := e_m_2.symm
    subst e_m_2
    obtain ⟨hI_2, dI_2⟩ := hI_2
    refine ⟨fun hq => ?_, fun hq => ?_⟩
    · skip
      exact ⟨rfl, by exact ⟨by first | trivial | omega | (refine ⟨?_, ?_⟩ <;> omega), by first | (have u := h_m37; exact fun mv mk L ag cl tm h1 => fk_y (dI_2 mv mk L ag cl tm h1) (by omega) (ag (rd m 36 1) x3_2 v19 (by omega) h1 (by omega) (by omega) h_m19.2.2) (by omega) (ply_u (h_m37.2 mv mk L ag cl tm (sp_lt cl (by omega) h1 (by omega) (ag (rd m 36 1) x3_2 v19 (by omega) h1 (by omega) (by omega) h_m19.2.2) (by omega)) (by omega)) (by omega) rfl) (by assumption)) | exact fun mv mk L ag cl tm h1 => Or.inl ⟨rfl, fun k k0 k1 => dI_2 mv mk L ag cl tm h1 k k0 (by omega)⟩⟩⟩
    · skip
      have t1 := ty_36_1 T_m
      refine CK.mono (ct_71   T_m (rd_rg _ _ _) r_x3_2 (by omega) (by omega)) (by decide) ?_
      rintro m19 v19 r_v19 ⟨e_m19, h_m19⟩
      replace e_m19 := e_m19.symm
      subst e_m19
      refine ⟨fun m_46 => m_46 = m ∧ (∀ mv mk L, agm m mv L → cloN mv L → tpM m mk → rd m 36 1 < L → ¬ mv (rd m 36 1) x3_2 = -1 → ¬ (fun t => plF mv mk (Int.toNat (x2 - 1)) 0 t) (mv (rd m 36 1) x3_2) = x1), ?_, ?_⟩
      · skip
        refine ⟨fun hq => ?_, fun hq => ?_⟩
        · skip
          exact ⟨rfl, by first | (have u := h_m37; exact fun mv mk L ag cl tm h1 n w => by rw [← (ag (rd m 36 1) x3_2 v19 (by omega) h1 (by omega) (by omega) h_m19.2.2)] at w; exact absurd (Eq.trans (ply_u (h_m37.2 mv mk L ag cl tm (sp_lt cl (by omega) h1 (by omega) (ag (rd m 36 1) x3_2 v19 (by omega) h1 (by omega) (by omega) h_m19.2.2) (by omega)) (by omega)) (by omega) rfl) w) (by assumption)) | exact fun mv mk L ag cl tm h1 n w => n (by rw [← (ag (rd m 36 1) x3_2 v19 (by omega) h1 (by omega) (by omega) h_m19.2.2)]; assumption)⟩
        · skip
          try have w2 : wr (x2 - 1) = x2 - 1 := wr_id (by omega) (by omega)
          refine CK.mono (fy_68 7  T_m r_v19 (wr_rg _) (by unfold rg; decide) (by omega) (by omega)) (by decide) ?_
          rintro m37 v37 r_v37 ⟨e_m37, h_m37⟩
          replace e_m37 := e_m37.symm
          subst e_m37
          refine ⟨fun hq => ?_, fun hq => ?_⟩
          · skip
            exact ⟨rfl, by first | (have u := h_m37; exact fun mv mk L ag cl tm h1 n w => by rw [← (ag (rd m 36 1) x3_2 v19 (by omega) h1 (by omega) (by omega) h_m19.2.2)] at w; exact absurd (Eq.trans (ply_u (h_m37.2 mv mk L ag cl tm (sp_lt cl (by omega) h1 (by omega) (ag (rd m 36 1) x3_2 v19 (by omega) h1 (by omega) (by omega) h_m19.2.2) (by omega)) (by omega)) (by omega) rfl) w) (by assumption)) | exact fun mv mk L ag cl tm h1 n w => n (by rw [← (ag (rd m 36 1) x3_2 v19 (by omega) h1 (by omega) (by omega) h_m19.2.2)]; assumption)⟩
          · skip
            exact ⟨rfl, by exact ⟨by first | trivial | omega | (refine ⟨?_, ?_⟩ <;> omega), by first | (have u := h_m37; exact fun mv mk L ag cl tm h1 => fk_y (dI_2 mv mk L ag cl tm h1) (by omega) (ag (rd m 36 1) x3_2 v19 (by omega) h1 (by omega) (by omega) h_m19.2.2) (by omega) (ply_u (h_m37.2 mv mk L ag cl tm (sp_lt cl (by omega) h1 (by omega) (ag (rd m 36 1) x3_2 v19 (by omega) h1 (by omega) (by omega) h_m19.2.2) (by omega)) (by omega)) (by omega) rfl) (by assumption)) | exact fun mv mk L ag cl tm h1 => Or.inl ⟨rfl, fun k k0 k1 => dI_2 mv mk L ag cl tm h1 k k0 (by omega)⟩⟩⟩
      · intro m_46  hR_46
        obtain ⟨e_m_46, hR_46⟩ := hR_46
        replace e_m_46 := e_m_46.symm
        subst e_m_46
        try have w3 : wr (x3_2 + 1) = x3_2 + 1 := wr_id (by omega) (by omega)
        intro z3_46 e_z3_46
        have r_z3_46 : rg z3_46 := by rw [e_z3_46]; exact wr_rg _
        exact ⟨⟨rfl, by exact ⟨by first | omega | (refine ⟨?_, ?_⟩ <;> omega) | trivial, by exact fun mv mk L ag cl tm h1 => fk_s (dI_2 mv mk L ag cl tm h1) (by omega) (hR_46 mv mk L ag cl tm h1)⟩⟩, by (try dsimp only); omega⟩
-- TippedCrates.game(III)I
set_option maxRecDepth 20000 in
theorem fy_141 {m0 m : Mm} {x1 : Int} {x2 : Int} {x3 : Int}  (g_m : G m0 m) (r_x1 : rg x1) (r_x2 : rg x2) (r_x3 : rg x3) (p0 : okS m 274) : CK 12 141 [.ref 0, iv x1, iv x2, iv x3] m (fun m2 v => G m0 m2 ∧ ((True) ∧ (∀ A T F, cA m A → dsR A.Y A.r → tbR m 32 33 F T → gamA A T F x1 x2 x3 v))) := by
  refine br_141 r_x1 r_x2 r_x3 ?_
  unfold P_141
  have ok := p0
  have okn := p0.1
  have t73 := ty_7_3 g_m.1
  refine CK.mono (ct_162   g_m.1 r_x1) (by decide) ?_
  rintro m2 v2 r_v2 ⟨e_m2, h_m2⟩
  replace e_m2 := e_m2.symm
  subst e_m2
  refine ⟨fun m_27 => G m0 m_27 ∧ (¬ (0 ≤ x1 ∧ x1 ≤ rd m 7 3 - 1) ∨ ¬ (1 ≤ x2 ∧ x2 ≤ 6) ∨ ¬ (0 ≤ x3 ∧ x3 ≤ 1)), ?_, ?_⟩
  · skip
    refine ⟨fun hq => ?_, fun hq => ?_⟩
    · skip
      exact ⟨g_m, by omega⟩
    · skip
      refine CK.mono (ct_166   r_x2 (by unfold rg; decide) (by unfold rg; decide)) (by decide) ?_
      rintro m12 v12 r_v12 ⟨e_m12, h_m12⟩
      replace e_m12 := e_m12.symm
      subst e_m12
      refine ⟨fun hq => ?_, fun hq => ?_⟩
      · skip
        exact ⟨g_m, by omega⟩
      · skip
        refine CK.mono (ct_166   r_x3 (by unfold rg; decide) (by unfold rg; decide)) (by decide) ?_
        rintro m21 v21 r_v21 ⟨e_m21, h_m21⟩
        replace e_m21 := e_m21.symm
        subst e_m21
        refine ⟨fun hq => ?_, fun hq => ?_⟩
        · skip
          refine CV.mono (fy_70   g_m st_274 r_x1 (by omega) (ok.2.1 _ (by omega)) (fun k hk => ok.2.2 _ (by omega))) (by decide) ?_
          rintro m38 ⟨g_m38, h_m38⟩
          refine CK.mono (fy_66   g_m38.1 r_x2 (by omega)) (by decide) ?_
          rintro m46 v46 r_v46 ⟨e_m46, h_m46⟩
          replace e_m46 := e_m46.symm
          subst e_m46
          refine ⟨fun s0_70 m_70 => G m0 m_70 ∧ (∀ mv mk L, agm m38 mv L → cloN mv L → tpM m38 mk → rd m38 36 1 < L → (x3 = 0 ∧ s0_70 = plF mv mk (Int.toNat x2) 1 (rd m38 36 1)) ∨ (¬ x3 = 0 ∧ fiK mv (fun t => plF mv mk (Int.toNat (x2 - 1)) 0 t) (rd m38 36 1) (plF mv mk (Int.toNat x2) 1 (rd m38 36 1)) s0_70)), ?_, ?_⟩
          · skip
            refine ⟨fun hq => ?_, fun hq => ?_⟩
            · skip
              refine CK.mono (fy_67   g_m38.1 r_v46 r_x2 (by omega)) (by decide) ?_
              rintro m67 v67 r_v67 ⟨e_m67, h_m67⟩
              replace e_m67 := e_m67.symm
              subst e_m67
              exact ⟨g_m38, by first | (have u := h_m67; exact fun mv mk L ag cl tm h1 => Or.inr ⟨by assumption, by rw [← h_m46.2 mv mk L ag cl tm h1]; exact h_m67.2 mv mk L ag cl tm h1⟩) | exact fun mv mk L ag cl tm h1 => Or.inl ⟨by assumption, h_m46.2 mv mk L ag cl tm h1⟩⟩
            · skip
              exact ⟨g_m38, by first | (have u := h_m67; exact fun mv mk L ag cl tm h1 => Or.inr ⟨by assumption, by rw [← h_m46.2 mv mk L ag cl tm h1]; exact h_m67.2 mv mk L ag cl tm h1⟩) | exact fun mv mk L ag cl tm h1 => Or.inl ⟨by assumption, h_m46.2 mv mk L ag cl tm h1⟩⟩
          · intro s0_70 m_70 r_s0_70 hR_70
            obtain ⟨g_m_70, hR_70⟩ := hR_70
            exact ⟨g_m_70, by exact ⟨by first | trivial | omega | (refine ⟨?_, ?_⟩ <;> omega), by first | (have u := hR_70; exact fun A T F h ds tb => gam_C (st_C h ds (te_Cx h (by omega)) tb g_m g_m38 h_m38.2) (te_Cx h (by omega)) (by omega) (by omega) hR_70) | exact fun A T F h ds tb => gam_n h hR_27⟩⟩
        · skip
          exact ⟨g_m, by omega⟩
  · intro m_27  hR_27
    obtain ⟨g_m_27, hR_27⟩ := hR_27
    exact ⟨g_m_27, by exact ⟨by first | trivial | omega | (refine ⟨?_, ?_⟩ <;> omega), by first | (have u := hR_70; exact fun A T F h ds tb => gam_C (st_C h ds (te_Cx h (by omega)) tb g_m g_m38 h_m38.2) (te_Cx h (by omega)) (by omega) (by omega) hR_70) | exact fun A T F h ds tb => gam_n h hR_27⟩⟩
