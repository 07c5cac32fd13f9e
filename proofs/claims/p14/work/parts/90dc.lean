def tknM (m : Mm) (c f : Int) : Prop := ∃ o : Int, 0 ≤ o ∧ o < rd m 302 (Int.toNat (rd m 284 18)) ∧ ¬ o = c ∧ rd m 323 (Int.toNat (43 + o)) = f
def cfM (m : Mm) (c f k : Int) : Prop := ¬ fbyI (rd m 293 (Int.toNat (rd m 284 18))) (rd m 294 (Int.toNat (rd m 284 18))) f k < 0 ∧ ¬ anI (srI (rd m 284 59) (fbyI (rd m 293 (Int.toNat (rd m 284 18))) (rd m 294 (Int.toNat (rd m 284 18))) f k)) 1 = 1 ∧ ¬ tknM m c (fbyI (rd m 293 (Int.toNat (rd m 284 18))) (rd m 294 (Int.toNat (rd m 284 18))) f k)
/-- a look in the model's rows -/
def vfI (m : Mm) (x1 x2 x3 x4 i : Int) : Int := if i = 0 then tXI (rd m 293 (Int.toNat (rd m 284 18))) x2 x4 else if i = 1 then tYI (rd m 293 (Int.toNat (rd m 284 18))) x2 x4 else if i = 2 then (if 0 ≤ fbyI (rd m 293 (Int.toNat (rd m 284 18))) (rd m 294 (Int.toNat (rd m 284 18))) x2 x4 then rd m 323 (Int.toNat (fbyI (rd m 293 (Int.toNat (rd m 284 18))) (rd m 294 (Int.toNat (rd m 284 18))) x2 x4)) else 0) else if i = 3 then rd m 323 (Int.toNat (25 + 6 * x1 + rd m 319 (Int.toNat (6 * rd m 320 (Int.toNat (4 * x3 + x4)) + 0)))) else if i = 4 then rd m 323 (Int.toNat (25 + 6 * x1 + rd m 319 (Int.toNat (6 * rd m 320 (Int.toNat (4 * x3 + x4)) + 1)))) else if i = 5 then rd m 323 (Int.toNat (46 + x1)) else if i = 6 then rd m 323 49 else if i = 7 then x1 else x4
def vfX (m m2 : Mm) (x1 x2 x3 x4 : Int) : Prop := ∀ i : Int, 0 ≤ i → i ≤ 8 → vaM m2 i = vfI m x1 x2 x3 x4 i
theorem sV_no {i j : Nat} (h1 : ¬ i = 317) (h2 : ¬ i = 318) (h3 : ¬ (i = 284 ∧ j = 51)) : sV i j = false := by
  unfold sV
  rw [nb_ne h1, nb_ne h2]
  cases q : Nat.beq i 284 with
  | false => rfl
  | true =>
    cases q2 : Nat.beq j 51 with
    | false => rfl
    | true => exact absurd ⟨nb_eq q, nb_eq q2⟩ h3
theorem tx_e {x1 x2 v w : Int} (h : (v = x1 % w + 1 ∧ x2 = 0) ∨ (v = x1 % w - 1 ∧ x2 = 2) ∨ (v = x1 % w ∧ (x2 = 1 ∨ x2 = 3))) : v = tXI w x1 x2 := by
  unfold tXI
  rcases h with ⟨h, rfl⟩ | ⟨h, rfl⟩ | ⟨h, rfl | rfl⟩ <;> simp <;> omega
theorem ty_e {x1 x2 v w : Int} (h : (v = x1 / w + 1 ∧ x2 = 1) ∨ (v = x1 / w - 1 ∧ x2 = 3) ∨ (v = x1 / w ∧ (x2 = 0 ∨ x2 = 2))) : v = tYI w x1 x2 := by
  unfold tYI
  rcases h with ⟨h, rfl⟩ | ⟨h, rfl⟩ | ⟨h, rfl | rfl⟩ <;> simp <;> omega
theorem vf_of {m m34 m47 m69 m83 m97 m112 m126 m134 m143 : Mm} {x1 x2 x3 x4 z6 v31 v44 s v80 v94 : Int} (hx1 : 0 ≤ x1 ∧ x1 ≤ 2) (_hx4 : 0 ≤ x4 ∧ x4 ≤ 3) (e6 : z6 = rd m 320 (Int.toNat (4 * x3 + x4))) (r31 : rg v31) (r44 : rg v44) (rs : rg s) (r80 : rg v80) (r94 : rg v94) (r1 : rg x1) (r4 : rg x4) (h31 : (v31 = x2 % (rd m 293 (Int.toNat (rd m 284 18))) + 1 ∧ x4 = 0) ∨ (v31 = x2 % (rd m 293 (Int.toNat (rd m 284 18))) - 1 ∧ x4 = 2) ∨ (v31 = x2 % (rd m 293 (Int.toNat (rd m 284 18))) ∧ (x4 = 1 ∨ x4 = 3))) (e34 : m34 = wt m 317 0 v31) (h44 : (v44 = x2 / (rd m34 293 (Int.toNat (rd m34 284 18))) + 1 ∧ x4 = 1) ∨ (v44 = x2 / (rd m34 293 (Int.toNat (rd m34 284 18))) - 1 ∧ x4 = 3) ∨ (v44 = x2 / (rd m34 293 (Int.toNat (rd m34 284 18))) ∧ (x4 = 0 ∨ x4 = 2))) (e47 : m47 = wt m34 317 1 v44) (hs : s = (if 0 ≤ fbyI (rd m 293 (Int.toNat (rd m 284 18))) (rd m 294 (Int.toNat (rd m 284 18))) x2 x4 then rd m 323 (Int.toNat (fbyI (rd m 293 (Int.toNat (rd m 284 18))) (rd m 294 (Int.toNat (rd m 284 18))) x2 x4)) else 0)) (e69 : m69 = wt m47 317 2 s) (h80 : v80 = rd m69 323 (Int.toNat (25 + 6 * x1 + rd m69 319 (Int.toNat (6 * z6 + 0))))) (e83 : m83 = wt m69 317 3 v80) (h94 : v94 = rd m83 323 (Int.toNat (25 + 6 * x1 + rd m83 319 (Int.toNat (6 * z6 + 1))))) (e97 : m97 = wt m83 317 4 v94) (e112 : m112 = wt m97 317 5 (rd m97 323 (Int.toNat (wr (46 + x1))))) (e126 : m126 = wt m112 317 6 (rd m112 323 49)) (e134 : m134 = wt m126 317 7 x1) (e143 : m143 = wt m134 317 8 x4) : vfX m m143 x1 x2 x3 x4 := by
  have f34 : ∀ i j : Nat, ¬ i = 317 → rd m34 i j = rd m i j := fun i j q => by rw [e34, rd_wt, if_neg (by omega)]
  have f69 : ∀ i j : Nat, ¬ i = 317 → rd m69 i j = rd m i j := fun i j q => by rw [e69, rd_wt, if_neg (by omega), e47, rd_wt, if_neg (by omega)]; exact f34 i j q
  have f83 : ∀ i j : Nat, ¬ i = 317 → rd m83 i j = rd m i j := fun i j q => by rw [e83, rd_wt, if_neg (by omega)]; exact f69 i j q
  have f97 : ∀ i j : Nat, ¬ i = 317 → rd m97 i j = rd m i j := fun i j q => by rw [e97, rd_wt, if_neg (by omega)]; exact f83 i j q
  have f112 : ∀ i j : Nat, ¬ i = 317 → rd m112 i j = rd m i j := fun i j q => by rw [e112, rd_wt, if_neg (by omega)]; exact f97 i j q
  have t31 := tx_e h31
  rw [f34 284 18 (by decide), f34 293 _ (by decide)] at h44
  have t44 := ty_e h44
  rw [f69 319 _ (by decide), f69 323 _ (by decide), e6] at h80
  rw [f83 319 _ (by decide), f83 323 _ (by decide), e6] at h94
  intro i h0 h8
  have hi : i = 0 ∨ i = 1 ∨ i = 2 ∨ i = 3 ∨ i = 4 ∨ i = 5 ∨ i = 6 ∨ i = 7 ∨ i = 8 := by omega
  unfold vaM vfI
  rcases hi with rfl | rfl | rfl | rfl | rfl | rfl | rfl | rfl | rfl
  · rw [if_pos rfl, e143, rd_wt, if_neg (by omega), e134, rd_wt, if_neg (by omega), e126, rd_wt, if_neg (by omega), e112, rd_wt, if_neg (by omega), e97, rd_wt, if_neg (by omega), e83, rd_wt, if_neg (by omega), e69, rd_wt, if_neg (by omega), e47, rd_wt, if_neg (by omega), e34, rd_wt, if_pos ⟨rfl, rfl⟩, wr_i r31, t31]
  · rw [if_neg (by decide), if_pos rfl, e143, rd_wt, if_neg (by omega), e134, rd_wt, if_neg (by omega), e126, rd_wt, if_neg (by omega), e112, rd_wt, if_neg (by omega), e97, rd_wt, if_neg (by omega), e83, rd_wt, if_neg (by omega), e69, rd_wt, if_neg (by omega), e47, rd_wt, if_pos ⟨rfl, rfl⟩, wr_i r44, t44]
  · rw [if_neg (by decide), if_neg (by decide), if_pos rfl, e143, rd_wt, if_neg (by omega), e134, rd_wt, if_neg (by omega), e126, rd_wt, if_neg (by omega), e112, rd_wt, if_neg (by omega), e97, rd_wt, if_neg (by omega), e83, rd_wt, if_neg (by omega), e69, rd_wt, if_pos ⟨rfl, rfl⟩, wr_i rs, hs]
  · rw [if_neg (by decide), if_neg (by decide), if_neg (by decide), if_pos rfl, e143, rd_wt, if_neg (by omega), e134, rd_wt, if_neg (by omega), e126, rd_wt, if_neg (by omega), e112, rd_wt, if_neg (by omega), e97, rd_wt, if_neg (by omega), e83, rd_wt, if_pos ⟨rfl, rfl⟩, wr_i r80, h80]
  · rw [if_neg (by decide), if_neg (by decide), if_neg (by decide), if_neg (by decide), if_pos rfl, e143, rd_wt, if_neg (by omega), e134, rd_wt, if_neg (by omega), e126, rd_wt, if_neg (by omega), e112, rd_wt, if_neg (by omega), e97, rd_wt, if_pos ⟨rfl, rfl⟩, wr_i r94, h94]
  · rw [if_neg (by decide), if_neg (by decide), if_neg (by decide), if_neg (by decide), if_neg (by decide), if_pos rfl, e143, rd_wt, if_neg (by omega), e134, rd_wt, if_neg (by omega), e126, rd_wt, if_neg (by omega), e112, rd_wt, if_pos ⟨rfl, rfl⟩, wr_i (rd_rg _ _ _), f97 _ _ (by decide), show Int.toNat (wr (46 + x1)) = Int.toNat (46 + x1) by rw [wr_id (x := 46 + x1) (by omega) (by omega)]]
  · rw [if_neg (by decide), if_neg (by decide), if_neg (by decide), if_neg (by decide), if_neg (by decide), if_neg (by decide), if_pos rfl, e143, rd_wt, if_neg (by omega), e134, rd_wt, if_neg (by omega), e126, rd_wt, if_pos ⟨rfl, rfl⟩, wr_i (rd_rg _ _ _), f112 _ _ (by decide)]
  · rw [if_neg (by decide), if_neg (by decide), if_neg (by decide), if_neg (by decide), if_neg (by decide), if_neg (by decide), if_neg (by decide), if_pos rfl, e143, rd_wt, if_neg (by omega), e134, rd_wt, if_pos ⟨rfl, rfl⟩, wr_i r1]
  · rw [if_neg (by decide), if_neg (by decide), if_neg (by decide), if_neg (by decide), if_neg (by decide), if_neg (by decide), if_neg (by decide), if_neg (by decide), e143, rd_wt, if_pos ⟨rfl, rfl⟩, wr_i r4]
theorem LM_fr {m m2 : Mm} {E : Lw} (h : LM m E) (e18 : rd m2 284 18 = rd m 284 18) (l : 0 ≤ rd m 284 18 ∧ rd m 284 18 ≤ 1) (f : ∀ i j : Nat, (307 ≤ i ∧ i ≤ 315) → rd m2 i j = rd m i j) : LM m2 E := fun k k0 k1 => by
  obtain ⟨w, q⟩ := h k k0 k1
  rw [e18, f 307 _ (by omega), f 308 _ (by omega)]
  refine ⟨w, ?_⟩
  rcases q with q | ⟨q, r⟩
  · exact Or.inl q
  · exact Or.inr ⟨brL_fr (by omega) (Int.le_refl _) (by omega) q (fun i j p => f i j (by omega)), r⟩
theorem co_v {m m6 : Mm} {E : Lw} {x1 x2 x3 x4 q v : Int} (h : LM m E) (e18 : rd m6 284 18 = rd m 284 18) (f : ∀ i j : Nat, (307 ≤ i ∧ i ≤ 315) → rd m6 i j = rd m i j) (lf : vfX m m6 x1 x2 x3 x4) (t : ∀ E, LM m6 E → v = lval (vaM m6) (E q).1 (E q).2) (hq : 0 ≤ q ∧ q < 4) (l : 0 ≤ rd m 284 18 ∧ rd m 284 18 ≤ 1) : v = lval (vfI m x1 x2 x3 x4) (E q).1 (E q).2 := by
  rw [t E (LM_fr h e18 l f)]
  have w := (h q hq.1 hq.2).1
  exact lval_cg lf w.2 w.1
theorem co_m {m m6 : Mm} {E : Lw} {x1 x2 x3 x4 q v hi v2 : Int} (h : LM m E) (e18 : rd m6 284 18 = rd m 284 18) (f : ∀ i j : Nat, (307 ≤ i ∧ i ≤ 315) → rd m6 i j = rd m i j) (lf : vfX m m6 x1 x2 x3 x4) (t : ∀ E, LM m6 E → v = lval (vaM m6) (E q).1 (E q).2) (c : (v < 0 ∧ v2 = 0) ∨ (0 ≤ v ∧ hi < v ∧ v2 = hi) ∨ (0 ≤ v ∧ v ≤ hi ∧ v2 = v)) (hq : 0 ≤ q ∧ q < 4) (hh : 0 ≤ hi) (l : 0 ≤ rd m 284 18 ∧ rd m 284 18 ≤ 1) : v2 = clI hi (lval (vfI m x1 x2 x3 x4) (E q).1 (E q).2) := by
  rw [← co_v h e18 f lf t hq l]
  unfold clI
  omega
-- TippedCratesModel.fromBy(II)I
set_option maxRecDepth 20000 in
theorem mz_202 {m : Mm} {x0 : Int} {x1 : Int}   (r_x0 : rg x0) (r_x1 : rg x1) (p0 : 0 ≤ x1 ∧ x1 ≤ 5) (p1 : 0 ≤ x0 ∧ x0 ≤ 3) : CK 1 202 [iv x0, iv x1] m (fun m2 v => m2 = m ∧ ((0 ≤ v ∧ v ≤ 5) ∧ v = frm x0 x1)) := by
  refine br_202 r_x0 r_x1 ?_
  unfold P_202
  refine ⟨fun hq => ?_, fun hq => ?_, fun hq => ?_, fun hq => ?_⟩
  · skip
    refine ⟨fun s0_64 => (0 ≤ s0_64 ∧ s0_64 ≤ 5) ∧ s0_64 = frm x0 x1, ?_, ?_⟩
    · skip
      refine ⟨fun hq => ?_, fun hq => ?_⟩
      · skip
        refine ⟨fun hq => ?_, fun hq => ?_⟩
        · skip
          refine ⟨fun hq => ?_, fun hq => ?_⟩
          · skip
            refine ⟨fun hq => ?_, fun hq => ?_⟩
            · skip
              (refine ⟨by omega, ?_⟩; rcases (show x0 = 0 ∨ x0 = 1 ∨ x0 = 2 ∨ x0 = 3 by omega) with z | z | z | z <;> rcases (show x1 = 0 ∨ x1 = 1 ∨ x1 = 2 ∨ x1 = 3 ∨ x1 = 4 ∨ x1 = 5 by omega) with y | y | y | y | y | y <;> (first | (exfalso; omega) | (rw [z, y]; rfl)))
            · skip
              (refine ⟨by omega, ?_⟩; rcases (show x0 = 0 ∨ x0 = 1 ∨ x0 = 2 ∨ x0 = 3 by omega) with z | z | z | z <;> rcases (show x1 = 0 ∨ x1 = 1 ∨ x1 = 2 ∨ x1 = 3 ∨ x1 = 4 ∨ x1 = 5 by omega) with y | y | y | y | y | y <;> (first | (exfalso; omega) | (rw [z, y]; rfl)))
          · skip
            (refine ⟨by omega, ?_⟩; rcases (show x0 = 0 ∨ x0 = 1 ∨ x0 = 2 ∨ x0 = 3 by omega) with z | z | z | z <;> rcases (show x1 = 0 ∨ x1 = 1 ∨ x1 = 2 ∨ x1 = 3 ∨ x1 = 4 ∨ x1 = 5 by omega) with y | y | y | y | y | y <;> (first | (exfalso; omega) | (rw [z, y]; rfl)))
        · skip
          (refine ⟨by omega, ?_⟩; rcases (show x0 = 0 ∨ x0 = 1 ∨ x0 = 2 ∨ x0 = 3 by omega) with z | z | z | z <;> rcases (show x1 = 0 ∨ x1 = 1 ∨ x1 = 2 ∨ x1 = 3 ∨ x1 = 4 ∨ x1 = 5 by omega) with y | y | y | y | y | y <;> (first | (exfalso; omega) | (rw [z, y]; rfl)))
      · skip
        (refine ⟨by omega, ?_⟩; rcases (show x0 = 0 ∨ x0 = 1 ∨ x0 = 2 ∨ x0 = 3 by omega) with z | z | z | z <;> rcases (show x1 = 0 ∨ x1 = 1 ∨ x1 = 2 ∨ x1 = 3 ∨ x1 = 4 ∨ x1 = 5 by omega) with y | y | y | y | y | y <;> (first | (exfalso; omega) | (rw [z, y]; rfl)))
    · intro s0_64 r_s0_64 hR_64
      exact ⟨rfl, by first | exact ⟨hR_64.1, hR_64.2⟩ | exact ⟨hR_101.1, hR_101.2⟩ | exact ⟨hR_138.1, hR_138.2⟩ | exact ⟨hR_175.1, hR_175.2⟩⟩
  · skip
    refine ⟨fun s0_101 => (0 ≤ s0_101 ∧ s0_101 ≤ 5) ∧ s0_101 = frm x0 x1, ?_, ?_⟩
    · skip
      refine ⟨fun hq => ?_, fun hq => ?_⟩
      · skip
        refine ⟨fun hq => ?_, fun hq => ?_⟩
        · skip
          refine ⟨fun hq => ?_, fun hq => ?_⟩
          · skip
            refine ⟨fun hq => ?_, fun hq => ?_⟩
            · skip
              (refine ⟨by omega, ?_⟩; rcases (show x0 = 0 ∨ x0 = 1 ∨ x0 = 2 ∨ x0 = 3 by omega) with z | z | z | z <;> rcases (show x1 = 0 ∨ x1 = 1 ∨ x1 = 2 ∨ x1 = 3 ∨ x1 = 4 ∨ x1 = 5 by omega) with y | y | y | y | y | y <;> (first | (exfalso; omega) | (rw [z, y]; rfl)))
            · skip
              (refine ⟨by omega, ?_⟩; rcases (show x0 = 0 ∨ x0 = 1 ∨ x0 = 2 ∨ x0 = 3 by omega) with z | z | z | z <;> rcases (show x1 = 0 ∨ x1 = 1 ∨ x1 = 2 ∨ x1 = 3 ∨ x1 = 4 ∨ x1 = 5 by omega) with y | y | y | y | y | y <;> (first | (exfalso; omega) | (rw [z, y]; rfl)))
          · skip
            (refine ⟨by omega, ?_⟩; rcases (show x0 = 0 ∨ x0 = 1 ∨ x0 = 2 ∨ x0 = 3 by omega) with z | z | z | z <;> rcases (show x1 = 0 ∨ x1 = 1 ∨ x1 = 2 ∨ x1 = 3 ∨ x1 = 4 ∨ x1 = 5 by omega) with y | y | y | y | y | y <;> (first | (exfalso; omega) | (rw [z, y]; rfl)))
        · skip
          (refine ⟨by omega, ?_⟩; rcases (show x0 = 0 ∨ x0 = 1 ∨ x0 = 2 ∨ x0 = 3 by omega) with z | z | z | z <;> rcases (show x1 = 0 ∨ x1 = 1 ∨ x1 = 2 ∨ x1 = 3 ∨ x1 = 4 ∨ x1 = 5 by omega) with y | y | y | y | y | y <;> (first | (exfalso; omega) | (rw [z, y]; rfl)))
      · skip
        (refine ⟨by omega, ?_⟩; rcases (show x0 = 0 ∨ x0 = 1 ∨ x0 = 2 ∨ x0 = 3 by omega) with z | z | z | z <;> rcases (show x1 = 0 ∨ x1 = 1 ∨ x1 = 2 ∨ x1 = 3 ∨ x1 = 4 ∨ x1 = 5 by omega) with y | y | y | y | y | y <;> (first | (exfalso; omega) | (rw [z, y]; rfl)))
    · intro s0_101 r_s0_101 hR_101
      exact ⟨rfl, by first | exact ⟨hR_64.1, hR_64.2⟩ | exact ⟨hR_101.1, hR_101.2⟩ | exact ⟨hR_138.1, hR_138.2⟩ | exact ⟨hR_175.1, hR_175.2⟩⟩
  · skip
    refine ⟨fun s0_138 => (0 ≤ s0_138 ∧ s0_138 ≤ 5) ∧ s0_138 = frm x0 x1, ?_, ?_⟩
    · skip
      refine ⟨fun hq => ?_, fun hq => ?_⟩
      · skip
        refine ⟨fun hq => ?_, fun hq => ?_⟩
        · skip
          refine ⟨fun hq => ?_, fun hq => ?_⟩
          · skip
            refine ⟨fun hq => ?_, fun hq => ?_⟩
            · skip
              (refine ⟨by omega, ?_⟩; rcases (show x0 = 0 ∨ x0 = 1 ∨ x0 = 2 ∨ x0 = 3 by omega) with z | z | z | z <;> rcases (show x1 = 0 ∨ x1 = 1 ∨ x1 = 2 ∨ x1 = 3 ∨ x1 = 4 ∨ x1 = 5 by omega) with y | y | y | y | y | y <;> (first | (exfalso; omega) | (rw [z, y]; rfl)))
            · skip
              (refine ⟨by omega, ?_⟩; rcases (show x0 = 0 ∨ x0 = 1 ∨ x0 = 2 ∨ x0 = 3 by omega) with z | z | z | z <;> rcases (show x1 = 0 ∨ x1 = 1 ∨ x1 = 2 ∨ x1 = 3 ∨ x1 = 4 ∨ x1 = 5 by omega) with y | y | y | y | y | y <;> (first | (exfalso; omega) | (rw [z, y]; rfl)))
          · skip
            (refine ⟨by omega, ?_⟩; rcases (show x0 = 0 ∨ x0 = 1 ∨ x0 = 2 ∨ x0 = 3 by omega) with z | z | z | z <;> rcases (show x1 = 0 ∨ x1 = 1 ∨ x1 = 2 ∨ x1 = 3 ∨ x1 = 4 ∨ x1 = 5 by omega) with y | y | y | y | y | y <;> (first | (exfalso; omega) | (rw [z, y]; rfl)))
        · skip
          (refine ⟨by omega, ?_⟩; rcases (show x0 = 0 ∨ x0 = 1 ∨ x0 = 2 ∨ x0 = 3 by omega) with z | z | z | z <;> rcases (show x1 = 0 ∨ x1 = 1 ∨ x1 = 2 ∨ x1 = 3 ∨ x1 = 4 ∨ x1 = 5 by omega) with y | y | y | y | y | y <;> (first | (exfalso; omega) | (rw [z, y]; rfl)))
      · skip
        (refine ⟨by omega, ?_⟩; rcases (show x0 = 0 ∨ x0 = 1 ∨ x0 = 2 ∨ x0 = 3 by omega) with z | z | z | z <;> rcases (show x1 = 0 ∨ x1 = 1 ∨ x1 = 2 ∨ x1 = 3 ∨ x1 = 4 ∨ x1 = 5 by omega) with y | y | y | y | y | y <;> (first | (exfalso; omega) | (rw [z, y]; rfl)))
    · intro s0_138 r_s0_138 hR_138
      exact ⟨rfl, by first | exact ⟨hR_64.1, hR_64.2⟩ | exact ⟨hR_101.1, hR_101.2⟩ | exact ⟨hR_138.1, hR_138.2⟩ | exact ⟨hR_175.1, hR_175.2⟩⟩
  · skip
    refine ⟨fun s0_175 => (0 ≤ s0_175 ∧ s0_175 ≤ 5) ∧ s0_175 = frm x0 x1, ?_, ?_⟩
    · skip
      refine ⟨fun hq => ?_, fun hq => ?_⟩
      · skip
        refine ⟨fun hq => ?_, fun hq => ?_⟩
        · skip
          refine ⟨fun hq => ?_, fun hq => ?_⟩
          · skip
            refine ⟨fun hq => ?_, fun hq => ?_⟩
            · skip
              (refine ⟨by omega, ?_⟩; rcases (show x0 = 0 ∨ x0 = 1 ∨ x0 = 2 ∨ x0 = 3 by omega) with z | z | z | z <;> rcases (show x1 = 0 ∨ x1 = 1 ∨ x1 = 2 ∨ x1 = 3 ∨ x1 = 4 ∨ x1 = 5 by omega) with y | y | y | y | y | y <;> (first | (exfalso; omega) | (rw [z, y]; rfl)))
            · skip
              (refine ⟨by omega, ?_⟩; rcases (show x0 = 0 ∨ x0 = 1 ∨ x0 = 2 ∨ x0 = 3 by omega) with z | z | z | z <;> rcases (show x1 = 0 ∨ x1 = 1 ∨ x1 = 2 ∨ x1 = 3 ∨ x1 = 4 ∨ x1 = 5 by omega) with y | y | y | y | y | y <;> (first | (exfalso; omega) | (rw [z, y]; rfl)))
          · skip
            (refine ⟨by omega, ?_⟩; rcases (show x0 = 0 ∨ x0 = 1 ∨ x0 = 2 ∨ x0 = 3 by omega) with z | z | z | z <;> rcases (show x1 = 0 ∨ x1 = 1 ∨ x1 = 2 ∨ x1 = 3 ∨ x1 = 4 ∨ x1 = 5 by omega) with y | y | y | y | y | y <;> (first | (exfalso; omega) | (rw [z, y]; rfl)))
        · skip
          (refine ⟨by omega, ?_⟩; rcases (show x0 = 0 ∨ x0 = 1 ∨ x0 = 2 ∨ x0 = 3 by omega) with z | z | z | z <;> rcases (show x1 = 0 ∨ x1 = 1 ∨ x1 = 2 ∨ x1 = 3 ∨ x1 = 4 ∨ x1 = 5 by omega) with y | y | y | y | y | y <;> (first | (exfalso; omega) | (rw [z, y]; rfl)))
      · skip
        (refine ⟨by omega, ?_⟩; rcases (show x0 = 0 ∨ x0 = 1 ∨ x0 = 2 ∨ x0 = 3 by omega) with z | z | z | z <;> rcases (show x1 = 0 ∨ x1 = 1 ∨ x1 = 2 ∨ x1 = 3 ∨ x1 = 4 ∨ x1 = 5 by omega) with y | y | y | y | y | y <;> (first | (exfalso; omega) | (rw [z, y]; rfl)))
    · intro s0_175 r_s0_175 hR_175
      exact ⟨rfl, by first | exact ⟨hR_64.1, hR_64.2⟩ | exact ⟨hR_101.1, hR_101.2⟩ | exact ⟨hR_138.1, hR_138.2⟩ | exact ⟨hR_175.1, hR_175.2⟩⟩
-- TippedCratesModel.within(III)I
set_option maxRecDepth 20000 in
theorem mz_207 {m : Mm} {x0 : Int} {x1 : Int} {x2 : Int}   (r_x0 : rg x0) (r_x1 : rg x1) (r_x2 : rg x2) (p0 : x1 ≤ x2) : CK 1 207 [iv x0, iv x1, iv x2] m (fun m2 v => m2 = m ∧ ((x1 ≤ v ∧ v ≤ x2) ∧ ((x0 < x1 ∧ v = x1) ∨ (x1 ≤ x0 ∧ x2 < x0 ∧ v = x2) ∨ (x1 ≤ x0 ∧ x0 ≤ x2 ∧ v = x0)))) := by
  refine br_207 r_x0 r_x1 r_x2 ?_
  unfold P_207
  refine ⟨fun s0_19 => (x1 ≤ s0_19 ∧ s0_19 ≤ x2) ∧ ((x0 < x1 ∧ s0_19 = x1) ∨ (x1 ≤ x0 ∧ x2 < x0 ∧ s0_19 = x2) ∨ (x1 ≤ x0 ∧ x0 ≤ x2 ∧ s0_19 = x0)), ?_, ?_⟩
  · skip
    refine ⟨fun hq => ?_, fun hq => ?_⟩
    · skip
      refine ⟨fun hq => ?_, fun hq => ?_⟩
      · skip
        (exact ⟨by omega, by omega⟩)
      · skip
        (exact ⟨by omega, by omega⟩)
    · skip
      (exact ⟨by omega, by omega⟩)
  · intro s0_19 r_s0_19 hR_19
    exact ⟨rfl, by exact hR_19⟩
-- TippedCratesModel.isShut(I)Z
set_option maxRecDepth 20000 in
theorem mz_213 {m : Mm} {x1 : Int}   (r_x1 : rg x1)  : CK 1 213 [.ref 284, iv x1] m (fun m2 v => m2 = m ∧ ((v = 1 ∧ anI (srI (rd m 284 59) x1) 1 = 1) ∨ (v = 0 ∧ ¬ anI (srI (rd m 284 59) x1) 1 = 1))) := by
  refine br_213 r_x1 ?_
  unfold P_213
  refine ⟨fun s0_17 => (s0_17 = 1 ∧ anI (srI (rd m 284 59) x1) 1 = 1) ∨ (s0_17 = 0 ∧ ¬ anI (srI (rd m 284 59) x1) 1 = 1), ?_, ?_⟩
  · skip
    refine ⟨fun hq => ?_, fun hq => ?_⟩
    · skip
      (first | exact Or.inr ⟨rfl, hq⟩ | exact Or.inl ⟨rfl, hq⟩)
    · skip
      (first | exact Or.inr ⟨rfl, hq⟩ | exact Or.inl ⟨rfl, hq⟩)
  · intro s0_17 r_s0_17 hR_17
    exact ⟨by omega, ⟨rfl, by exact hR_17⟩⟩
-- TippedCratesModel.isTaken(II)Z
set_option maxRecDepth 20000 in
theorem mz_222 {m : Mm} {x1 : Int} {x2 : Int}  (T_m : Ty m) (r_x1 : rg x1) (r_x2 : rg x2)  : CK 1 222 [.ref 284, iv x1, iv x2] m (fun m2 v => m2 = m ∧ ((v = 0 ∨ v = 1) ∧ ((v = 1 ∧ tknM m x1 x2) ∨ (v = 0 ∧ ¬ tknM m x1 x2)))) := by
  refine br_222 r_x1 r_x2 ?_
  unfold P_222
  refine ⟨fun x3_2 => (0 ≤ x3_2 ∧ x3_2 ≤ 3) ∧ (∀ o : Int, 0 ≤ o → o < x3_2 → ¬ o = x1 → ¬ rd m 323 (Int.toNat (43 + o)) = x2), fun x3_2 => Int.toNat (3 - x3_2), ?_, ?_⟩
  · (exact ⟨by first | omega | (refine ⟨?_, ?_⟩ <;> omega) | trivial, by exact fun o h0 h1 => by omega⟩)
  · intro x3_2 r_x3_2 hI_2
    obtain ⟨hI_2, dI_2⟩ := hI_2
    have t1 := ty_284_18 T_m
    refine ⟨⟨by omega, by omega⟩, ?_⟩
    have t2 := ty_302 T_m (Int.toNat (rd m 284 18))
    refine ⟨fun hq => ?_, fun hq => ?_⟩
    · skip
      exact ⟨rfl, by exact ⟨by first | trivial | omega | (refine ⟨?_, ?_⟩ <;> omega), by first | exact Or.inr ⟨rfl, fun ⟨o, h0, h1, h2, h3⟩ => dI_2 o h0 (by omega) h2 h3⟩ | exact Or.inl ⟨rfl, x3_2, by omega, by omega, by omega, by rw [← show Int.toNat (wr (43 + x3_2)) = Int.toNat (43 + x3_2) by omega]; assumption⟩⟩⟩
    · skip
      refine ⟨x3_2 = x1 ∨ ¬ rd m 323 (Int.toNat (43 + x3_2)) = x2, ?_, ?_⟩
      · skip
        refine ⟨fun hq => ?_, fun hq => ?_⟩
        · skip
          (first | exact Or.inl hq | exact Or.inr (by rw [← show Int.toNat (wr (43 + x3_2)) = Int.toNat (43 + x3_2) by omega]; exact hq))
        · skip
          try have w3 : wr (43 + x3_2) = 43 + x3_2 := wr_id (by omega) (by omega)
          refine ⟨⟨by omega, by omega⟩, ?_⟩
          have t4 := tr_323 T_m (Int.toNat (wr (43 + x3_2)))
          refine ⟨fun hq => ?_, fun hq => ?_⟩
          · skip
            (first | exact Or.inl hq | exact Or.inr (by rw [← show Int.toNat (wr (43 + x3_2)) = Int.toNat (43 + x3_2) by omega]; exact hq))
          · skip
            exact ⟨rfl, by exact ⟨by first | trivial | omega | (refine ⟨?_, ?_⟩ <;> omega), by first | exact Or.inr ⟨rfl, fun ⟨o, h0, h1, h2, h3⟩ => dI_2 o h0 (by omega) h2 h3⟩ | exact Or.inl ⟨rfl, x3_2, by omega, by omega, by omega, by rw [← show Int.toNat (wr (43 + x3_2)) = Int.toNat (43 + x3_2) by omega]; assumption⟩⟩⟩
      · intro   hR_35
        try have w5 : wr (x3_2 + 1) = x3_2 + 1 := wr_id (by omega) (by omega)
        intro z3_35 e_z3_35
        have r_z3_35 : rg z3_35 := by rw [e_z3_35]; exact wr_rg _
        exact ⟨by exact ⟨by first | omega | (refine ⟨?_, ?_⟩ <;> omega) | trivial, by exact fun o h0 h1 h2 => by rcases (show o < x3_2 ∨ o = x3_2 by omega) with q | q; exact dI_2 o h0 q h2; subst q; exact hR_35.resolve_left h2⟩, by (try dsimp only); omega⟩
-- TippedCratesModel.canFrom(III)Z
set_option maxRecDepth 20000 in
theorem mz_223 {m : Mm} {x1 : Int} {x2 : Int} {x3 : Int}  (T_m : Ty m) (r_x1 : rg x1) (r_x2 : rg x2) (r_x3 : rg x3) (p0 : MW m) (p1 : 0 ≤ x2 ∧ x2 ≤ 24) (p2 : 0 ≤ x3 ∧ x3 ≤ 3) : CK 3 223 [.ref 284, iv x1, iv x2, iv x3] m (fun m2 v => m2 = m ∧ (((v = 0 ∨ v = 1) ∧ (v = 1 → 0 ≤ fbyI (rd m 293 (Int.toNat (rd m 284 18))) (rd m 294 (Int.toNat (rd m 284 18))) x2 x3)) ∧ ((v = 1 ∧ cfM m x1 x2 x3) ∨ (v = 0 ∧ ¬ cfM m x1 x2 x3)))) := by
  refine br_223 r_x1 r_x2 r_x3 ?_
  unfold P_223
  refine CK.mono (ct_221   T_m r_x2 r_x3 p0 (by omega) (by omega)) (by decide) ?_
  rintro m3 v3 r_v3 ⟨e_m3, h_m3⟩
  replace e_m3 := e_m3.symm
  subst e_m3
  refine ⟨fun s0_37 m_37 => m_37 = m ∧ (((s0_37 = 0 ∨ s0_37 = 1) ∧ (s0_37 = 1 → 0 ≤ fbyI (rd m 293 (Int.toNat (rd m 284 18))) (rd m 294 (Int.toNat (rd m 284 18))) x2 x3)) ∧ ((s0_37 = 1 ∧ cfM m x1 x2 x3) ∨ (s0_37 = 0 ∧ ¬ cfM m x1 x2 x3))), ?_, ?_⟩
  · skip
    refine ⟨fun m_36 => m_36 = m ∧ ((True) ∧ (¬ cfM m x1 x2 x3)), ?_, ?_⟩
    · skip
      refine ⟨fun hq => ?_, fun hq => ?_⟩
      · skip
        exact ⟨rfl, by exact ⟨by first | trivial | omega | (refine ⟨?_, ?_⟩ <;> omega), by first | exact fun w => w.1 (by rw [← h_m3.1]; omega) | exact fun w => w.2.1 (by rw [← h_m3.1]; omega) | exact fun w => w.2.2 (by rw [← h_m3.1]; exact or_1 h_m26 (by omega))⟩⟩
      · skip
        refine CK.mono (mz_213   r_v3) (by decide) ?_
        rintro m16 v16 r_v16 ⟨e_m16, h_m16⟩
        replace e_m16 := e_m16.symm
        subst e_m16
        refine ⟨fun hq => ?_, fun hq => ?_⟩
        · skip
          exact ⟨rfl, by exact ⟨by first | trivial | omega | (refine ⟨?_, ?_⟩ <;> omega), by first | exact fun w => w.1 (by rw [← h_m3.1]; omega) | exact fun w => w.2.1 (by rw [← h_m3.1]; omega) | exact fun w => w.2.2 (by rw [← h_m3.1]; exact or_1 h_m26 (by omega))⟩⟩
        · skip
          refine CK.mono (mz_222   T_m r_x1 r_v3) (by decide) ?_
          rintro m26 v26 r_v26 ⟨e_m26, h_m26⟩
          replace e_m26 := e_m26.symm
          subst e_m26
          obtain ⟨-, h_m26⟩ := h_m26
          refine ⟨fun hq => ?_, fun hq => ?_⟩
          · skip
            exact ⟨rfl, by exact ⟨by first | trivial | omega | (refine ⟨?_, ?_⟩ <;> omega), by first | exact fun w => w.1 (by rw [← h_m3.1]; omega) | exact fun w => w.2.1 (by rw [← h_m3.1]; omega) | exact fun w => w.2.2 (by rw [← h_m3.1]; exact or_1 h_m26 (by omega))⟩⟩
          · skip
            exact ⟨rfl, by exact ⟨by first | trivial | omega | (refine ⟨?_, ?_⟩ <;> omega), by first | exact Or.inr ⟨rfl, dR_36⟩ | exact Or.inl ⟨rfl, by rw [← h_m3.1]; omega, by rw [← h_m3.1]; omega, by rw [← h_m3.1]; exact or_0 h_m26 (by omega)⟩⟩⟩
    · intro m_36  hR_36
      obtain ⟨e_m_36, hR_36⟩ := hR_36
      replace e_m_36 := e_m_36.symm
      subst e_m_36
      obtain ⟨hR_36, dR_36⟩ := hR_36
      exact ⟨rfl, by exact ⟨by first | trivial | omega | (refine ⟨?_, ?_⟩ <;> omega), by first | exact Or.inr ⟨rfl, dR_36⟩ | exact Or.inl ⟨rfl, by rw [← h_m3.1]; omega, by rw [← h_m3.1]; omega, by rw [← h_m3.1]; exact or_0 h_m26 (by omega)⟩⟩⟩
  · intro s0_37 m_37 r_s0_37 hR_37
    obtain ⟨e_m_37, hR_37⟩ := hR_37
    replace e_m_37 := e_m_37.symm
    subst e_m_37
    obtain ⟨hR_37, dR_37⟩ := hR_37
    exact ⟨by omega, ⟨rfl, by exact ⟨by first | trivial | omega | (refine ⟨?_, ?_⟩ <;> omega), by exact dR_37⟩⟩⟩
-- TippedCratesModel.canTip(II)Z
set_option maxRecDepth 20000 in
theorem mz_224 {m : Mm} {x1 : Int} {x2 : Int}  (T_m : Ty m) (r_x1 : rg x1) (r_x2 : rg x2) (p0 : MW m) (p1 : 0 ≤ x1 ∧ x1 ≤ 2) (p2 : 0 ≤ x2 ∧ x2 ≤ 3) : CK 4 224 [.ref 284, iv x1, iv x2] m (fun m2 v => m2 = m ∧ (((v = 0 ∨ v = 1) ∧ (v = 1 → 0 ≤ fbyI (rd m 293 (Int.toNat (rd m 284 18))) (rd m 294 (Int.toNat (rd m 284 18))) (rd m 323 (Int.toNat (43 + x1))) x2)) ∧ ((v = 1 ∧ cfM m x1 (rd m 323 (Int.toNat (43 + x1))) x2) ∨ (v = 0 ∧ ¬ cfM m x1 (rd m 323 (Int.toNat (43 + x1))) x2)))) := by
  refine br_224 r_x1 r_x2 ?_
  unfold P_224
  try have w1 : wr (43 + x1) = 43 + x1 := wr_id (by omega) (by omega)
  refine ⟨⟨by omega, by omega⟩, ?_⟩
  have t2 := tr_323 T_m (Int.toNat (wr (43 + x1)))
  refine CK.mono (mz_223   T_m r_x1 (rd_rg _ _ _) r_x2 p0 (by omega) (by omega)) (by decide) ?_
  rintro m12 v12 r_v12 ⟨e_m12, h_m12⟩
  replace e_m12 := e_m12.symm
  subst e_m12
  have e43 : rd m 323 (Int.toNat (wr (43 + x1))) = rd m 323 (Int.toNat (43 + x1)) := congrArg (rd m 323) (by omega)
  rw [e43] at h_m12
  exact ⟨by omega, ⟨rfl, by exact ⟨by exact h_m12.1, by exact h_m12.2⟩⟩⟩
-- TippedCratesModel.markAt(III)I
set_option maxRecDepth 20000 in
theorem mz_227 {m : Mm} {x1 : Int} {x2 : Int} {x3 : Int}  (T_m : Ty m) (r_x1 : rg x1) (r_x2 : rg x2) (r_x3 : rg x3) (p0 : 0 ≤ x1 ∧ x1 ≤ 2) (p1 : 0 ≤ x2 ∧ x2 ≤ 23) (p2 : 0 ≤ x3 ∧ x3 ≤ 5) : CK 1 227 [.ref 284, iv x1, iv x2, iv x3] m (fun m2 v => m2 = m ∧ ((0 ≤ v ∧ v ≤ 9) ∧ (v = rd m 323 (Int.toNat (25 + 6 * x1 + rd m 319 (Int.toNat (6 * x2 + x3))))))) := by
  refine br_227 r_x1 r_x2 r_x3 ?_
  unfold P_227
  try have w1 : wr (6 * x2) = 6 * x2 := wr_id (by omega) (by omega)
  try have w2 : wr ((wr (6 * x2)) + x3) = (wr (6 * x2)) + x3 := wr_id (by omega) (by omega)
  refine ⟨⟨by omega, by omega⟩, ?_⟩
  try have w3 : wr (6 * x1) = 6 * x1 := wr_id (by omega) (by omega)
  try have w4 : wr (25 + (wr (6 * x1))) = 25 + (wr (6 * x1)) := wr_id (by omega) (by omega)
  have t5 := ty_319 T_m (Int.toNat (wr ((wr (6 * x2)) + x3)))
  try have w6 : wr ((wr (25 + (wr (6 * x1)))) + (rd m 319 (Int.toNat (wr ((wr (6 * x2)) + x3))))) = (wr (25 + (wr (6 * x1)))) + (rd m 319 (Int.toNat (wr ((wr (6 * x2)) + x3)))) := wr_id (by omega) (by omega)
  refine ⟨⟨by omega, by omega⟩, ?_⟩
  have t7 := tr_323 T_m (Int.toNat (wr ((wr (25 + (wr (6 * x1)))) + (rd m 319 (Int.toNat (wr ((wr (6 * x2)) + x3)))))))
  exact ⟨rfl, by exact ⟨by first | trivial | omega | (refine ⟨?_, ?_⟩ <;> omega), by exact congrArg (rd m 323) (by have := ty_319 T_m (Int.toNat (wr ((wr (6 * x2)) + x3))); rw [show Int.toNat (wr ((wr (6 * x2)) + x3)) = Int.toNat (6 * x2 + x3) by omega] at *; omega)⟩⟩
-- TippedCratesModel.views(IIII)V
set_option maxRecDepth 20000 in
theorem mz_226 {m : Mm} {x1 : Int} {x2 : Int} {x3 : Int} {x4 : Int}  (T_m : Ty m) (r_x1 : rg x1) (r_x2 : rg x2) (r_x3 : rg x3) (r_x4 : rg x4) (p0 : MW m) (p1 : 0 ≤ x1 ∧ x1 ≤ 2) (p2 : 0 ≤ x2 ∧ x2 ≤ 24) (p3 : 0 ≤ x3 ∧ x3 ≤ 23) (p4 : 0 ≤ x4 ∧ x4 ≤ 3) : CV 3 226 [.ref 284, iv x1, iv x2, iv x3, iv x4] m (fun m2 => GX sV m m2 ∧ ((True) ∧ (vfX m m2 x1 x2 x3 x4))) := by
  refine br_226 r_x1 r_x2 r_x3 r_x4 ?_
  unfold P_226
  have g_m : GX sV m m := ⟨T_m, fun _ _ _ => rfl, fun _ _ => rfl⟩
  refine CK.mono (ct_221   T_m r_x2 r_x4 p0 (by omega) (by omega)) (by decide) ?_
  rintro m4 v4 r_v4 ⟨e_m4, h_m4⟩
  replace e_m4 := e_m4.symm
  subst e_m4
  try have w1 : wr (4 * x3) = 4 * x3 := wr_id (by omega) (by omega)
  try have w2 : wr ((wr (4 * x3)) + x4) = (wr (4 * x3)) + x4 := wr_id (by omega) (by omega)
  refine ⟨⟨by omega, by omega⟩, ?_⟩
  have t3 := ty_320 T_m (Int.toNat (wr ((wr (4 * x3)) + x4)))
  intro z6_20 e_z6_20
  have r_z6_20 : rg z6_20 := by rw [e_z6_20]; exact (rd_rg _ _ _)
  refine CK.mono (ct_219   T_m r_x2 r_x4 p0 (by omega) (by omega)) (by decide) ?_
  rintro m31 v31 r_v31 ⟨e_m31, h_m31⟩
  replace e_m31 := e_m31.symm
  subst e_m31
  intro m34 e_m34
  have g_m34 : GX sV m m34 := by rw [e_m34]; exact GX.wt g_m (tw_317 T_m (by first | assumption | omega)) (Eq.refl true)
  refine CK.mono (ct_220   g_m34.1 r_x2 r_x4 (MW_V p0 g_m34) (by omega) (by omega)) (by decide) ?_
  rintro m44 v44 r_v44 ⟨e_m44, h_m44⟩
  replace e_m44 := e_m44.symm
  subst e_m44
  intro m47 e_m47
  have g_m47 : GX sV m m47 := by rw [e_m47]; exact GX.wt g_m34 (tw_317 g_m34.1 (by first | assumption | omega)) (Eq.refl true)
  refine ⟨fun s2_69 => (True) ∧ (s2_69 = (if 0 ≤ fbyI (rd m 293 (Int.toNat (rd m 284 18))) (rd m 294 (Int.toNat (rd m 284 18))) x2 x4 then rd m 323 (Int.toNat (fbyI (rd m 293 (Int.toNat (rd m 284 18))) (rd m 294 (Int.toNat (rd m 284 18))) x2 x4)) else 0)), ?_, ?_⟩
  · skip
    refine ⟨fun hq => ?_, fun hq => ?_⟩
    · skip
      refine ⟨⟨by omega, by omega⟩, ?_⟩
      have t4 := tr_323 g_m47.1 (Int.toNat v4)
      (exact ⟨by first | trivial | omega | (refine ⟨?_, ?_⟩ <;> omega), by first | (rw [← h_m4.1, if_pos (by omega), e_m47, rd_wt, if_neg (by omega), e_m34, rd_wt, if_neg (by omega)]) | (rw [← h_m4.1, if_neg (by omega)])⟩)
    · skip
      (exact ⟨by first | trivial | omega | (refine ⟨?_, ?_⟩ <;> omega), by first | (rw [← h_m4.1, if_pos (by omega), e_m47, rd_wt, if_neg (by omega), e_m34, rd_wt, if_neg (by omega)]) | (rw [← h_m4.1, if_neg (by omega)])⟩)
  · intro s2_69 r_s2_69 hR_69
    obtain ⟨hR_69, dR_69⟩ := hR_69
    intro m69 e_m69
    have g_m69 : GX sV m m69 := by rw [e_m69]; exact GX.wt g_m47 (tw_317 g_m47.1 (by first | assumption | omega)) (Eq.refl true)
    refine CK.mono (mz_227   g_m69.1 r_x1 r_z6_20 (by unfold rg; decide) (by omega) (by omega) (by omega)) (by decide) ?_
    rintro m80 v80 r_v80 ⟨e_m80, h_m80⟩
    replace e_m80 := e_m80.symm
    subst e_m80
    obtain ⟨h_m80, q_m80⟩ := h_m80
    intro m83 e_m83
    have g_m83 : GX sV m m83 := by rw [e_m83]; exact GX.wt g_m69 (tw_317 g_m69.1 (by first | assumption | omega)) (Eq.refl true)
    refine CK.mono (mz_227   g_m83.1 r_x1 r_z6_20 (by unfold rg; decide) (by omega) (by omega) (by omega)) (by decide) ?_
    rintro m94 v94 r_v94 ⟨e_m94, h_m94⟩
    replace e_m94 := e_m94.symm
    subst e_m94
    obtain ⟨h_m94, q_m94⟩ := h_m94
    intro m97 e_m97
    have g_m97 : GX sV m m97 := by rw [e_m97]; exact GX.wt g_m83 (tw_317 g_m83.1 (by first | assumption | omega)) (Eq.refl true)
    try have w5 : wr (46 + x1) = 46 + x1 := wr_id (by omega) (by omega)
    refine ⟨⟨by omega, by omega⟩, ?_⟩
    have t6 := tr_323 g_m97.1 (Int.toNat (wr (46 + x1)))
    intro m112 e_m112
    have g_m112 : GX sV m m112 := by rw [e_m112]; exact GX.wt g_m97 (tw_317 g_m97.1 (rd_rg _ _ _)) (Eq.refl true)
    have t7 := tr_323 g_m112.1 49
    intro m126 e_m126
    have g_m126 : GX sV m m126 := by rw [e_m126]; exact GX.wt g_m112 (tw_317 g_m112.1 (rd_rg _ _ _)) (Eq.refl true)
    intro m134 e_m134
    have g_m134 : GX sV m m134 := by rw [e_m134]; exact GX.wt g_m126 (tw_317 g_m126.1 (by first | assumption | omega)) (Eq.refl true)
    intro m143 e_m143
    have g_m143 : GX sV m m143 := by rw [e_m143]; exact GX.wt g_m134 (tw_317 g_m134.1 (by first | assumption | omega)) (Eq.refl true)
    exact ⟨g_m143, by exact ⟨by first | trivial | omega | (refine ⟨?_, ?_⟩ <;> omega), by exact vf_of (by omega) (by omega) (by rw [e_z6_20, show Int.toNat (wr ((wr (4 * x3)) + x4)) = Int.toNat (4 * x3 + x4) by omega]) r_v31 r_v44 r_s2_69 r_v80 r_v94 r_x1 r_x4 h_m31 e_m34 h_m44 e_m47 dR_69 e_m69 q_m80 e_m83 q_m94 e_m97 e_m112 e_m126 e_m134 e_m143⟩⟩
-- TippedCratesModel.costsAt(IIII)I
set_option maxRecDepth 20000 in
theorem mz_228 {m : Mm} {x1 : Int} {x2 : Int} {x3 : Int} {x4 : Int}  (T_m : Ty m) (r_x1 : rg x1) (r_x2 : rg x2) (r_x3 : rg x3) (r_x4 : rg x4) (p0 : MW m) (p1 : lawsM m) (p2 : 0 ≤ x1 ∧ x1 ≤ 2) (p3 : 0 ≤ x2 ∧ x2 ≤ 24) (p4 : 0 ≤ x3 ∧ x3 ≤ 23) (p5 : 0 ≤ x4 ∧ x4 ≤ 3) : CK 4 228 [.ref 284, iv x1, iv x2, iv x3, iv x4] m (fun m2 v => GX sV m m2 ∧ ((0 ≤ v ∧ v ≤ 99) ∧ (∀ E, LM m E → v = clI 99 (lval (vfI m x1 x2 x3 x4) (E 2).1 (E 2).2)))) := by
  refine br_228 r_x1 r_x2 r_x3 r_x4 ?_
  unfold P_228
  have g_m : GX sV m m := ⟨T_m, fun _ _ _ => rfl, fun _ _ => rfl⟩
  refine CV.mono (mz_226   T_m r_x1 r_x2 r_x3 r_x4 p0 (by omega) (by omega) (by omega) (by omega)) (by decide) ?_
  rintro m6 ⟨hx_m6, h_m6⟩
  have g_m6 : GX sV m m6 := gx_in g_m hx_m6 in_sV_sV
  have g_lk := g_m6
  have q_m6 := h_m6.2
  refine CK.mono (mz_225   g_m6.1 (by unfold rg; decide) (by unfold rg; decide) (by omega) (laws_V p1 g_m6) rfl) (by decide) ?_
  rintro m12 v12 r_v12 ⟨hx_m12, h_m12⟩
  have g_m12 : GX sV m m12 := gx_in g_m6 hx_m12 in_sV_sV
  have q_m12 := h_m12.2
  refine CK.mono (mz_207   r_v12 (by unfold rg; decide) (by unfold rg; decide) (by omega)) (by decide) ?_
  rintro m18 v18 r_v18 ⟨e_m18, h_m18⟩
  replace e_m18 := e_m18.symm
  subst e_m18
  exact ⟨g_m12, by exact ⟨by first | trivial | omega | (refine ⟨?_, ?_⟩ <;> omega), by exact fun E h => co_m h (hx_m6.2.1 284 18 rfl) (fun i j p => hx_m6.2.1 i j (sV_no (by omega) (by omega) (by omega))) q_m6 q_m12 h_m18.2 (by decide) (by decide) (ty_284_18 T_m)⟩⟩
-- TippedCratesModel.slipsOf(II)I
set_option maxRecDepth 20000 in
theorem mz_232 {m : Mm} {x1 : Int} {x2 : Int}  (T_m : Ty m) (r_x1 : rg x1) (r_x2 : rg x2) (p0 : MW m) (p1 : lawsM m) (p2 : 0 ≤ x1 ∧ x1 ≤ 2) (p3 : 0 ≤ x2 ∧ x2 ≤ 3) : CK 4 232 [.ref 284, iv x1, iv x2] m (fun m2 v => GX sV m m2 ∧ ((0 ≤ v ∧ v ≤ 100) ∧ (∀ E, LM m E → v = clI 100 (lval (vfI m x1 (rd m 323 (Int.toNat (43 + x1))) 0 x2) (E 3).1 (E 3).2)))) := by
  refine br_232 r_x1 r_x2 ?_
  unfold P_232
  have g_m : GX sV m m := ⟨T_m, fun _ _ _ => rfl, fun _ _ => rfl⟩
  try have w1 : wr (43 + x1) = 43 + x1 := wr_id (by omega) (by omega)
  refine ⟨⟨by omega, by omega⟩, ?_⟩
  have t2 := tr_323 T_m (Int.toNat (wr (43 + x1)))
  refine CV.mono (mz_226   T_m r_x1 (rd_rg _ _ _) (by unfold rg; decide) r_x2 p0 (by omega) (by omega) (by omega) (by omega)) (by decide) ?_
  rintro m13 ⟨hx_m13, h_m13⟩
  have g_m13 : GX sV m m13 := gx_in g_m hx_m13 in_sV_sV
  have g_lk := g_m13
  have q_m13 := h_m13.2
  refine CK.mono (mz_225   g_m13.1 (by unfold rg; decide) (by unfold rg; decide) (by omega) (laws_V p1 g_m13) rfl) (by decide) ?_
  rintro m19 v19 r_v19 ⟨hx_m19, h_m19⟩
  have g_m19 : GX sV m m19 := gx_in g_m13 hx_m19 in_sV_sV
  have q_m19 := h_m19.2
  refine CK.mono (mz_207   r_v19 (by unfold rg; decide) (by unfold rg; decide) (by omega)) (by decide) ?_
  rintro m25 v25 r_v25 ⟨e_m25, h_m25⟩
  replace e_m25 := e_m25.symm
  subst e_m25
  exact ⟨g_m19, by exact ⟨by first | trivial | omega | (refine ⟨?_, ?_⟩ <;> omega), by exact fun E h => co_m h (hx_m13.2.1 284 18 rfl) (fun i j p => hx_m13.2.1 i j (sV_no (by omega) (by omega) (by omega))) (by rw [show Int.toNat (wr (43 + x1)) = Int.toNat (43 + x1) by omega] at q_m13; exact q_m13) q_m19 h_m25.2 (by decide) (by decide) (ty_284_18 T_m)⟩⟩
-- TippedCratesModel.costsOf(II)I
set_option maxRecDepth 20000 in
theorem mz_229 {m : Mm} {x1 : Int} {x2 : Int}  (T_m : Ty m) (r_x1 : rg x1) (r_x2 : rg x2) (p0 : MW m) (p1 : lawsM m) (p2 : 0 ≤ x1 ∧ x1 ≤ 2) (p3 : 0 ≤ x2 ∧ x2 ≤ 3) : CK 5 229 [.ref 284, iv x1, iv x2] m (fun m2 v => GX sV m m2 ∧ ((0 ≤ v ∧ v ≤ 99) ∧ (∀ E, LM m E → v = clI 99 (lval (vfI m x1 (rd m 323 (Int.toNat (43 + x1))) 0 x2) (E 2).1 (E 2).2)))) := by
  refine br_229 r_x1 r_x2 ?_
  unfold P_229
  have g_m : GX sV m m := ⟨T_m, fun _ _ _ => rfl, fun _ _ => rfl⟩
  try have w1 : wr (43 + x1) = 43 + x1 := wr_id (by omega) (by omega)
  refine ⟨⟨by omega, by omega⟩, ?_⟩
  have t2 := tr_323 T_m (Int.toNat (wr (43 + x1)))
  refine CK.mono (mz_228   T_m r_x1 (rd_rg _ _ _) (by unfold rg; decide) r_x2 p0 p1 (by omega) (by omega) (by omega) (by omega)) (by decide) ?_
  rintro m13 v13 r_v13 ⟨hx_m13, h_m13⟩
  have g_m13 : GX sV m m13 := gx_in g_m hx_m13 in_sV_sV
  have q_m13 := h_m13.2
  rw [show Int.toNat (wr (43 + x1)) = Int.toNat (43 + x1) by omega] at q_m13
  exact ⟨g_m13, by exact ⟨by first | trivial | omega | (refine ⟨?_, ?_⟩ <;> omega), by exact q_m13⟩⟩
-- TippedCratesModel.doesPrint(II)Z
set_option maxRecDepth 20000 in
theorem mz_230 {m : Mm} {x1 : Int} {x2 : Int}  (T_m : Ty m) (r_x1 : rg x1) (r_x2 : rg x2) (p0 : MW m) (p1 : lawsM m) (p2 : 0 ≤ x1 ∧ x1 ≤ 2) (p3 : 0 ≤ x2 ∧ x2 ≤ 3) : CK 4 230 [.ref 284, iv x1, iv x2] m (fun m2 v => GX sV m m2 ∧ ((v = 0 ∨ v = 1) ∧ (∀ E, LM m E → (v = 1 ∧ 0 < lval (vfI m x1 (rd m 323 (Int.toNat (43 + x1))) 0 x2) (E 0).1 (E 0).2) ∨ (v = 0 ∧ ¬ 0 < lval (vfI m x1 (rd m 323 (Int.toNat (43 + x1))) 0 x2) (E 0).1 (E 0).2)))) := by
  refine br_230 r_x1 r_x2 ?_
  unfold P_230
  have g_m : GX sV m m := ⟨T_m, fun _ _ _ => rfl, fun _ _ => rfl⟩
  try have w1 : wr (43 + x1) = 43 + x1 := wr_id (by omega) (by omega)
  refine ⟨⟨by omega, by omega⟩, ?_⟩
  have t2 := tr_323 T_m (Int.toNat (wr (43 + x1)))
  refine CV.mono (mz_226   T_m r_x1 (rd_rg _ _ _) (by unfold rg; decide) r_x2 p0 (by omega) (by omega) (by omega) (by omega)) (by decide) ?_
  rintro m13 ⟨hx_m13, h_m13⟩
  have g_m13 : GX sV m m13 := gx_in g_m hx_m13 in_sV_sV
  have q_m13 := h_m13.2
  rw [show Int.toNat (wr (43 + x1)) = Int.toNat (43 + x1) by omega] at q_m13
  refine CK.mono (mz_225   g_m13.1 (by unfold rg; decide) (by unfold rg; decide) (by omega) (laws_V p1 g_m13) rfl) (by decide) ?_
  rintro m19 v19 r_v19 ⟨hx_m19, h_m19⟩
  have g_m19 : GX sV m m19 := gx_in g_m13 hx_m19 in_sV_sV
  have q_m19 := h_m19.2
  refine ⟨fun s0_30 => (s0_30 = 0 ∧ v19 ≤ 0) ∨ (s0_30 = 1 ∧ ¬ v19 ≤ 0), ?_, ?_⟩
  · skip
    refine ⟨fun hq => ?_, fun hq => ?_⟩
    · skip
      (first | trivial | omega | (refine ⟨?_, ?_⟩ <;> omega))
    · skip
      (first | trivial | omega | (refine ⟨?_, ?_⟩ <;> omega))
  · intro s0_30 r_s0_30 hR_30
    exact ⟨by omega, ⟨g_m19, by exact ⟨by first | trivial | omega | (refine ⟨?_, ?_⟩ <;> omega), by exact fun E h => by have e := co_v h (hx_m13.2.1 284 18 rfl) (fun i j p => hx_m13.2.1 i j (sV_no (by omega) (by omega) (by omega))) q_m13 q_m19 (by decide) (ty_284_18 T_m); omega⟩⟩⟩
-- TippedCratesModel.doesTake(II)Z
set_option maxRecDepth 20000 in
theorem mz_231 {m : Mm} {x1 : Int} {x2 : Int}  (T_m : Ty m) (r_x1 : rg x1) (r_x2 : rg x2) (p0 : MW m) (p1 : lawsM m) (p2 : 0 ≤ x1 ∧ x1 ≤ 2) (p3 : 0 ≤ x2 ∧ x2 ≤ 3) : CK 4 231 [.ref 284, iv x1, iv x2] m (fun m2 v => GX sV m m2 ∧ ((v = 0 ∨ v = 1) ∧ (∀ E, LM m E → (v = 1 ∧ 0 < lval (vfI m x1 (rd m 323 (Int.toNat (43 + x1))) 0 x2) (E 1).1 (E 1).2) ∨ (v = 0 ∧ ¬ 0 < lval (vfI m x1 (rd m 323 (Int.toNat (43 + x1))) 0 x2) (E 1).1 (E 1).2)))) := by
  refine br_231 r_x1 r_x2 ?_
  unfold P_231
  have g_m : GX sV m m := ⟨T_m, fun _ _ _ => rfl, fun _ _ => rfl⟩
  try have w1 : wr (43 + x1) = 43 + x1 := wr_id (by omega) (by omega)
  refine ⟨⟨by omega, by omega⟩, ?_⟩
  have t2 := tr_323 T_m (Int.toNat (wr (43 + x1)))
  refine CV.mono (mz_226   T_m r_x1 (rd_rg _ _ _) (by unfold rg; decide) r_x2 p0 (by omega) (by omega) (by omega) (by omega)) (by decide) ?_
  rintro m13 ⟨hx_m13, h_m13⟩
  have g_m13 : GX sV m m13 := gx_in g_m hx_m13 in_sV_sV
  have q_m13 := h_m13.2
  rw [show Int.toNat (wr (43 + x1)) = Int.toNat (43 + x1) by omega] at q_m13
  refine CK.mono (mz_225   g_m13.1 (by unfold rg; decide) (by unfold rg; decide) (by omega) (laws_V p1 g_m13) rfl) (by decide) ?_
  rintro m19 v19 r_v19 ⟨hx_m19, h_m19⟩
  have g_m19 : GX sV m m19 := gx_in g_m13 hx_m19 in_sV_sV
  have q_m19 := h_m19.2
  refine ⟨fun s0_30 => (s0_30 = 0 ∧ v19 ≤ 0) ∨ (s0_30 = 1 ∧ ¬ v19 ≤ 0), ?_, ?_⟩
  · skip
    refine ⟨fun hq => ?_, fun hq => ?_⟩
    · skip
      (first | trivial | omega | (refine ⟨?_, ?_⟩ <;> omega))
    · skip
      (first | trivial | omega | (refine ⟨?_, ?_⟩ <;> omega))
  · intro s0_30 r_s0_30 hR_30
    exact ⟨by omega, ⟨g_m19, by exact ⟨by first | trivial | omega | (refine ⟨?_, ?_⟩ <;> omega), by exact fun E h => by have e := co_v h (hx_m13.2.1 284 18 rfl) (fun i j p => hx_m13.2.1 i j (sV_no (by omega) (by omega) (by omega))) q_m13 q_m19 (by decide) (ty_284_18 T_m); omega⟩⟩⟩
