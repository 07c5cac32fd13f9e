section FRM
variable {m : Mm} {Y r : Ro} {E : Lw} {c k v w : Int}
theorem fr_M (y : YM m Y E r) (hc : 0 ≤ c ∧ c < Y 3) (hk : 0 ≤ k ∧ k ≤ 3) (p : (v = 1 ∧ cfM m c (rd m 323 (Int.toNat (43 + c))) k) ∨ (v = 0 ∧ ¬ cfM m c (rd m 323 (Int.toNat (43 + c))) k)) : (v = 1 ∧ canB Y r c k = true) ∨ (v = 0 ∧ canB Y r c k = false) := by
  rcases p with ⟨a, b⟩ | ⟨a, b⟩
  · exact Or.inl ⟨a, canB_t.mpr ((can_M y hc hk).mp b)⟩
  · exact Or.inr ⟨a, eq_false_of_ne_true (fun q => b ((can_M y hc hk).mpr (canB_t.mp q)))⟩
theorem fr_1 {b : Bool} (p : (v = 1 ∧ b = true) ∨ (v = 0 ∧ b = false)) (z : ¬ v = 0) : b = true := by
  rcases p with ⟨-, q⟩ | ⟨a, -⟩
  · exact q
  · exact absurd a z
theorem fr_0 {b : Bool} (p : (v = 1 ∧ b = true) ∨ (v = 0 ∧ b = false)) (z : v = 0) : b = false := by
  rcases p with ⟨a, -⟩ | ⟨-, q⟩
  · omega
  · exact q
theorem fr_n (a : canB Y r c 0 = false) (b : canB Y r c 1 = false) (d : canB Y r c 2 = false) (e : canB Y r c 3 = false) : ¬ fr4 Y r c := by
  unfold fr4
  rw [a, b, d, e]
  decide
theorem fr_e {x1 : Int} (p : (v = 1 ∧ ∀ Y E r, YM m Y E r → x1 < Y 3 → ¬ fr4 Y r x1) ∨ (v = 0 ∧ ∀ Y E r, YM m Y E r → x1 < Y 3 → fr4 Y r x1)) (y : YM m Y E r) (h : x1 < Y 3) : (v = 0 ∧ fr4 Y r x1) ∨ (v = 1 ∧ ¬ fr4 Y r x1) := by
  rcases p with ⟨a, b⟩ | ⟨a, b⟩
  · exact Or.inr ⟨a, b Y E r y h⟩
  · exact Or.inl ⟨a, b Y E r y h⟩
theorem fr_s {x y z : Int} (d : x = stF Y r (Int.toNat w)) (p : (v = 0 ∧ fr4 Y r w) ∨ (v = 1 ∧ ¬ fr4 Y r w)) (e : (v = 0 ∧ y = x) ∨ (¬ v = 0 ∧ y = orI x (slI 1 w))) (ez : 0 ≤ w ∧ z = w + 1) : y = stF Y r (Int.toNat z) := by
  rw [show Int.toNat z = Int.toNat w + 1 by omega]
  show y = if canB Y r ((Int.toNat w : Nat) : Int) 0 = true ∨ canB Y r ((Int.toNat w : Nat) : Int) 1 = true ∨ canB Y r ((Int.toNat w : Nat) : Int) 2 = true ∨ canB Y r ((Int.toNat w : Nat) : Int) 3 = true then stF Y r (Int.toNat w) else orI (stF Y r (Int.toNat w)) (slI 1 ((Int.toNat w : Nat) : Int))
  rw [show ((Int.toNat w : Nat) : Int) = w by omega, ← d]
  unfold fr4 at p
  rcases p with ⟨a, b⟩ | ⟨a, b⟩
  · rw [if_pos b]
    rcases e with ⟨-, q⟩ | ⟨q, -⟩
    · exact q
    · exact absurd a q
  · rw [if_neg b]
    rcases e with ⟨q, -⟩ | ⟨-, q⟩
    · omega
    · exact q
end FRM
section CMA
variable {m m1 m2 : Mm} {A : Ab} {x v w t q : Int}
theorem cm_6 (y : YM m1 A.Y A.E A.r ∧ mA m1 A) (e : m2 = m1) (z : zR A.Y A.r) (k : x = 6) (ew : 0 ≤ w ∧ w = rd m2 293 (Int.toNat (rd m2 284 18)) * rd m2 294 (Int.toNat (rd m2 284 18))) (ev : v = mkF (rd m1 323) (Int.toNat w)) : v = cntA A t q x ∧ mA m2 A := by
  subst e
  have b := wh_b y.1.2.2.1.1 y.1.2.2.1.2.1
  rw [y.1.1.1.1, y.1.1.1.2.1] at ew
  refine ⟨?_, y.2⟩
  rw [cnt_2 (by omega)]
  unfold cn2A
  rw [if_pos k, ev, ew.2]
  exact mkF_cg (fun j hj => y.1.2.1 j (by omega))
theorem cm_7 (y : YM m1 A.Y A.E A.r ∧ mA m1 A) (e : m2 = m1) (z : zR A.Y A.r) (k : x = 7) (ew : 0 ≤ w ∧ w = rd m2 293 (Int.toNat (rd m2 284 18)) * rd m2 294 (Int.toNat (rd m2 284 18))) (ev : v = smF (rd m1 323) (Int.toNat w)) : v = cntA A t q x ∧ mA m2 A := by
  subst e
  have b := wh_b y.1.2.2.1.1 y.1.2.2.1.2.1
  rw [y.1.1.1.1, y.1.1.1.2.1] at ew
  refine ⟨?_, y.2⟩
  rw [cnt_2 (by omega)]
  unfold cn2A
  rw [if_neg (by omega), if_pos k, ev, ew.2]
  exact smF_cg (fun j hj => y.1.2.1 j (by omega))
theorem cm_14 (y : YM m1 A.Y A.E A.r ∧ mA m1 A) (e : m2 = m1) (z : zR A.Y A.r) (k : x = 14) (ew : 0 ≤ w ∧ w = rd m2 293 (Int.toNat (rd m2 284 18)) * rd m2 294 (Int.toNat (rd m2 284 18))) (ev : v = gmF (rd m1 323) (Int.toNat w)) : v = cntA A t q x ∧ mA m2 A := by
  subst e
  have b := wh_b y.1.2.2.1.1 y.1.2.2.1.2.1
  rw [y.1.1.1.1, y.1.1.1.2.1] at ew
  refine ⟨?_, y.2⟩
  rw [cnt_2 (by omega)]
  unfold cn2A
  rw [if_neg (by omega), if_neg (by omega), if_neg (by omega), if_neg (by omega), if_pos k, ev, ew.2]
  exact gmF_cg (fun j hj => y.1.2.1 j (by omega))
theorem cm_15 (y : YM m1 A.Y A.E A.r ∧ mA m1 A) (e : m2 = m1) (k : x = 15) (ew : 0 ≤ w ∧ w = rd m2 302 (Int.toNat (rd m2 284 18))) (ev : ∀ Y E r, YM m1 Y E r → v = stF Y r (Int.toNat w)) : v = cntA A t q x ∧ mA m2 A := by
  subst e
  rw [y.1.1.1.2.2.2.1] at ew
  refine ⟨?_, y.2⟩
  rw [cnt_2 (by omega)]
  have e := ev A.Y A.E A.r y.1
  rw [ew.2] at e
  exact cn_15 k e
theorem cm_13 (y : YM m1 A.Y A.E A.r ∧ mA m1 A) (k : x = 13) (ew : 0 ≤ w ∧ w = rd m1 302 (Int.toNat (rd m1 284 18))) (ev : v = fcF (fun c : Nat => rd m1 323 (43 + c)) (Int.toNat w)) : v = cntA A t q x ∧ mA m1 A := by
  have y3 := y.1.2.2.1.2.2
  rw [y.1.1.1.2.2.2.1] at ew
  refine ⟨?_, y.2⟩
  rw [cnt_2 (by omega)]
  unfold cn2A
  rw [if_neg (by omega), if_neg (by omega), if_neg (by omega), if_pos k, ev, ew.2]
  exact fcF_cg (fun j hj => y.1.2.1 (43 + j) (by omega))
theorem cm_11 {s0 s1 s2 : Int} (y : YM m1 A.Y A.E A.r ∧ mA m1 A) (k : x = 11) (h0 : (rd m1 339 0 = 0 ∧ s0 = 0) ∨ (¬ rd m1 339 0 = 0 ∧ s0 = 1)) (h1 : (rd m1 339 1 = 0 ∧ s1 = 0) ∨ (¬ rd m1 339 1 = 0 ∧ s1 = 1)) (h2 : (rd m1 339 2 = 0 ∧ s2 = 0) ∨ (¬ rd m1 339 2 = 0 ∧ s2 = 1)) : wr (wr (s0 + s1) + s2) = cntA A t q x ∧ mA m1 A := by
  refine ⟨?_, y.2⟩
  rw [← cnt_h k, ← hdF_cg (F := rd m1 339) (fun j hj => (y.2.2.2.2.2 j hj).1)]
  show _ = wr (wr (wr (0 + (if rd m1 339 0 = 0 then 0 else 1)) + (if rd m1 339 1 = 0 then 0 else 1)) + (if rd m1 339 2 = 0 then 0 else 1))
  rcases h0 with ⟨a, rfl⟩ | ⟨a, rfl⟩ <;> rcases h1 with ⟨b, rfl⟩ | ⟨b, rfl⟩ <;> rcases h2 with ⟨c, rfl⟩ | ⟨c, rfl⟩ <;> first | rw [if_pos a, if_pos b, if_pos c] | rw [if_pos a, if_pos b, if_neg c] | rw [if_pos a, if_neg b, if_pos c] | rw [if_pos a, if_neg b, if_neg c] | rw [if_neg a, if_pos b, if_pos c] | rw [if_neg a, if_pos b, if_neg c] | rw [if_neg a, if_neg b, if_pos c] | rw [if_neg a, if_neg b, if_neg c]
  all_goals decide
theorem cm_0 (y : YM m1 A.Y A.E A.r ∧ mA m1 A) (k : x = 0) : rd m1 293 (Int.toNat (rd m1 284 18)) = cntA A t q x ∧ mA m1 A := ⟨y.1.1.1.1.trans (cnt_0 k), y.2⟩
theorem cm_1 (y : YM m1 A.Y A.E A.r ∧ mA m1 A) (k : x = 1) : rd m1 294 (Int.toNat (rd m1 284 18)) = cntA A t q x ∧ mA m1 A := ⟨y.1.1.1.2.1.trans (cnt_1 k), y.2⟩
theorem cm_2 (y : YM m1 A.Y A.E A.r ∧ mA m1 A) (k : x = 2) : rd m1 302 (Int.toNat (rd m1 284 18)) = cntA A t q x ∧ mA m1 A := ⟨y.1.1.1.2.2.2.1.trans (cnt_c k), y.2⟩
theorem cm_3 (y : YM m1 A.Y A.E A.r ∧ mA m1 A) (k : x = 3) : rd m1 323 49 = cntA A t q x ∧ mA m1 A := ⟨(y.1.2.1 49 (by decide)).trans (cnt_3 k), y.2⟩
theorem cm_4 (y : YM m1 A.Y A.E A.r ∧ mA m1 A) (k : x = 4) : rd m1 323 50 = cntA A t q x ∧ mA m1 A := ⟨(y.1.2.1 50 (by decide)).trans (cnt_4 k), y.2⟩
theorem cm_5 (y : YM m1 A.Y A.E A.r ∧ mA m1 A) (k : x = 5) : rd m1 284 59 = cntA A t q x ∧ mA m1 A := ⟨y.1.1.1.2.2.1.trans (cnt_5 k), y.2⟩
theorem cm_9 (y : YM m1 A.Y A.E A.r ∧ mA m1 A) (k : x = 9) : rd m1 284 60 = cntA A t q x ∧ mA m1 A := ⟨y.2.2.2.1.trans (cnt_9 k), y.2⟩
theorem cm_8 (y : YM m1 A.Y A.E A.r ∧ mA m1 A) (cp : cpR m m1) (k : x = 8) : rd m1 284 2 = cntA A (rd m 284 2) q x ∧ mA m1 A := ⟨(cp.2.2 284 2 (by decide) (by decide)).trans (cnt_8 k), y.2⟩
theorem cm_10 (y : YM m1 A.Y A.E A.r ∧ mA m1 A) (cp : cpR m m1) (k : x = 10) : rd m1 284 72 = cntA A t (rd m 284 72) x ∧ mA m1 A := ⟨(cp.2.2 284 72 (by decide) (by decide)).trans (cnt_10 k), y.2⟩
theorem cm_12 (y : YM m1 A.Y A.E A.r ∧ mA m1 A) (k : x = 12) : wr (wr (rd m1 323 46 + rd m1 323 47) + rd m1 323 48) = cntA A t q x ∧ mA m1 A := by
  refine ⟨?_, y.2⟩
  rw [cnt_2 (by omega)]
  unfold cn2A
  rw [if_neg (by omega), if_neg (by omega), if_pos k, y.1.2.1 46 (by decide), y.1.2.1 47 (by decide), y.1.2.1 48 (by decide)]
theorem cm_16 (y : YM m1 A.Y A.E A.r ∧ mA m1 A) (_z : zR A.Y A.r) (k : x = 16) : wr (wr (rd m1 323 25 + rd m1 323 31) + rd m1 323 37) = cntA A t q x ∧ mA m1 A := by
  refine ⟨?_, y.2⟩
  rw [cnt_2 (by omega)]
  unfold cn2A
  rw [if_neg (by omega), if_neg (by omega), if_neg (by omega), if_neg (by omega), if_neg (by omega), if_neg (by omega), if_pos k, y.1.2.1 25 (by decide), y.1.2.1 31 (by decide), y.1.2.1 37 (by decide)]
theorem cm_n (y : YM m1 A.Y A.E A.r ∧ mA m1 A) (k : x < 0 ∨ 16 < x) : (-1 : Int) = cntA A t q x ∧ mA m1 A := ⟨by rw [cnt_2 (by omega)]; exact cn_n (by omega), y.2⟩
end CMA
-- TippedCratesModel.isStuck(I)Z
set_option maxRecDepth 20000 in
theorem mz_286 {m : Mm} {x1 : Int}  (T_m : Ty m) (r_x1 : rg x1) (p0 : MW m) (p1 : 0 ≤ x1 ∧ x1 ≤ 2) : CK 5 286 [.ref 284, iv x1] m (fun m2 v => m2 = m ∧ ((v = 0 ∨ v = 1) ∧ (∀ Y E r, YM m Y E r → x1 < Y 3 → (v = 0 ∧ fr4 Y r x1) ∨ (v = 1 ∧ ¬ fr4 Y r x1)))) := by
  refine br_286 r_x1 ?_
  unfold P_286
  refine CK.mono (mz_224   T_m r_x1 (by unfold rg; decide) p0 (by omega) (by omega)) (by decide) ?_
  rintro m3 v3 r_v3 ⟨e_m3, h_m3⟩
  replace e_m3 := e_m3.symm
  subst e_m3
  have q_m3 : ∀ Y E r, YM m Y E r → x1 < Y 3 → (v3 = 1 ∧ canB Y r x1 0 = true) ∨ (v3 = 0 ∧ canB Y r x1 0 = false) := fun Y E r y h => fr_M y ⟨p1.1, h⟩ (by decide) h_m3.2
  refine ⟨fun s0_41 m_41 => m_41 = m ∧ ((s0_41 = 1 ∧ ∀ Y E r, YM m Y E r → x1 < Y 3 → ¬ fr4 Y r x1) ∨ (s0_41 = 0 ∧ ∀ Y E r, YM m Y E r → x1 < Y 3 → fr4 Y r x1)), ?_, ?_⟩
  · skip
    refine ⟨fun m_40 => m_40 = m ∧ (∀ Y E r, YM m Y E r → x1 < Y 3 → fr4 Y r x1), ?_, ?_⟩
    · skip
      refine ⟨fun hq => ?_, fun hq => ?_⟩
      · skip
        exact ⟨rfl, by first | exact fun Y E r y h => Or.inr (Or.inr (Or.inr (fr_1 (q_m30 Y E r y h) (by omega)))) | exact fun Y E r y h => Or.inr (Or.inr (Or.inl (fr_1 (q_m21 Y E r y h) (by omega)))) | exact fun Y E r y h => Or.inr (Or.inl (fr_1 (q_m12 Y E r y h) (by omega))) | exact fun Y E r y h => Or.inl (fr_1 (q_m3 Y E r y h) (by omega))⟩
      · skip
        refine CK.mono (mz_224   T_m r_x1 (by unfold rg; decide) p0 (by omega) (by omega)) (by decide) ?_
        rintro m12 v12 r_v12 ⟨e_m12, h_m12⟩
        replace e_m12 := e_m12.symm
        subst e_m12
        have q_m12 : ∀ Y E r, YM m Y E r → x1 < Y 3 → (v12 = 1 ∧ canB Y r x1 1 = true) ∨ (v12 = 0 ∧ canB Y r x1 1 = false) := fun Y E r y h => fr_M y ⟨p1.1, h⟩ (by decide) h_m12.2
        refine ⟨fun hq => ?_, fun hq => ?_⟩
        · skip
          exact ⟨rfl, by first | exact fun Y E r y h => Or.inr (Or.inr (Or.inr (fr_1 (q_m30 Y E r y h) (by omega)))) | exact fun Y E r y h => Or.inr (Or.inr (Or.inl (fr_1 (q_m21 Y E r y h) (by omega)))) | exact fun Y E r y h => Or.inr (Or.inl (fr_1 (q_m12 Y E r y h) (by omega))) | exact fun Y E r y h => Or.inl (fr_1 (q_m3 Y E r y h) (by omega))⟩
        · skip
          refine CK.mono (mz_224   T_m r_x1 (by unfold rg; decide) p0 (by omega) (by omega)) (by decide) ?_
          rintro m21 v21 r_v21 ⟨e_m21, h_m21⟩
          replace e_m21 := e_m21.symm
          subst e_m21
          have q_m21 : ∀ Y E r, YM m Y E r → x1 < Y 3 → (v21 = 1 ∧ canB Y r x1 2 = true) ∨ (v21 = 0 ∧ canB Y r x1 2 = false) := fun Y E r y h => fr_M y ⟨p1.1, h⟩ (by decide) h_m21.2
          refine ⟨fun hq => ?_, fun hq => ?_⟩
          · skip
            exact ⟨rfl, by first | exact fun Y E r y h => Or.inr (Or.inr (Or.inr (fr_1 (q_m30 Y E r y h) (by omega)))) | exact fun Y E r y h => Or.inr (Or.inr (Or.inl (fr_1 (q_m21 Y E r y h) (by omega)))) | exact fun Y E r y h => Or.inr (Or.inl (fr_1 (q_m12 Y E r y h) (by omega))) | exact fun Y E r y h => Or.inl (fr_1 (q_m3 Y E r y h) (by omega))⟩
          · skip
            refine CK.mono (mz_224   T_m r_x1 (by unfold rg; decide) p0 (by omega) (by omega)) (by decide) ?_
            rintro m30 v30 r_v30 ⟨e_m30, h_m30⟩
            replace e_m30 := e_m30.symm
            subst e_m30
            have q_m30 : ∀ Y E r, YM m Y E r → x1 < Y 3 → (v30 = 1 ∧ canB Y r x1 3 = true) ∨ (v30 = 0 ∧ canB Y r x1 3 = false) := fun Y E r y h => fr_M y ⟨p1.1, h⟩ (by decide) h_m30.2
            refine ⟨fun hq => ?_, fun hq => ?_⟩
            · skip
              exact ⟨rfl, by first | exact fun Y E r y h => Or.inr (Or.inr (Or.inr (fr_1 (q_m30 Y E r y h) (by omega)))) | exact fun Y E r y h => Or.inr (Or.inr (Or.inl (fr_1 (q_m21 Y E r y h) (by omega)))) | exact fun Y E r y h => Or.inr (Or.inl (fr_1 (q_m12 Y E r y h) (by omega))) | exact fun Y E r y h => Or.inl (fr_1 (q_m3 Y E r y h) (by omega))⟩
            · skip
              exact ⟨rfl, by first | exact Or.inr ⟨rfl, hR_40⟩ | exact Or.inl ⟨rfl, fun Y E r y h => fr_n (fr_0 (q_m3 Y E r y h) (by omega)) (fr_0 (q_m12 Y E r y h) (by omega)) (fr_0 (q_m21 Y E r y h) (by omega)) (fr_0 (q_m30 Y E r y h) (by omega))⟩⟩
    · intro m_40  hR_40
      obtain ⟨e_m_40, hR_40⟩ := hR_40
      replace e_m_40 := e_m_40.symm
      subst e_m_40
      exact ⟨rfl, by first | exact Or.inr ⟨rfl, hR_40⟩ | exact Or.inl ⟨rfl, fun Y E r y h => fr_n (fr_0 (q_m3 Y E r y h) (by omega)) (fr_0 (q_m12 Y E r y h) (by omega)) (fr_0 (q_m21 Y E r y h) (by omega)) (fr_0 (q_m30 Y E r y h) (by omega))⟩⟩
  · intro s0_41 m_41 r_s0_41 hR_41
    obtain ⟨e_m_41, hR_41⟩ := hR_41
    replace e_m_41 := e_m_41.symm
    subst e_m_41
    exact ⟨by omega, ⟨rfl, by exact ⟨by first | (rcases hR_41 with ⟨a, -⟩ | ⟨a, -⟩; exact Or.inr a; exact Or.inl a) | trivial | omega | (refine ⟨?_, ?_⟩ <;> omega), by exact fun Y E r y h => fr_e hR_41 y h⟩⟩⟩
-- TippedCratesModel.count(I)I
set_option maxRecDepth 20000 in
theorem mz_287 {m0 m : Mm} {x1 : Int}  (g_m : G m0 m) (r_x1 : rg x1) (p0 : MW m0) : CK 6 287 [.ref 284, iv x1] m (fun m2 v => G m0 m2 ∧ ((True) ∧ (∀ A, okY A.Y → okR A.Y A.r → A.n ≤ 40 → zR A.Y A.r → mA m A → v = cntA A (rd m 284 2) (rd m 284 72) x1 ∧ mA m2 A))) := by
  refine br_287 r_x1 ?_
  unfold P_287
  refine CV.mono (mz_216   g_m.1) (by decide) ?_
  rintro m1 ⟨hx_m1, h_m1⟩
  have g_m1 : G m0 m1 := gx_in g_m hx_m1 in_sC_scr
  refine ⟨fun hq => ?_, fun hq => ?_, fun hq => ?_, fun hq => ?_, fun hq => ?_, fun hq => ?_, fun hq => ?_, fun hq => ?_, fun hq => ?_, fun hq => ?_, fun hq => ?_, fun hq => ?_, fun hq => ?_, fun hq => ?_, fun hq => ?_, fun hq => ?_, fun hq => ?_, fun hq => ?_⟩
  · skip
    have t1 := ty_284_18 g_m1.1
    refine ⟨⟨by omega, by omega⟩, ?_⟩
    have t2 := ty_293 g_m1.1 (Int.toNat (rd m1 284 18))
    exact ⟨g_m1, by exact ⟨by first | trivial | omega | (refine ⟨?_, ?_⟩ <;> omega), by first | (have u := dI_141; exact fun A oY oR _ z h => cm_6 (mA_cp h oY oR (ty_284_18 g_m.1) h_m1.2) dI_141.1 z (by omega) (by omega) dI_141.2.2) | (have u := dI_174; exact fun A oY oR _ z h => cm_7 (mA_cp h oY oR (ty_284_18 g_m.1) h_m1.2) dI_174.1 z (by omega) (by omega) dI_174.2.2) | (have u := dI_322; exact fun A oY oR _ z h => cm_14 (mA_cp h oY oR (ty_284_18 g_m.1) h_m1.2) dI_322.1 z (by omega) (by omega) dI_322.2.2) | (have u := dI_357; exact fun A oY oR _ z h => cm_15 (mA_cp h oY oR (ty_284_18 g_m.1) h_m1.2) dI_357.1 (by omega) (by omega) dI_357.2.2) | (have u := dI_285; exact fun A oY oR _ z h => cm_13 (mA_cp h oY oR (ty_284_18 g_m.1) h_m1.2) (by omega) (by omega) dI_285.2) | (have u := hR_257; exact fun A oY oR _ z h => cm_11 (mA_cp h oY oR (ty_284_18 g_m.1) h_m1.2) (by omega) hR_228 hR_242 hR_257) | (have e : x1 = 0 := hq; exact fun A oY oR _ z h => cm_0 (mA_cp h oY oR (ty_284_18 g_m.1) h_m1.2)  e) | (have e : x1 = 1 := hq; exact fun A oY oR _ z h => cm_1 (mA_cp h oY oR (ty_284_18 g_m.1) h_m1.2)  e) | (have e : x1 = 2 := hq; exact fun A oY oR _ z h => cm_2 (mA_cp h oY oR (ty_284_18 g_m.1) h_m1.2)  e) | (have e : x1 = 3 := hq; exact fun A oY oR _ z h => cm_3 (mA_cp h oY oR (ty_284_18 g_m.1) h_m1.2)  e) | (have e : x1 = 4 := hq; exact fun A oY oR _ z h => cm_4 (mA_cp h oY oR (ty_284_18 g_m.1) h_m1.2)  e) | (have e : x1 = 5 := hq; exact fun A oY oR _ z h => cm_5 (mA_cp h oY oR (ty_284_18 g_m.1) h_m1.2)  e) | (have e : x1 = 9 := hq; exact fun A oY oR _ z h => cm_9 (mA_cp h oY oR (ty_284_18 g_m.1) h_m1.2)  e) | (have e : x1 = 8 := hq; exact fun A oY oR _ z h => cm_8 (mA_cp h oY oR (ty_284_18 g_m.1) h_m1.2) h_m1.2 e) | (have e : x1 = 10 := hq; exact fun A oY oR _ z h => cm_10 (mA_cp h oY oR (ty_284_18 g_m.1) h_m1.2) h_m1.2 e) | (have e : x1 = 12 := hq; exact fun A oY oR _ z h => cm_12 (mA_cp h oY oR (ty_284_18 g_m.1) h_m1.2)  e) | (have e : x1 = 16 := hq; exact fun A oY oR _ z h => cm_16 (mA_cp h oY oR (ty_284_18 g_m.1) h_m1.2) z e) | exact fun A oY oR _ z h => cm_n (mA_cp h oY oR (ty_284_18 g_m.1) h_m1.2) hq⟩⟩
  · skip
    have t3 := ty_284_18 g_m1.1
    refine ⟨⟨by omega, by omega⟩, ?_⟩
    have t4 := ty_294 g_m1.1 (Int.toNat (rd m1 284 18))
    exact ⟨g_m1, by exact ⟨by first | trivial | omega | (refine ⟨?_, ?_⟩ <;> omega), by first | (have u := dI_141; exact fun A oY oR _ z h => cm_6 (mA_cp h oY oR (ty_284_18 g_m.1) h_m1.2) dI_141.1 z (by omega) (by omega) dI_141.2.2) | (have u := dI_174; exact fun A oY oR _ z h => cm_7 (mA_cp h oY oR (ty_284_18 g_m.1) h_m1.2) dI_174.1 z (by omega) (by omega) dI_174.2.2) | (have u := dI_322; exact fun A oY oR _ z h => cm_14 (mA_cp h oY oR (ty_284_18 g_m.1) h_m1.2) dI_322.1 z (by omega) (by omega) dI_322.2.2) | (have u := dI_357; exact fun A oY oR _ z h => cm_15 (mA_cp h oY oR (ty_284_18 g_m.1) h_m1.2) dI_357.1 (by omega) (by omega) dI_357.2.2) | (have u := dI_285; exact fun A oY oR _ z h => cm_13 (mA_cp h oY oR (ty_284_18 g_m.1) h_m1.2) (by omega) (by omega) dI_285.2) | (have u := hR_257; exact fun A oY oR _ z h => cm_11 (mA_cp h oY oR (ty_284_18 g_m.1) h_m1.2) (by omega) hR_228 hR_242 hR_257) | (have e : x1 = 0 := hq; exact fun A oY oR _ z h => cm_0 (mA_cp h oY oR (ty_284_18 g_m.1) h_m1.2)  e) | (have e : x1 = 1 := hq; exact fun A oY oR _ z h => cm_1 (mA_cp h oY oR (ty_284_18 g_m.1) h_m1.2)  e) | (have e : x1 = 2 := hq; exact fun A oY oR _ z h => cm_2 (mA_cp h oY oR (ty_284_18 g_m.1) h_m1.2)  e) | (have e : x1 = 3 := hq; exact fun A oY oR _ z h => cm_3 (mA_cp h oY oR (ty_284_18 g_m.1) h_m1.2)  e) | (have e : x1 = 4 := hq; exact fun A oY oR _ z h => cm_4 (mA_cp h oY oR (ty_284_18 g_m.1) h_m1.2)  e) | (have e : x1 = 5 := hq; exact fun A oY oR _ z h => cm_5 (mA_cp h oY oR (ty_284_18 g_m.1) h_m1.2)  e) | (have e : x1 = 9 := hq; exact fun A oY oR _ z h => cm_9 (mA_cp h oY oR (ty_284_18 g_m.1) h_m1.2)  e) | (have e : x1 = 8 := hq; exact fun A oY oR _ z h => cm_8 (mA_cp h oY oR (ty_284_18 g_m.1) h_m1.2) h_m1.2 e) | (have e : x1 = 10 := hq; exact fun A oY oR _ z h => cm_10 (mA_cp h oY oR (ty_284_18 g_m.1) h_m1.2) h_m1.2 e) | (have e : x1 = 12 := hq; exact fun A oY oR _ z h => cm_12 (mA_cp h oY oR (ty_284_18 g_m.1) h_m1.2)  e) | (have e : x1 = 16 := hq; exact fun A oY oR _ z h => cm_16 (mA_cp h oY oR (ty_284_18 g_m.1) h_m1.2) z e) | exact fun A oY oR _ z h => cm_n (mA_cp h oY oR (ty_284_18 g_m.1) h_m1.2) hq⟩⟩
  · skip
    have t5 := ty_284_18 g_m1.1
    refine ⟨⟨by omega, by omega⟩, ?_⟩
    have t6 := ty_302 g_m1.1 (Int.toNat (rd m1 284 18))
    exact ⟨g_m1, by exact ⟨by first | trivial | omega | (refine ⟨?_, ?_⟩ <;> omega), by first | (have u := dI_141; exact fun A oY oR _ z h => cm_6 (mA_cp h oY oR (ty_284_18 g_m.1) h_m1.2) dI_141.1 z (by omega) (by omega) dI_141.2.2) | (have u := dI_174; exact fun A oY oR _ z h => cm_7 (mA_cp h oY oR (ty_284_18 g_m.1) h_m1.2) dI_174.1 z (by omega) (by omega) dI_174.2.2) | (have u := dI_322; exact fun A oY oR _ z h => cm_14 (mA_cp h oY oR (ty_284_18 g_m.1) h_m1.2) dI_322.1 z (by omega) (by omega) dI_322.2.2) | (have u := dI_357; exact fun A oY oR _ z h => cm_15 (mA_cp h oY oR (ty_284_18 g_m.1) h_m1.2) dI_357.1 (by omega) (by omega) dI_357.2.2) | (have u := dI_285; exact fun A oY oR _ z h => cm_13 (mA_cp h oY oR (ty_284_18 g_m.1) h_m1.2) (by omega) (by omega) dI_285.2) | (have u := hR_257; exact fun A oY oR _ z h => cm_11 (mA_cp h oY oR (ty_284_18 g_m.1) h_m1.2) (by omega) hR_228 hR_242 hR_257) | (have e : x1 = 0 := hq; exact fun A oY oR _ z h => cm_0 (mA_cp h oY oR (ty_284_18 g_m.1) h_m1.2)  e) | (have e : x1 = 1 := hq; exact fun A oY oR _ z h => cm_1 (mA_cp h oY oR (ty_284_18 g_m.1) h_m1.2)  e) | (have e : x1 = 2 := hq; exact fun A oY oR _ z h => cm_2 (mA_cp h oY oR (ty_284_18 g_m.1) h_m1.2)  e) | (have e : x1 = 3 := hq; exact fun A oY oR _ z h => cm_3 (mA_cp h oY oR (ty_284_18 g_m.1) h_m1.2)  e) | (have e : x1 = 4 := hq; exact fun A oY oR _ z h => cm_4 (mA_cp h oY oR (ty_284_18 g_m.1) h_m1.2)  e) | (have e : x1 = 5 := hq; exact fun A oY oR _ z h => cm_5 (mA_cp h oY oR (ty_284_18 g_m.1) h_m1.2)  e) | (have e : x1 = 9 := hq; exact fun A oY oR _ z h => cm_9 (mA_cp h oY oR (ty_284_18 g_m.1) h_m1.2)  e) | (have e : x1 = 8 := hq; exact fun A oY oR _ z h => cm_8 (mA_cp h oY oR (ty_284_18 g_m.1) h_m1.2) h_m1.2 e) | (have e : x1 = 10 := hq; exact fun A oY oR _ z h => cm_10 (mA_cp h oY oR (ty_284_18 g_m.1) h_m1.2) h_m1.2 e) | (have e : x1 = 12 := hq; exact fun A oY oR _ z h => cm_12 (mA_cp h oY oR (ty_284_18 g_m.1) h_m1.2)  e) | (have e : x1 = 16 := hq; exact fun A oY oR _ z h => cm_16 (mA_cp h oY oR (ty_284_18 g_m.1) h_m1.2) z e) | exact fun A oY oR _ z h => cm_n (mA_cp h oY oR (ty_284_18 g_m.1) h_m1.2) hq⟩⟩
  · skip
    have t7 := tr_323 g_m1.1 49
    exact ⟨g_m1, by exact ⟨by first | trivial | omega | (refine ⟨?_, ?_⟩ <;> omega), by first | (have u := dI_141; exact fun A oY oR _ z h => cm_6 (mA_cp h oY oR (ty_284_18 g_m.1) h_m1.2) dI_141.1 z (by omega) (by omega) dI_141.2.2) | (have u := dI_174; exact fun A oY oR _ z h => cm_7 (mA_cp h oY oR (ty_284_18 g_m.1) h_m1.2) dI_174.1 z (by omega) (by omega) dI_174.2.2) | (have u := dI_322; exact fun A oY oR _ z h => cm_14 (mA_cp h oY oR (ty_284_18 g_m.1) h_m1.2) dI_322.1 z (by omega) (by omega) dI_322.2.2) | (have u := dI_357; exact fun A oY oR _ z h => cm_15 (mA_cp h oY oR (ty_284_18 g_m.1) h_m1.2) dI_357.1 (by omega) (by omega) dI_357.2.2) | (have u := dI_285; exact fun A oY oR _ z h => cm_13 (mA_cp h oY oR (ty_284_18 g_m.1) h_m1.2) (by omega) (by omega) dI_285.2) | (have u := hR_257; exact fun A oY oR _ z h => cm_11 (mA_cp h oY oR (ty_284_18 g_m.1) h_m1.2) (by omega) hR_228 hR_242 hR_257) | (have e : x1 = 0 := hq; exact fun A oY oR _ z h => cm_0 (mA_cp h oY oR (ty_284_18 g_m.1) h_m1.2)  e) | (have e : x1 = 1 := hq; exact fun A oY oR _ z h => cm_1 (mA_cp h oY oR (ty_284_18 g_m.1) h_m1.2)  e) | (have e : x1 = 2 := hq; exact fun A oY oR _ z h => cm_2 (mA_cp h oY oR (ty_284_18 g_m.1) h_m1.2)  e) | (have e : x1 = 3 := hq; exact fun A oY oR _ z h => cm_3 (mA_cp h oY oR (ty_284_18 g_m.1) h_m1.2)  e) | (have e : x1 = 4 := hq; exact fun A oY oR _ z h => cm_4 (mA_cp h oY oR (ty_284_18 g_m.1) h_m1.2)  e) | (have e : x1 = 5 := hq; exact fun A oY oR _ z h => cm_5 (mA_cp h oY oR (ty_284_18 g_m.1) h_m1.2)  e) | (have e : x1 = 9 := hq; exact fun A oY oR _ z h => cm_9 (mA_cp h oY oR (ty_284_18 g_m.1) h_m1.2)  e) | (have e : x1 = 8 := hq; exact fun A oY oR _ z h => cm_8 (mA_cp h oY oR (ty_284_18 g_m.1) h_m1.2) h_m1.2 e) | (have e : x1 = 10 := hq; exact fun A oY oR _ z h => cm_10 (mA_cp h oY oR (ty_284_18 g_m.1) h_m1.2) h_m1.2 e) | (have e : x1 = 12 := hq; exact fun A oY oR _ z h => cm_12 (mA_cp h oY oR (ty_284_18 g_m.1) h_m1.2)  e) | (have e : x1 = 16 := hq; exact fun A oY oR _ z h => cm_16 (mA_cp h oY oR (ty_284_18 g_m.1) h_m1.2) z e) | exact fun A oY oR _ z h => cm_n (mA_cp h oY oR (ty_284_18 g_m.1) h_m1.2) hq⟩⟩
  · skip
    have t8 := tr_323 g_m1.1 50
    exact ⟨g_m1, by exact ⟨by first | trivial | omega | (refine ⟨?_, ?_⟩ <;> omega), by first | (have u := dI_141; exact fun A oY oR _ z h => cm_6 (mA_cp h oY oR (ty_284_18 g_m.1) h_m1.2) dI_141.1 z (by omega) (by omega) dI_141.2.2) | (have u := dI_174; exact fun A oY oR _ z h => cm_7 (mA_cp h oY oR (ty_284_18 g_m.1) h_m1.2) dI_174.1 z (by omega) (by omega) dI_174.2.2) | (have u := dI_322; exact fun A oY oR _ z h => cm_14 (mA_cp h oY oR (ty_284_18 g_m.1) h_m1.2) dI_322.1 z (by omega) (by omega) dI_322.2.2) | (have u := dI_357; exact fun A oY oR _ z h => cm_15 (mA_cp h oY oR (ty_284_18 g_m.1) h_m1.2) dI_357.1 (by omega) (by omega) dI_357.2.2) | (have u := dI_285; exact fun A oY oR _ z h => cm_13 (mA_cp h oY oR (ty_284_18 g_m.1) h_m1.2) (by omega) (by omega) dI_285.2) | (have u := hR_257; exact fun A oY oR _ z h => cm_11 (mA_cp h oY oR (ty_284_18 g_m.1) h_m1.2) (by omega) hR_228 hR_242 hR_257) | (have e : x1 = 0 := hq; exact fun A oY oR _ z h => cm_0 (mA_cp h oY oR (ty_284_18 g_m.1) h_m1.2)  e) | (have e : x1 = 1 := hq; exact fun A oY oR _ z h => cm_1 (mA_cp h oY oR (ty_284_18 g_m.1) h_m1.2)  e) | (have e : x1 = 2 := hq; exact fun A oY oR _ z h => cm_2 (mA_cp h oY oR (ty_284_18 g_m.1) h_m1.2)  e) | (have e : x1 = 3 := hq; exact fun A oY oR _ z h => cm_3 (mA_cp h oY oR (ty_284_18 g_m.1) h_m1.2)  e) | (have e : x1 = 4 := hq; exact fun A oY oR _ z h => cm_4 (mA_cp h oY oR (ty_284_18 g_m.1) h_m1.2)  e) | (have e : x1 = 5 := hq; exact fun A oY oR _ z h => cm_5 (mA_cp h oY oR (ty_284_18 g_m.1) h_m1.2)  e) | (have e : x1 = 9 := hq; exact fun A oY oR _ z h => cm_9 (mA_cp h oY oR (ty_284_18 g_m.1) h_m1.2)  e) | (have e : x1 = 8 := hq; exact fun A oY oR _ z h => cm_8 (mA_cp h oY oR (ty_284_18 g_m.1) h_m1.2) h_m1.2 e) | (have e : x1 = 10 := hq; exact fun A oY oR _ z h => cm_10 (mA_cp h oY oR (ty_284_18 g_m.1) h_m1.2) h_m1.2 e) | (have e : x1 = 12 := hq; exact fun A oY oR _ z h => cm_12 (mA_cp h oY oR (ty_284_18 g_m.1) h_m1.2)  e) | (have e : x1 = 16 := hq; exact fun A oY oR _ z h => cm_16 (mA_cp h oY oR (ty_284_18 g_m.1) h_m1.2) z e) | exact fun A oY oR _ z h => cm_n (mA_cp h oY oR (ty_284_18 g_m.1) h_m1.2) hq⟩⟩
  · skip
    exact ⟨g_m1, by exact ⟨by first | trivial | omega | (refine ⟨?_, ?_⟩ <;> omega), by first | (have u := dI_141; exact fun A oY oR _ z h => cm_6 (mA_cp h oY oR (ty_284_18 g_m.1) h_m1.2) dI_141.1 z (by omega) (by omega) dI_141.2.2) | (have u := dI_174; exact fun A oY oR _ z h => cm_7 (mA_cp h oY oR (ty_284_18 g_m.1) h_m1.2) dI_174.1 z (by omega) (by omega) dI_174.2.2) | (have u := dI_322; exact fun A oY oR _ z h => cm_14 (mA_cp h oY oR (ty_284_18 g_m.1) h_m1.2) dI_322.1 z (by omega) (by omega) dI_322.2.2) | (have u := dI_357; exact fun A oY oR _ z h => cm_15 (mA_cp h oY oR (ty_284_18 g_m.1) h_m1.2) dI_357.1 (by omega) (by omega) dI_357.2.2) | (have u := dI_285; exact fun A oY oR _ z h => cm_13 (mA_cp h oY oR (ty_284_18 g_m.1) h_m1.2) (by omega) (by omega) dI_285.2) | (have u := hR_257; exact fun A oY oR _ z h => cm_11 (mA_cp h oY oR (ty_284_18 g_m.1) h_m1.2) (by omega) hR_228 hR_242 hR_257) | (have e : x1 = 0 := hq; exact fun A oY oR _ z h => cm_0 (mA_cp h oY oR (ty_284_18 g_m.1) h_m1.2)  e) | (have e : x1 = 1 := hq; exact fun A oY oR _ z h => cm_1 (mA_cp h oY oR (ty_284_18 g_m.1) h_m1.2)  e) | (have e : x1 = 2 := hq; exact fun A oY oR _ z h => cm_2 (mA_cp h oY oR (ty_284_18 g_m.1) h_m1.2)  e) | (have e : x1 = 3 := hq; exact fun A oY oR _ z h => cm_3 (mA_cp h oY oR (ty_284_18 g_m.1) h_m1.2)  e) | (have e : x1 = 4 := hq; exact fun A oY oR _ z h => cm_4 (mA_cp h oY oR (ty_284_18 g_m.1) h_m1.2)  e) | (have e : x1 = 5 := hq; exact fun A oY oR _ z h => cm_5 (mA_cp h oY oR (ty_284_18 g_m.1) h_m1.2)  e) | (have e : x1 = 9 := hq; exact fun A oY oR _ z h => cm_9 (mA_cp h oY oR (ty_284_18 g_m.1) h_m1.2)  e) | (have e : x1 = 8 := hq; exact fun A oY oR _ z h => cm_8 (mA_cp h oY oR (ty_284_18 g_m.1) h_m1.2) h_m1.2 e) | (have e : x1 = 10 := hq; exact fun A oY oR _ z h => cm_10 (mA_cp h oY oR (ty_284_18 g_m.1) h_m1.2) h_m1.2 e) | (have e : x1 = 12 := hq; exact fun A oY oR _ z h => cm_12 (mA_cp h oY oR (ty_284_18 g_m.1) h_m1.2)  e) | (have e : x1 = 16 := hq; exact fun A oY oR _ z h => cm_16 (mA_cp h oY oR (ty_284_18 g_m.1) h_m1.2) z e) | exact fun A oY oR _ z h => cm_n (mA_cp h oY oR (ty_284_18 g_m.1) h_m1.2) hq⟩⟩
  · skip
    refine ⟨fun x2_141 x3_141 m_141 => G m0 m_141 ∧ ((0 ≤ x3_141 ∧ x3_141 ≤ 25) ∧ (m_141 = m1 ∧ x3_141 ≤ rd m_141 293 (Int.toNat (rd m_141 284 18)) * rd m_141 294 (Int.toNat (rd m_141 284 18)) ∧ x2_141 = mkF (rd m1 323) (Int.toNat x3_141))), fun x2_141 x3_141 m_141 => Int.toNat (25 - x3_141), ?_, ?_⟩
    · exact ⟨g_m1, by exact ⟨by first | omega | (refine ⟨?_, ?_⟩ <;> omega) | trivial, by exact ⟨rfl, (by have := wh_b (MW_G p0 g_m1).1 (MW_G p0 g_m1).2; omega), rfl⟩⟩⟩
    · intro x2_141 x3_141 m_141 r_x2_141 r_x3_141 hI_141
      obtain ⟨g_m_141, hI_141⟩ := hI_141
      obtain ⟨hI_141, dI_141⟩ := hI_141
      refine CK.mono (ct_208   g_m_141.1 (MW_G p0 g_m_141)) (by decide) ?_
      rintro m143 v143 r_v143 ⟨e_m143, h_m143⟩
      replace e_m143 := e_m143.symm
      subst e_m143
      refine ⟨fun hq => ?_, fun hq => ?_⟩
      · skip
        exact ⟨g_m_141, by exact ⟨by first | trivial | omega | (refine ⟨?_, ?_⟩ <;> omega), by first | (have u := dI_141; exact fun A oY oR _ z h => cm_6 (mA_cp h oY oR (ty_284_18 g_m.1) h_m1.2) dI_141.1 z (by omega) (by omega) dI_141.2.2) | (have u := dI_174; exact fun A oY oR _ z h => cm_7 (mA_cp h oY oR (ty_284_18 g_m.1) h_m1.2) dI_174.1 z (by omega) (by omega) dI_174.2.2) | (have u := dI_322; exact fun A oY oR _ z h => cm_14 (mA_cp h oY oR (ty_284_18 g_m.1) h_m1.2) dI_322.1 z (by omega) (by omega) dI_322.2.2) | (have u := dI_357; exact fun A oY oR _ z h => cm_15 (mA_cp h oY oR (ty_284_18 g_m.1) h_m1.2) dI_357.1 (by omega) (by omega) dI_357.2.2) | (have u := dI_285; exact fun A oY oR _ z h => cm_13 (mA_cp h oY oR (ty_284_18 g_m.1) h_m1.2) (by omega) (by omega) dI_285.2) | (have u := hR_257; exact fun A oY oR _ z h => cm_11 (mA_cp h oY oR (ty_284_18 g_m.1) h_m1.2) (by omega) hR_228 hR_242 hR_257) | (have e : x1 = 0 := hq; exact fun A oY oR _ z h => cm_0 (mA_cp h oY oR (ty_284_18 g_m.1) h_m1.2)  e) | (have e : x1 = 1 := hq; exact fun A oY oR _ z h => cm_1 (mA_cp h oY oR (ty_284_18 g_m.1) h_m1.2)  e) | (have e : x1 = 2 := hq; exact fun A oY oR _ z h => cm_2 (mA_cp h oY oR (ty_284_18 g_m.1) h_m1.2)  e) | (have e : x1 = 3 := hq; exact fun A oY oR _ z h => cm_3 (mA_cp h oY oR (ty_284_18 g_m.1) h_m1.2)  e) | (have e : x1 = 4 := hq; exact fun A oY oR _ z h => cm_4 (mA_cp h oY oR (ty_284_18 g_m.1) h_m1.2)  e) | (have e : x1 = 5 := hq; exact fun A oY oR _ z h => cm_5 (mA_cp h oY oR (ty_284_18 g_m.1) h_m1.2)  e) | (have e : x1 = 9 := hq; exact fun A oY oR _ z h => cm_9 (mA_cp h oY oR (ty_284_18 g_m.1) h_m1.2)  e) | (have e : x1 = 8 := hq; exact fun A oY oR _ z h => cm_8 (mA_cp h oY oR (ty_284_18 g_m.1) h_m1.2) h_m1.2 e) | (have e : x1 = 10 := hq; exact fun A oY oR _ z h => cm_10 (mA_cp h oY oR (ty_284_18 g_m.1) h_m1.2) h_m1.2 e) | (have e : x1 = 12 := hq; exact fun A oY oR _ z h => cm_12 (mA_cp h oY oR (ty_284_18 g_m.1) h_m1.2)  e) | (have e : x1 = 16 := hq; exact fun A oY oR _ z h => cm_16 (mA_cp h oY oR (ty_284_18 g_m.1) h_m1.2) z e) | exact fun A oY oR _ z h => cm_n (mA_cp h oY oR (ty_284_18 g_m.1) h_m1.2) hq⟩⟩
      · skip
        refine ⟨⟨by omega, by omega⟩, ?_⟩
        have t10 := tr_323 g_m_141.1 (Int.toNat x3_141)
        refine ⟨fun y2_164 => (rd m_141 323 (Int.toNat x3_141) ≤ 0 ∧ y2_164 = x2_141) ∨ (¬ rd m_141 323 (Int.toNat x3_141) ≤ 0 ∧ y2_164 = orI x2_141 (slI 1 x3_141)), ?_, ?_⟩
        · skip
          refine ⟨fun hq => ?_, fun hq => ?_⟩
          · skip
            (first | exact Or.inl ⟨by assumption, rfl⟩ | exact Or.inr ⟨by assumption, by first | assumption | rfl⟩)
          · skip
            intro z2_163 e_z2_163
            have r_z2_163 : rg z2_163 := by rw [e_z2_163]; exact (io_rg _ _ _)
            (first | exact Or.inl ⟨by assumption, rfl⟩ | exact Or.inr ⟨by assumption, by first | assumption | rfl⟩)
        · intro y2_164 r_y2_164 hR_164
          try have w11 : wr (x3_141 + 1) = x3_141 + 1 := wr_id (by omega) (by omega)
          intro z3_164 e_z3_164
          have r_z3_164 : rg z3_164 := by rw [e_z3_164]; exact wr_rg _
          exact ⟨⟨g_m_141, by exact ⟨by first | omega | (refine ⟨?_, ?_⟩ <;> omega) | trivial, by exact ⟨dI_141.1, by omega, mkF_s dI_141.2.2 (by omega) (by omega) (by rw [← dI_141.1]; exact hR_164)⟩⟩⟩, by (try dsimp only); omega⟩
  · skip
    refine ⟨fun x2_174 x3_174 m_174 => G m0 m_174 ∧ ((0 ≤ x3_174 ∧ x3_174 ≤ 25) ∧ (m_174 = m1 ∧ x3_174 ≤ rd m_174 293 (Int.toNat (rd m_174 284 18)) * rd m_174 294 (Int.toNat (rd m_174 284 18)) ∧ x2_174 = smF (rd m1 323) (Int.toNat x3_174))), fun x2_174 x3_174 m_174 => Int.toNat (25 - x3_174), ?_, ?_⟩
    · exact ⟨g_m1, by exact ⟨by first | omega | (refine ⟨?_, ?_⟩ <;> omega) | trivial, by exact ⟨rfl, (by have := wh_b (MW_G p0 g_m1).1 (MW_G p0 g_m1).2; omega), rfl⟩⟩⟩
    · intro x2_174 x3_174 m_174 r_x2_174 r_x3_174 hI_174
      obtain ⟨g_m_174, hI_174⟩ := hI_174
      obtain ⟨hI_174, dI_174⟩ := hI_174
      refine CK.mono (ct_208   g_m_174.1 (MW_G p0 g_m_174)) (by decide) ?_
      rintro m176 v176 r_v176 ⟨e_m176, h_m176⟩
      replace e_m176 := e_m176.symm
      subst e_m176
      refine ⟨fun hq => ?_, fun hq => ?_⟩
      · skip
        exact ⟨g_m_174, by exact ⟨by first | trivial | omega | (refine ⟨?_, ?_⟩ <;> omega), by first | (have u := dI_141; exact fun A oY oR _ z h => cm_6 (mA_cp h oY oR (ty_284_18 g_m.1) h_m1.2) dI_141.1 z (by omega) (by omega) dI_141.2.2) | (have u := dI_174; exact fun A oY oR _ z h => cm_7 (mA_cp h oY oR (ty_284_18 g_m.1) h_m1.2) dI_174.1 z (by omega) (by omega) dI_174.2.2) | (have u := dI_322; exact fun A oY oR _ z h => cm_14 (mA_cp h oY oR (ty_284_18 g_m.1) h_m1.2) dI_322.1 z (by omega) (by omega) dI_322.2.2) | (have u := dI_357; exact fun A oY oR _ z h => cm_15 (mA_cp h oY oR (ty_284_18 g_m.1) h_m1.2) dI_357.1 (by omega) (by omega) dI_357.2.2) | (have u := dI_285; exact fun A oY oR _ z h => cm_13 (mA_cp h oY oR (ty_284_18 g_m.1) h_m1.2) (by omega) (by omega) dI_285.2) | (have u := hR_257; exact fun A oY oR _ z h => cm_11 (mA_cp h oY oR (ty_284_18 g_m.1) h_m1.2) (by omega) hR_228 hR_242 hR_257) | (have e : x1 = 0 := hq; exact fun A oY oR _ z h => cm_0 (mA_cp h oY oR (ty_284_18 g_m.1) h_m1.2)  e) | (have e : x1 = 1 := hq; exact fun A oY oR _ z h => cm_1 (mA_cp h oY oR (ty_284_18 g_m.1) h_m1.2)  e) | (have e : x1 = 2 := hq; exact fun A oY oR _ z h => cm_2 (mA_cp h oY oR (ty_284_18 g_m.1) h_m1.2)  e) | (have e : x1 = 3 := hq; exact fun A oY oR _ z h => cm_3 (mA_cp h oY oR (ty_284_18 g_m.1) h_m1.2)  e) | (have e : x1 = 4 := hq; exact fun A oY oR _ z h => cm_4 (mA_cp h oY oR (ty_284_18 g_m.1) h_m1.2)  e) | (have e : x1 = 5 := hq; exact fun A oY oR _ z h => cm_5 (mA_cp h oY oR (ty_284_18 g_m.1) h_m1.2)  e) | (have e : x1 = 9 := hq; exact fun A oY oR _ z h => cm_9 (mA_cp h oY oR (ty_284_18 g_m.1) h_m1.2)  e) | (have e : x1 = 8 := hq; exact fun A oY oR _ z h => cm_8 (mA_cp h oY oR (ty_284_18 g_m.1) h_m1.2) h_m1.2 e) | (have e : x1 = 10 := hq; exact fun A oY oR _ z h => cm_10 (mA_cp h oY oR (ty_284_18 g_m.1) h_m1.2) h_m1.2 e) | (have e : x1 = 12 := hq; exact fun A oY oR _ z h => cm_12 (mA_cp h oY oR (ty_284_18 g_m.1) h_m1.2)  e) | (have e : x1 = 16 := hq; exact fun A oY oR _ z h => cm_16 (mA_cp h oY oR (ty_284_18 g_m.1) h_m1.2) z e) | exact fun A oY oR _ z h => cm_n (mA_cp h oY oR (ty_284_18 g_m.1) h_m1.2) hq⟩⟩
      · skip
        refine ⟨⟨by omega, by omega⟩, ?_⟩
        have t12 := tr_323 g_m_174.1 (Int.toNat x3_174)
        try have w13 : wr (x2_174 + (rd m_174 323 (Int.toNat x3_174))) = x2_174 + (rd m_174 323 (Int.toNat x3_174)) := wr_id (by omega) (by omega)
        intro z2_190 e_z2_190
        have r_z2_190 : rg z2_190 := by rw [e_z2_190]; exact (wr_rg _)
        try have w14 : wr (x3_174 + 1) = x3_174 + 1 := wr_id (by omega) (by omega)
        intro z3_191 e_z3_191
        have r_z3_191 : rg z3_191 := by rw [e_z3_191]; exact wr_rg _
        exact ⟨⟨g_m_174, by exact ⟨by first | omega | (refine ⟨?_, ?_⟩ <;> omega) | trivial, by exact ⟨dI_174.1, by omega, smF_s dI_174.2.2 (by omega) (by omega) rfl (by rw [← dI_174.1]; exact e_z2_190)⟩⟩⟩, by (try dsimp only); omega⟩
  · skip
    have t15 := ty_284_2 g_m1.1
    exact ⟨g_m1, by exact ⟨by first | trivial | omega | (refine ⟨?_, ?_⟩ <;> omega), by first | (have u := dI_141; exact fun A oY oR _ z h => cm_6 (mA_cp h oY oR (ty_284_18 g_m.1) h_m1.2) dI_141.1 z (by omega) (by omega) dI_141.2.2) | (have u := dI_174; exact fun A oY oR _ z h => cm_7 (mA_cp h oY oR (ty_284_18 g_m.1) h_m1.2) dI_174.1 z (by omega) (by omega) dI_174.2.2) | (have u := dI_322; exact fun A oY oR _ z h => cm_14 (mA_cp h oY oR (ty_284_18 g_m.1) h_m1.2) dI_322.1 z (by omega) (by omega) dI_322.2.2) | (have u := dI_357; exact fun A oY oR _ z h => cm_15 (mA_cp h oY oR (ty_284_18 g_m.1) h_m1.2) dI_357.1 (by omega) (by omega) dI_357.2.2) | (have u := dI_285; exact fun A oY oR _ z h => cm_13 (mA_cp h oY oR (ty_284_18 g_m.1) h_m1.2) (by omega) (by omega) dI_285.2) | (have u := hR_257; exact fun A oY oR _ z h => cm_11 (mA_cp h oY oR (ty_284_18 g_m.1) h_m1.2) (by omega) hR_228 hR_242 hR_257) | (have e : x1 = 0 := hq; exact fun A oY oR _ z h => cm_0 (mA_cp h oY oR (ty_284_18 g_m.1) h_m1.2)  e) | (have e : x1 = 1 := hq; exact fun A oY oR _ z h => cm_1 (mA_cp h oY oR (ty_284_18 g_m.1) h_m1.2)  e) | (have e : x1 = 2 := hq; exact fun A oY oR _ z h => cm_2 (mA_cp h oY oR (ty_284_18 g_m.1) h_m1.2)  e) | (have e : x1 = 3 := hq; exact fun A oY oR _ z h => cm_3 (mA_cp h oY oR (ty_284_18 g_m.1) h_m1.2)  e) | (have e : x1 = 4 := hq; exact fun A oY oR _ z h => cm_4 (mA_cp h oY oR (ty_284_18 g_m.1) h_m1.2)  e) | (have e : x1 = 5 := hq; exact fun A oY oR _ z h => cm_5 (mA_cp h oY oR (ty_284_18 g_m.1) h_m1.2)  e) | (have e : x1 = 9 := hq; exact fun A oY oR _ z h => cm_9 (mA_cp h oY oR (ty_284_18 g_m.1) h_m1.2)  e) | (have e : x1 = 8 := hq; exact fun A oY oR _ z h => cm_8 (mA_cp h oY oR (ty_284_18 g_m.1) h_m1.2) h_m1.2 e) | (have e : x1 = 10 := hq; exact fun A oY oR _ z h => cm_10 (mA_cp h oY oR (ty_284_18 g_m.1) h_m1.2) h_m1.2 e) | (have e : x1 = 12 := hq; exact fun A oY oR _ z h => cm_12 (mA_cp h oY oR (ty_284_18 g_m.1) h_m1.2)  e) | (have e : x1 = 16 := hq; exact fun A oY oR _ z h => cm_16 (mA_cp h oY oR (ty_284_18 g_m.1) h_m1.2) z e) | exact fun A oY oR _ z h => cm_n (mA_cp h oY oR (ty_284_18 g_m.1) h_m1.2) hq⟩⟩
  · skip
    have t16 := ty_284_60 g_m1.1
    exact ⟨g_m1, by exact ⟨by first | trivial | omega | (refine ⟨?_, ?_⟩ <;> omega), by first | (have u := dI_141; exact fun A oY oR _ z h => cm_6 (mA_cp h oY oR (ty_284_18 g_m.1) h_m1.2) dI_141.1 z (by omega) (by omega) dI_141.2.2) | (have u := dI_174; exact fun A oY oR _ z h => cm_7 (mA_cp h oY oR (ty_284_18 g_m.1) h_m1.2) dI_174.1 z (by omega) (by omega) dI_174.2.2) | (have u := dI_322; exact fun A oY oR _ z h => cm_14 (mA_cp h oY oR (ty_284_18 g_m.1) h_m1.2) dI_322.1 z (by omega) (by omega) dI_322.2.2) | (have u := dI_357; exact fun A oY oR _ z h => cm_15 (mA_cp h oY oR (ty_284_18 g_m.1) h_m1.2) dI_357.1 (by omega) (by omega) dI_357.2.2) | (have u := dI_285; exact fun A oY oR _ z h => cm_13 (mA_cp h oY oR (ty_284_18 g_m.1) h_m1.2) (by omega) (by omega) dI_285.2) | (have u := hR_257; exact fun A oY oR _ z h => cm_11 (mA_cp h oY oR (ty_284_18 g_m.1) h_m1.2) (by omega) hR_228 hR_242 hR_257) | (have e : x1 = 0 := hq; exact fun A oY oR _ z h => cm_0 (mA_cp h oY oR (ty_284_18 g_m.1) h_m1.2)  e) | (have e : x1 = 1 := hq; exact fun A oY oR _ z h => cm_1 (mA_cp h oY oR (ty_284_18 g_m.1) h_m1.2)  e) | (have e : x1 = 2 := hq; exact fun A oY oR _ z h => cm_2 (mA_cp h oY oR (ty_284_18 g_m.1) h_m1.2)  e) | (have e : x1 = 3 := hq; exact fun A oY oR _ z h => cm_3 (mA_cp h oY oR (ty_284_18 g_m.1) h_m1.2)  e) | (have e : x1 = 4 := hq; exact fun A oY oR _ z h => cm_4 (mA_cp h oY oR (ty_284_18 g_m.1) h_m1.2)  e) | (have e : x1 = 5 := hq; exact fun A oY oR _ z h => cm_5 (mA_cp h oY oR (ty_284_18 g_m.1) h_m1.2)  e) | (have e : x1 = 9 := hq; exact fun A oY oR _ z h => cm_9 (mA_cp h oY oR (ty_284_18 g_m.1) h_m1.2)  e) | (have e : x1 = 8 := hq; exact fun A oY oR _ z h => cm_8 (mA_cp h oY oR (ty_284_18 g_m.1) h_m1.2) h_m1.2 e) | (have e : x1 = 10 := hq; exact fun A oY oR _ z h => cm_10 (mA_cp h oY oR (ty_284_18 g_m.1) h_m1.2) h_m1.2 e) | (have e : x1 = 12 := hq; exact fun A oY oR _ z h => cm_12 (mA_cp h oY oR (ty_284_18 g_m.1) h_m1.2)  e) | (have e : x1 = 16 := hq; exact fun A oY oR _ z h => cm_16 (mA_cp h oY oR (ty_284_18 g_m.1) h_m1.2) z e) | exact fun A oY oR _ z h => cm_n (mA_cp h oY oR (ty_284_18 g_m.1) h_m1.2) hq⟩⟩
  · skip
    have t17 := ty_284_72 g_m1.1
    exact ⟨g_m1, by exact ⟨by first | trivial | omega | (refine ⟨?_, ?_⟩ <;> omega), by first | (have u := dI_141; exact fun A oY oR _ z h => cm_6 (mA_cp h oY oR (ty_284_18 g_m.1) h_m1.2) dI_141.1 z (by omega) (by omega) dI_141.2.2) | (have u := dI_174; exact fun A oY oR _ z h => cm_7 (mA_cp h oY oR (ty_284_18 g_m.1) h_m1.2) dI_174.1 z (by omega) (by omega) dI_174.2.2) | (have u := dI_322; exact fun A oY oR _ z h => cm_14 (mA_cp h oY oR (ty_284_18 g_m.1) h_m1.2) dI_322.1 z (by omega) (by omega) dI_322.2.2) | (have u := dI_357; exact fun A oY oR _ z h => cm_15 (mA_cp h oY oR (ty_284_18 g_m.1) h_m1.2) dI_357.1 (by omega) (by omega) dI_357.2.2) | (have u := dI_285; exact fun A oY oR _ z h => cm_13 (mA_cp h oY oR (ty_284_18 g_m.1) h_m1.2) (by omega) (by omega) dI_285.2) | (have u := hR_257; exact fun A oY oR _ z h => cm_11 (mA_cp h oY oR (ty_284_18 g_m.1) h_m1.2) (by omega) hR_228 hR_242 hR_257) | (have e : x1 = 0 := hq; exact fun A oY oR _ z h => cm_0 (mA_cp h oY oR (ty_284_18 g_m.1) h_m1.2)  e) | (have e : x1 = 1 := hq; exact fun A oY oR _ z h => cm_1 (mA_cp h oY oR (ty_284_18 g_m.1) h_m1.2)  e) | (have e : x1 = 2 := hq; exact fun A oY oR _ z h => cm_2 (mA_cp h oY oR (ty_284_18 g_m.1) h_m1.2)  e) | (have e : x1 = 3 := hq; exact fun A oY oR _ z h => cm_3 (mA_cp h oY oR (ty_284_18 g_m.1) h_m1.2)  e) | (have e : x1 = 4 := hq; exact fun A oY oR _ z h => cm_4 (mA_cp h oY oR (ty_284_18 g_m.1) h_m1.2)  e) | (have e : x1 = 5 := hq; exact fun A oY oR _ z h => cm_5 (mA_cp h oY oR (ty_284_18 g_m.1) h_m1.2)  e) | (have e : x1 = 9 := hq; exact fun A oY oR _ z h => cm_9 (mA_cp h oY oR (ty_284_18 g_m.1) h_m1.2)  e) | (have e : x1 = 8 := hq; exact fun A oY oR _ z h => cm_8 (mA_cp h oY oR (ty_284_18 g_m.1) h_m1.2) h_m1.2 e) | (have e : x1 = 10 := hq; exact fun A oY oR _ z h => cm_10 (mA_cp h oY oR (ty_284_18 g_m.1) h_m1.2) h_m1.2 e) | (have e : x1 = 12 := hq; exact fun A oY oR _ z h => cm_12 (mA_cp h oY oR (ty_284_18 g_m.1) h_m1.2)  e) | (have e : x1 = 16 := hq; exact fun A oY oR _ z h => cm_16 (mA_cp h oY oR (ty_284_18 g_m.1) h_m1.2) z e) | exact fun A oY oR _ z h => cm_n (mA_cp h oY oR (ty_284_18 g_m.1) h_m1.2) hq⟩⟩
  · skip
    refine ⟨fun s0_228 => (rd m1 339 0 = 0 ∧ s0_228 = 0) ∨ (¬ rd m1 339 0 = 0 ∧ s0_228 = 1), ?_, ?_⟩
    · skip
      refine ⟨fun hq => ?_, fun hq => ?_⟩
      · skip
        (first | exact Or.inl ⟨by assumption, rfl⟩ | exact Or.inr ⟨by assumption, by first | assumption | rfl⟩)
      · skip
        (first | exact Or.inl ⟨by assumption, rfl⟩ | exact Or.inr ⟨by assumption, by first | assumption | rfl⟩)
    · intro s0_228 r_s0_228 hR_228
      refine ⟨fun s1_242 => (rd m1 339 1 = 0 ∧ s1_242 = 0) ∨ (¬ rd m1 339 1 = 0 ∧ s1_242 = 1), ?_, ?_⟩
      · skip
        refine ⟨fun hq => ?_, fun hq => ?_⟩
        · skip
          (first | exact Or.inl ⟨by assumption, rfl⟩ | exact Or.inr ⟨by assumption, by first | assumption | rfl⟩)
        · skip
          (first | exact Or.inl ⟨by assumption, rfl⟩ | exact Or.inr ⟨by assumption, by first | assumption | rfl⟩)
      · intro s1_242 r_s1_242 hR_242
        refine ⟨fun s1_257 => (rd m1 339 2 = 0 ∧ s1_257 = 0) ∨ (¬ rd m1 339 2 = 0 ∧ s1_257 = 1), ?_, ?_⟩
        · skip
          refine ⟨fun hq => ?_, fun hq => ?_⟩
          · skip
            (first | exact Or.inl ⟨by assumption, rfl⟩ | exact Or.inr ⟨by assumption, by first | assumption | rfl⟩)
          · skip
            (first | exact Or.inl ⟨by assumption, rfl⟩ | exact Or.inr ⟨by assumption, by first | assumption | rfl⟩)
        · intro s1_257 r_s1_257 hR_257
          try have w21 : wr (s0_228 + s1_242) = s0_228 + s1_242 := wr_id (by omega) (by omega)
          try have w22 : wr ((wr (s0_228 + s1_242)) + s1_257) = (wr (s0_228 + s1_242)) + s1_257 := wr_id (by omega) (by omega)
          exact ⟨g_m1, by exact ⟨by first | trivial | omega | (refine ⟨?_, ?_⟩ <;> omega), by first | (have u := dI_141; exact fun A oY oR _ z h => cm_6 (mA_cp h oY oR (ty_284_18 g_m.1) h_m1.2) dI_141.1 z (by omega) (by omega) dI_141.2.2) | (have u := dI_174; exact fun A oY oR _ z h => cm_7 (mA_cp h oY oR (ty_284_18 g_m.1) h_m1.2) dI_174.1 z (by omega) (by omega) dI_174.2.2) | (have u := dI_322; exact fun A oY oR _ z h => cm_14 (mA_cp h oY oR (ty_284_18 g_m.1) h_m1.2) dI_322.1 z (by omega) (by omega) dI_322.2.2) | (have u := dI_357; exact fun A oY oR _ z h => cm_15 (mA_cp h oY oR (ty_284_18 g_m.1) h_m1.2) dI_357.1 (by omega) (by omega) dI_357.2.2) | (have u := dI_285; exact fun A oY oR _ z h => cm_13 (mA_cp h oY oR (ty_284_18 g_m.1) h_m1.2) (by omega) (by omega) dI_285.2) | (have u := hR_257; exact fun A oY oR _ z h => cm_11 (mA_cp h oY oR (ty_284_18 g_m.1) h_m1.2) (by omega) hR_228 hR_242 hR_257) | (have e : x1 = 0 := hq; exact fun A oY oR _ z h => cm_0 (mA_cp h oY oR (ty_284_18 g_m.1) h_m1.2)  e) | (have e : x1 = 1 := hq; exact fun A oY oR _ z h => cm_1 (mA_cp h oY oR (ty_284_18 g_m.1) h_m1.2)  e) | (have e : x1 = 2 := hq; exact fun A oY oR _ z h => cm_2 (mA_cp h oY oR (ty_284_18 g_m.1) h_m1.2)  e) | (have e : x1 = 3 := hq; exact fun A oY oR _ z h => cm_3 (mA_cp h oY oR (ty_284_18 g_m.1) h_m1.2)  e) | (have e : x1 = 4 := hq; exact fun A oY oR _ z h => cm_4 (mA_cp h oY oR (ty_284_18 g_m.1) h_m1.2)  e) | (have e : x1 = 5 := hq; exact fun A oY oR _ z h => cm_5 (mA_cp h oY oR (ty_284_18 g_m.1) h_m1.2)  e) | (have e : x1 = 9 := hq; exact fun A oY oR _ z h => cm_9 (mA_cp h oY oR (ty_284_18 g_m.1) h_m1.2)  e) | (have e : x1 = 8 := hq; exact fun A oY oR _ z h => cm_8 (mA_cp h oY oR (ty_284_18 g_m.1) h_m1.2) h_m1.2 e) | (have e : x1 = 10 := hq; exact fun A oY oR _ z h => cm_10 (mA_cp h oY oR (ty_284_18 g_m.1) h_m1.2) h_m1.2 e) | (have e : x1 = 12 := hq; exact fun A oY oR _ z h => cm_12 (mA_cp h oY oR (ty_284_18 g_m.1) h_m1.2)  e) | (have e : x1 = 16 := hq; exact fun A oY oR _ z h => cm_16 (mA_cp h oY oR (ty_284_18 g_m.1) h_m1.2) z e) | exact fun A oY oR _ z h => cm_n (mA_cp h oY oR (ty_284_18 g_m.1) h_m1.2) hq⟩⟩
  · skip
    have t23 := tr_323 g_m1.1 46
    have t24 := tr_323 g_m1.1 47
    try have w25 : wr ((rd m1 323 46) + (rd m1 323 47)) = (rd m1 323 46) + (rd m1 323 47) := wr_id (by omega) (by omega)
    have t26 := tr_323 g_m1.1 48
    try have w27 : wr ((wr ((rd m1 323 46) + (rd m1 323 47))) + (rd m1 323 48)) = (wr ((rd m1 323 46) + (rd m1 323 47))) + (rd m1 323 48) := wr_id (by omega) (by omega)
    exact ⟨g_m1, by exact ⟨by first | trivial | omega | (refine ⟨?_, ?_⟩ <;> omega), by first | (have u := dI_141; exact fun A oY oR _ z h => cm_6 (mA_cp h oY oR (ty_284_18 g_m.1) h_m1.2) dI_141.1 z (by omega) (by omega) dI_141.2.2) | (have u := dI_174; exact fun A oY oR _ z h => cm_7 (mA_cp h oY oR (ty_284_18 g_m.1) h_m1.2) dI_174.1 z (by omega) (by omega) dI_174.2.2) | (have u := dI_322; exact fun A oY oR _ z h => cm_14 (mA_cp h oY oR (ty_284_18 g_m.1) h_m1.2) dI_322.1 z (by omega) (by omega) dI_322.2.2) | (have u := dI_357; exact fun A oY oR _ z h => cm_15 (mA_cp h oY oR (ty_284_18 g_m.1) h_m1.2) dI_357.1 (by omega) (by omega) dI_357.2.2) | (have u := dI_285; exact fun A oY oR _ z h => cm_13 (mA_cp h oY oR (ty_284_18 g_m.1) h_m1.2) (by omega) (by omega) dI_285.2) | (have u := hR_257; exact fun A oY oR _ z h => cm_11 (mA_cp h oY oR (ty_284_18 g_m.1) h_m1.2) (by omega) hR_228 hR_242 hR_257) | (have e : x1 = 0 := hq; exact fun A oY oR _ z h => cm_0 (mA_cp h oY oR (ty_284_18 g_m.1) h_m1.2)  e) | (have e : x1 = 1 := hq; exact fun A oY oR _ z h => cm_1 (mA_cp h oY oR (ty_284_18 g_m.1) h_m1.2)  e) | (have e : x1 = 2 := hq; exact fun A oY oR _ z h => cm_2 (mA_cp h oY oR (ty_284_18 g_m.1) h_m1.2)  e) | (have e : x1 = 3 := hq; exact fun A oY oR _ z h => cm_3 (mA_cp h oY oR (ty_284_18 g_m.1) h_m1.2)  e) | (have e : x1 = 4 := hq; exact fun A oY oR _ z h => cm_4 (mA_cp h oY oR (ty_284_18 g_m.1) h_m1.2)  e) | (have e : x1 = 5 := hq; exact fun A oY oR _ z h => cm_5 (mA_cp h oY oR (ty_284_18 g_m.1) h_m1.2)  e) | (have e : x1 = 9 := hq; exact fun A oY oR _ z h => cm_9 (mA_cp h oY oR (ty_284_18 g_m.1) h_m1.2)  e) | (have e : x1 = 8 := hq; exact fun A oY oR _ z h => cm_8 (mA_cp h oY oR (ty_284_18 g_m.1) h_m1.2) h_m1.2 e) | (have e : x1 = 10 := hq; exact fun A oY oR _ z h => cm_10 (mA_cp h oY oR (ty_284_18 g_m.1) h_m1.2) h_m1.2 e) | (have e : x1 = 12 := hq; exact fun A oY oR _ z h => cm_12 (mA_cp h oY oR (ty_284_18 g_m.1) h_m1.2)  e) | (have e : x1 = 16 := hq; exact fun A oY oR _ z h => cm_16 (mA_cp h oY oR (ty_284_18 g_m.1) h_m1.2) z e) | exact fun A oY oR _ z h => cm_n (mA_cp h oY oR (ty_284_18 g_m.1) h_m1.2) hq⟩⟩
  · skip
    refine ⟨fun x2_285 x3_285 => (0 ≤ x3_285 ∧ x3_285 ≤ 3) ∧ (x3_285 ≤ rd m1 302 (Int.toNat (rd m1 284 18)) ∧ x2_285 = fcF (fun c : Nat => rd m1 323 (43 + c)) (Int.toNat x3_285)), fun x2_285 x3_285 => Int.toNat (3 - x3_285), ?_, ?_⟩
    · (exact ⟨by first | omega | (refine ⟨?_, ?_⟩ <;> omega) | trivial, by exact ⟨(ty_302 g_m1.1 _).1, rfl⟩⟩)
    · intro x2_285 x3_285 r_x2_285 r_x3_285 hI_285
      obtain ⟨hI_285, dI_285⟩ := hI_285
      have t28 := ty_284_18 g_m1.1
      refine ⟨⟨by omega, by omega⟩, ?_⟩
      have t29 := ty_302 g_m1.1 (Int.toNat (rd m1 284 18))
      refine ⟨fun hq => ?_, fun hq => ?_⟩
      · skip
        exact ⟨g_m1, by exact ⟨by first | trivial | omega | (refine ⟨?_, ?_⟩ <;> omega), by first | (have u := dI_141; exact fun A oY oR _ z h => cm_6 (mA_cp h oY oR (ty_284_18 g_m.1) h_m1.2) dI_141.1 z (by omega) (by omega) dI_141.2.2) | (have u := dI_174; exact fun A oY oR _ z h => cm_7 (mA_cp h oY oR (ty_284_18 g_m.1) h_m1.2) dI_174.1 z (by omega) (by omega) dI_174.2.2) | (have u := dI_322; exact fun A oY oR _ z h => cm_14 (mA_cp h oY oR (ty_284_18 g_m.1) h_m1.2) dI_322.1 z (by omega) (by omega) dI_322.2.2) | (have u := dI_357; exact fun A oY oR _ z h => cm_15 (mA_cp h oY oR (ty_284_18 g_m.1) h_m1.2) dI_357.1 (by omega) (by omega) dI_357.2.2) | (have u := dI_285; exact fun A oY oR _ z h => cm_13 (mA_cp h oY oR (ty_284_18 g_m.1) h_m1.2) (by omega) (by omega) dI_285.2) | (have u := hR_257; exact fun A oY oR _ z h => cm_11 (mA_cp h oY oR (ty_284_18 g_m.1) h_m1.2) (by omega) hR_228 hR_242 hR_257) | (have e : x1 = 0 := hq; exact fun A oY oR _ z h => cm_0 (mA_cp h oY oR (ty_284_18 g_m.1) h_m1.2)  e) | (have e : x1 = 1 := hq; exact fun A oY oR _ z h => cm_1 (mA_cp h oY oR (ty_284_18 g_m.1) h_m1.2)  e) | (have e : x1 = 2 := hq; exact fun A oY oR _ z h => cm_2 (mA_cp h oY oR (ty_284_18 g_m.1) h_m1.2)  e) | (have e : x1 = 3 := hq; exact fun A oY oR _ z h => cm_3 (mA_cp h oY oR (ty_284_18 g_m.1) h_m1.2)  e) | (have e : x1 = 4 := hq; exact fun A oY oR _ z h => cm_4 (mA_cp h oY oR (ty_284_18 g_m.1) h_m1.2)  e) | (have e : x1 = 5 := hq; exact fun A oY oR _ z h => cm_5 (mA_cp h oY oR (ty_284_18 g_m.1) h_m1.2)  e) | (have e : x1 = 9 := hq; exact fun A oY oR _ z h => cm_9 (mA_cp h oY oR (ty_284_18 g_m.1) h_m1.2)  e) | (have e : x1 = 8 := hq; exact fun A oY oR _ z h => cm_8 (mA_cp h oY oR (ty_284_18 g_m.1) h_m1.2) h_m1.2 e) | (have e : x1 = 10 := hq; exact fun A oY oR _ z h => cm_10 (mA_cp h oY oR (ty_284_18 g_m.1) h_m1.2) h_m1.2 e) | (have e : x1 = 12 := hq; exact fun A oY oR _ z h => cm_12 (mA_cp h oY oR (ty_284_18 g_m.1) h_m1.2)  e) | (have e : x1 = 16 := hq; exact fun A oY oR _ z h => cm_16 (mA_cp h oY oR (ty_284_18 g_m.1) h_m1.2) z e) | exact fun A oY oR _ z h => cm_n (mA_cp h oY oR (ty_284_18 g_m.1) h_m1.2) hq⟩⟩
      · skip
        try have w30 : wr (43 + x3_285) = 43 + x3_285 := wr_id (by omega) (by omega)
        refine ⟨⟨by omega, by omega⟩, ?_⟩
        have t31 := tr_323 g_m1.1 (Int.toNat (wr (43 + x3_285)))
        intro z2_311 e_z2_311
        have r_z2_311 : rg z2_311 := by rw [e_z2_311]; exact (io_rg _ _ _)
        try have w32 : wr (x3_285 + 1) = x3_285 + 1 := wr_id (by omega) (by omega)
        intro z3_312 e_z3_312
        have r_z3_312 : rg z3_312 := by rw [e_z3_312]; exact wr_rg _
        exact ⟨by exact ⟨by first | omega | (refine ⟨?_, ?_⟩ <;> omega) | trivial, by exact ⟨by omega, fcF_s (F := fun c : Nat => rd m1 323 (43 + c)) dI_285.2 (by omega) (by omega) (e_z2_311.trans (congrArg (fun w => orI x2_285 (slI 1 (rd m1 323 w))) (by omega)))⟩⟩, by (try dsimp only); omega⟩
  · skip
    refine ⟨fun x2_322 x3_322 m_322 => G m0 m_322 ∧ ((0 ≤ x3_322 ∧ x3_322 ≤ 25) ∧ (m_322 = m1 ∧ x3_322 ≤ rd m_322 293 (Int.toNat (rd m_322 284 18)) * rd m_322 294 (Int.toNat (rd m_322 284 18)) ∧ x2_322 = gmF (rd m1 323) (Int.toNat x3_322))), fun x2_322 x3_322 m_322 => Int.toNat (25 - x3_322), ?_, ?_⟩
    · exact ⟨g_m1, by exact ⟨by first | omega | (refine ⟨?_, ?_⟩ <;> omega) | trivial, by exact ⟨rfl, (by have := wh_b (MW_G p0 g_m1).1 (MW_G p0 g_m1).2; omega), rfl⟩⟩⟩
    · intro x2_322 x3_322 m_322 r_x2_322 r_x3_322 hI_322
      obtain ⟨g_m_322, hI_322⟩ := hI_322
      obtain ⟨hI_322, dI_322⟩ := hI_322
      refine CK.mono (ct_208   g_m_322.1 (MW_G p0 g_m_322)) (by decide) ?_
      rintro m324 v324 r_v324 ⟨e_m324, h_m324⟩
      replace e_m324 := e_m324.symm
      subst e_m324
      refine ⟨fun hq => ?_, fun hq => ?_⟩
      · skip
        exact ⟨g_m_322, by exact ⟨by first | trivial | omega | (refine ⟨?_, ?_⟩ <;> omega), by first | (have u := dI_141; exact fun A oY oR _ z h => cm_6 (mA_cp h oY oR (ty_284_18 g_m.1) h_m1.2) dI_141.1 z (by omega) (by omega) dI_141.2.2) | (have u := dI_174; exact fun A oY oR _ z h => cm_7 (mA_cp h oY oR (ty_284_18 g_m.1) h_m1.2) dI_174.1 z (by omega) (by omega) dI_174.2.2) | (have u := dI_322; exact fun A oY oR _ z h => cm_14 (mA_cp h oY oR (ty_284_18 g_m.1) h_m1.2) dI_322.1 z (by omega) (by omega) dI_322.2.2) | (have u := dI_357; exact fun A oY oR _ z h => cm_15 (mA_cp h oY oR (ty_284_18 g_m.1) h_m1.2) dI_357.1 (by omega) (by omega) dI_357.2.2) | (have u := dI_285; exact fun A oY oR _ z h => cm_13 (mA_cp h oY oR (ty_284_18 g_m.1) h_m1.2) (by omega) (by omega) dI_285.2) | (have u := hR_257; exact fun A oY oR _ z h => cm_11 (mA_cp h oY oR (ty_284_18 g_m.1) h_m1.2) (by omega) hR_228 hR_242 hR_257) | (have e : x1 = 0 := hq; exact fun A oY oR _ z h => cm_0 (mA_cp h oY oR (ty_284_18 g_m.1) h_m1.2)  e) | (have e : x1 = 1 := hq; exact fun A oY oR _ z h => cm_1 (mA_cp h oY oR (ty_284_18 g_m.1) h_m1.2)  e) | (have e : x1 = 2 := hq; exact fun A oY oR _ z h => cm_2 (mA_cp h oY oR (ty_284_18 g_m.1) h_m1.2)  e) | (have e : x1 = 3 := hq; exact fun A oY oR _ z h => cm_3 (mA_cp h oY oR (ty_284_18 g_m.1) h_m1.2)  e) | (have e : x1 = 4 := hq; exact fun A oY oR _ z h => cm_4 (mA_cp h oY oR (ty_284_18 g_m.1) h_m1.2)  e) | (have e : x1 = 5 := hq; exact fun A oY oR _ z h => cm_5 (mA_cp h oY oR (ty_284_18 g_m.1) h_m1.2)  e) | (have e : x1 = 9 := hq; exact fun A oY oR _ z h => cm_9 (mA_cp h oY oR (ty_284_18 g_m.1) h_m1.2)  e) | (have e : x1 = 8 := hq; exact fun A oY oR _ z h => cm_8 (mA_cp h oY oR (ty_284_18 g_m.1) h_m1.2) h_m1.2 e) | (have e : x1 = 10 := hq; exact fun A oY oR _ z h => cm_10 (mA_cp h oY oR (ty_284_18 g_m.1) h_m1.2) h_m1.2 e) | (have e : x1 = 12 := hq; exact fun A oY oR _ z h => cm_12 (mA_cp h oY oR (ty_284_18 g_m.1) h_m1.2)  e) | (have e : x1 = 16 := hq; exact fun A oY oR _ z h => cm_16 (mA_cp h oY oR (ty_284_18 g_m.1) h_m1.2) z e) | exact fun A oY oR _ z h => cm_n (mA_cp h oY oR (ty_284_18 g_m.1) h_m1.2) hq⟩⟩
      · skip
        refine ⟨⟨by omega, by omega⟩, ?_⟩
        have t33 := tr_323 g_m_322.1 (Int.toNat x3_322)
        refine ⟨fun y2_347 => y2_347 = max x2_322 (rd m_322 323 (Int.toNat x3_322)), ?_, ?_⟩
        · skip
          refine ⟨fun hq => ?_, fun hq => ?_⟩
          · skip
            (omega)
          · skip
            refine ⟨⟨by omega, by omega⟩, ?_⟩
            intro z2_346 e_z2_346
            have r_z2_346 : rg z2_346 := by rw [e_z2_346]; exact (rd_rg _ _ _)
            (omega)
        · intro y2_347 r_y2_347 hR_347
          try have w34 : wr (x3_322 + 1) = x3_322 + 1 := wr_id (by omega) (by omega)
          intro z3_347 e_z3_347
          have r_z3_347 : rg z3_347 := by rw [e_z3_347]; exact wr_rg _
          exact ⟨⟨g_m_322, by exact ⟨by first | omega | (refine ⟨?_, ?_⟩ <;> omega) | trivial, by exact ⟨dI_322.1, by omega, gmF_s dI_322.2.2 (by omega) (by omega) rfl (by rw [← dI_322.1]; exact hR_347)⟩⟩⟩, by (try dsimp only); omega⟩
  · skip
    refine ⟨fun x2_357 x3_357 m_357 => G m0 m_357 ∧ ((0 ≤ x3_357 ∧ x3_357 ≤ 3) ∧ (m_357 = m1 ∧ x3_357 ≤ rd m_357 302 (Int.toNat (rd m_357 284 18)) ∧ ∀ Y E r, YM m1 Y E r → x2_357 = stF Y r (Int.toNat x3_357))), fun x2_357 x3_357 m_357 => Int.toNat (3 - x3_357), ?_, ?_⟩
    · exact ⟨g_m1, by exact ⟨by first | omega | (refine ⟨?_, ?_⟩ <;> omega) | trivial, by exact ⟨rfl, (ty_302 g_m1.1 _).1, fun _ _ _ _ => rfl⟩⟩⟩
    · intro x2_357 x3_357 m_357 r_x2_357 r_x3_357 hI_357
      obtain ⟨g_m_357, hI_357⟩ := hI_357
      obtain ⟨hI_357, dI_357⟩ := hI_357
      have t35 := ty_284_18 g_m_357.1
      refine ⟨⟨by omega, by omega⟩, ?_⟩
      have t36 := ty_302 g_m_357.1 (Int.toNat (rd m_357 284 18))
      refine ⟨fun hq => ?_, fun hq => ?_⟩
      · skip
        exact ⟨g_m_357, by exact ⟨by first | trivial | omega | (refine ⟨?_, ?_⟩ <;> omega), by first | (have u := dI_141; exact fun A oY oR _ z h => cm_6 (mA_cp h oY oR (ty_284_18 g_m.1) h_m1.2) dI_141.1 z (by omega) (by omega) dI_141.2.2) | (have u := dI_174; exact fun A oY oR _ z h => cm_7 (mA_cp h oY oR (ty_284_18 g_m.1) h_m1.2) dI_174.1 z (by omega) (by omega) dI_174.2.2) | (have u := dI_322; exact fun A oY oR _ z h => cm_14 (mA_cp h oY oR (ty_284_18 g_m.1) h_m1.2) dI_322.1 z (by omega) (by omega) dI_322.2.2) | (have u := dI_357; exact fun A oY oR _ z h => cm_15 (mA_cp h oY oR (ty_284_18 g_m.1) h_m1.2) dI_357.1 (by omega) (by omega) dI_357.2.2) | (have u := dI_285; exact fun A oY oR _ z h => cm_13 (mA_cp h oY oR (ty_284_18 g_m.1) h_m1.2) (by omega) (by omega) dI_285.2) | (have u := hR_257; exact fun A oY oR _ z h => cm_11 (mA_cp h oY oR (ty_284_18 g_m.1) h_m1.2) (by omega) hR_228 hR_242 hR_257) | (have e : x1 = 0 := hq; exact fun A oY oR _ z h => cm_0 (mA_cp h oY oR (ty_284_18 g_m.1) h_m1.2)  e) | (have e : x1 = 1 := hq; exact fun A oY oR _ z h => cm_1 (mA_cp h oY oR (ty_284_18 g_m.1) h_m1.2)  e) | (have e : x1 = 2 := hq; exact fun A oY oR _ z h => cm_2 (mA_cp h oY oR (ty_284_18 g_m.1) h_m1.2)  e) | (have e : x1 = 3 := hq; exact fun A oY oR _ z h => cm_3 (mA_cp h oY oR (ty_284_18 g_m.1) h_m1.2)  e) | (have e : x1 = 4 := hq; exact fun A oY oR _ z h => cm_4 (mA_cp h oY oR (ty_284_18 g_m.1) h_m1.2)  e) | (have e : x1 = 5 := hq; exact fun A oY oR _ z h => cm_5 (mA_cp h oY oR (ty_284_18 g_m.1) h_m1.2)  e) | (have e : x1 = 9 := hq; exact fun A oY oR _ z h => cm_9 (mA_cp h oY oR (ty_284_18 g_m.1) h_m1.2)  e) | (have e : x1 = 8 := hq; exact fun A oY oR _ z h => cm_8 (mA_cp h oY oR (ty_284_18 g_m.1) h_m1.2) h_m1.2 e) | (have e : x1 = 10 := hq; exact fun A oY oR _ z h => cm_10 (mA_cp h oY oR (ty_284_18 g_m.1) h_m1.2) h_m1.2 e) | (have e : x1 = 12 := hq; exact fun A oY oR _ z h => cm_12 (mA_cp h oY oR (ty_284_18 g_m.1) h_m1.2)  e) | (have e : x1 = 16 := hq; exact fun A oY oR _ z h => cm_16 (mA_cp h oY oR (ty_284_18 g_m.1) h_m1.2) z e) | exact fun A oY oR _ z h => cm_n (mA_cp h oY oR (ty_284_18 g_m.1) h_m1.2) hq⟩⟩
      · skip
        refine CK.mono (mz_286   g_m_357.1 r_x3_357 (MW_G p0 g_m_357) (by omega)) (by decide) ?_
        rintro m372 v372 r_v372 ⟨e_m372, h_m372⟩
        replace e_m372 := e_m372.symm
        subst e_m372
        refine ⟨fun y2_384 => (v372 = 0 ∧ y2_384 = x2_357) ∨ (¬ v372 = 0 ∧ y2_384 = orI x2_357 (slI 1 x3_357)), ?_, ?_⟩
        · skip
          refine ⟨fun hq => ?_, fun hq => ?_⟩
          · skip
            (first | exact Or.inl ⟨by assumption, rfl⟩ | exact Or.inr ⟨by assumption, by first | assumption | rfl⟩)
          · skip
            intro z2_383 e_z2_383
            have r_z2_383 : rg z2_383 := by rw [e_z2_383]; exact (io_rg _ _ _)
            (first | exact Or.inl ⟨by assumption, rfl⟩ | exact Or.inr ⟨by assumption, by first | assumption | rfl⟩)
        · intro y2_384 r_y2_384 hR_384
          try have w37 : wr (x3_357 + 1) = x3_357 + 1 := wr_id (by omega) (by omega)
          intro z3_384 e_z3_384
          have r_z3_384 : rg z3_384 := by rw [e_z3_384]; exact wr_rg _
          exact ⟨⟨g_m_357, by exact ⟨by first | omega | (refine ⟨?_, ?_⟩ <;> omega) | trivial, by exact ⟨dI_357.1, by omega, fun Y E r y => fr_s (dI_357.2.2 Y E r y) (h_m372.2 Y E r (by rw [dI_357.1]; exact y) (by rw [← y.1.1.2.2.2.1, ← dI_357.1]; omega)) hR_384 (by omega)⟩⟩⟩, by (try dsimp only); omega⟩
  · skip
    have t38 := tr_323 g_m1.1 25
    have t39 := tr_323 g_m1.1 31
    try have w40 : wr ((rd m1 323 25) + (rd m1 323 31)) = (rd m1 323 25) + (rd m1 323 31) := wr_id (by omega) (by omega)
    have t41 := tr_323 g_m1.1 37
    try have w42 : wr ((wr ((rd m1 323 25) + (rd m1 323 31))) + (rd m1 323 37)) = (wr ((rd m1 323 25) + (rd m1 323 31))) + (rd m1 323 37) := wr_id (by omega) (by omega)
    exact ⟨g_m1, by exact ⟨by first | trivial | omega | (refine ⟨?_, ?_⟩ <;> omega), by first | (have u := dI_141; exact fun A oY oR _ z h => cm_6 (mA_cp h oY oR (ty_284_18 g_m.1) h_m1.2) dI_141.1 z (by omega) (by omega) dI_141.2.2) | (have u := dI_174; exact fun A oY oR _ z h => cm_7 (mA_cp h oY oR (ty_284_18 g_m.1) h_m1.2) dI_174.1 z (by omega) (by omega) dI_174.2.2) | (have u := dI_322; exact fun A oY oR _ z h => cm_14 (mA_cp h oY oR (ty_284_18 g_m.1) h_m1.2) dI_322.1 z (by omega) (by omega) dI_322.2.2) | (have u := dI_357; exact fun A oY oR _ z h => cm_15 (mA_cp h oY oR (ty_284_18 g_m.1) h_m1.2) dI_357.1 (by omega) (by omega) dI_357.2.2) | (have u := dI_285; exact fun A oY oR _ z h => cm_13 (mA_cp h oY oR (ty_284_18 g_m.1) h_m1.2) (by omega) (by omega) dI_285.2) | (have u := hR_257; exact fun A oY oR _ z h => cm_11 (mA_cp h oY oR (ty_284_18 g_m.1) h_m1.2) (by omega) hR_228 hR_242 hR_257) | (have e : x1 = 0 := hq; exact fun A oY oR _ z h => cm_0 (mA_cp h oY oR (ty_284_18 g_m.1) h_m1.2)  e) | (have e : x1 = 1 := hq; exact fun A oY oR _ z h => cm_1 (mA_cp h oY oR (ty_284_18 g_m.1) h_m1.2)  e) | (have e : x1 = 2 := hq; exact fun A oY oR _ z h => cm_2 (mA_cp h oY oR (ty_284_18 g_m.1) h_m1.2)  e) | (have e : x1 = 3 := hq; exact fun A oY oR _ z h => cm_3 (mA_cp h oY oR (ty_284_18 g_m.1) h_m1.2)  e) | (have e : x1 = 4 := hq; exact fun A oY oR _ z h => cm_4 (mA_cp h oY oR (ty_284_18 g_m.1) h_m1.2)  e) | (have e : x1 = 5 := hq; exact fun A oY oR _ z h => cm_5 (mA_cp h oY oR (ty_284_18 g_m.1) h_m1.2)  e) | (have e : x1 = 9 := hq; exact fun A oY oR _ z h => cm_9 (mA_cp h oY oR (ty_284_18 g_m.1) h_m1.2)  e) | (have e : x1 = 8 := hq; exact fun A oY oR _ z h => cm_8 (mA_cp h oY oR (ty_284_18 g_m.1) h_m1.2) h_m1.2 e) | (have e : x1 = 10 := hq; exact fun A oY oR _ z h => cm_10 (mA_cp h oY oR (ty_284_18 g_m.1) h_m1.2) h_m1.2 e) | (have e : x1 = 12 := hq; exact fun A oY oR _ z h => cm_12 (mA_cp h oY oR (ty_284_18 g_m.1) h_m1.2)  e) | (have e : x1 = 16 := hq; exact fun A oY oR _ z h => cm_16 (mA_cp h oY oR (ty_284_18 g_m.1) h_m1.2) z e) | exact fun A oY oR _ z h => cm_n (mA_cp h oY oR (ty_284_18 g_m.1) h_m1.2) hq⟩⟩
  · skip
    exact ⟨g_m1, by exact ⟨by first | trivial | omega | (refine ⟨?_, ?_⟩ <;> omega), by first | (have u := dI_141; exact fun A oY oR _ z h => cm_6 (mA_cp h oY oR (ty_284_18 g_m.1) h_m1.2) dI_141.1 z (by omega) (by omega) dI_141.2.2) | (have u := dI_174; exact fun A oY oR _ z h => cm_7 (mA_cp h oY oR (ty_284_18 g_m.1) h_m1.2) dI_174.1 z (by omega) (by omega) dI_174.2.2) | (have u := dI_322; exact fun A oY oR _ z h => cm_14 (mA_cp h oY oR (ty_284_18 g_m.1) h_m1.2) dI_322.1 z (by omega) (by omega) dI_322.2.2) | (have u := dI_357; exact fun A oY oR _ z h => cm_15 (mA_cp h oY oR (ty_284_18 g_m.1) h_m1.2) dI_357.1 (by omega) (by omega) dI_357.2.2) | (have u := dI_285; exact fun A oY oR _ z h => cm_13 (mA_cp h oY oR (ty_284_18 g_m.1) h_m1.2) (by omega) (by omega) dI_285.2) | (have u := hR_257; exact fun A oY oR _ z h => cm_11 (mA_cp h oY oR (ty_284_18 g_m.1) h_m1.2) (by omega) hR_228 hR_242 hR_257) | (have e : x1 = 0 := hq; exact fun A oY oR _ z h => cm_0 (mA_cp h oY oR (ty_284_18 g_m.1) h_m1.2)  e) | (have e : x1 = 1 := hq; exact fun A oY oR _ z h => cm_1 (mA_cp h oY oR (ty_284_18 g_m.1) h_m1.2)  e) | (have e : x1 = 2 := hq; exact fun A oY oR _ z h => cm_2 (mA_cp h oY oR (ty_284_18 g_m.1) h_m1.2)  e) | (have e : x1 = 3 := hq; exact fun A oY oR _ z h => cm_3 (mA_cp h oY oR (ty_284_18 g_m.1) h_m1.2)  e) | (have e : x1 = 4 := hq; exact fun A oY oR _ z h => cm_4 (mA_cp h oY oR (ty_284_18 g_m.1) h_m1.2)  e) | (have e : x1 = 5 := hq; exact fun A oY oR _ z h => cm_5 (mA_cp h oY oR (ty_284_18 g_m.1) h_m1.2)  e) | (have e : x1 = 9 := hq; exact fun A oY oR _ z h => cm_9 (mA_cp h oY oR (ty_284_18 g_m.1) h_m1.2)  e) | (have e : x1 = 8 := hq; exact fun A oY oR _ z h => cm_8 (mA_cp h oY oR (ty_284_18 g_m.1) h_m1.2) h_m1.2 e) | (have e : x1 = 10 := hq; exact fun A oY oR _ z h => cm_10 (mA_cp h oY oR (ty_284_18 g_m.1) h_m1.2) h_m1.2 e) | (have e : x1 = 12 := hq; exact fun A oY oR _ z h => cm_12 (mA_cp h oY oR (ty_284_18 g_m.1) h_m1.2)  e) | (have e : x1 = 16 := hq; exact fun A oY oR _ z h => cm_16 (mA_cp h oY oR (ty_284_18 g_m.1) h_m1.2) z e) | exact fun A oY oR _ z h => cm_n (mA_cp h oY oR (ty_284_18 g_m.1) h_m1.2) hq⟩⟩
