/-- the row that a plan begins with -/
def r0 (w : Int) (np : Nat) (PF PG PH : Nat → Int) (CX CY FA : Nat → Int) (n : Nat) : Ro := fun j => if j < 25 then mkB w PF PG PH np j else if j < 43 then (if j < 25 + 6 * n then FA (j - 25) else 0) else if j < 46 then (if j < 43 + n then w * CY (j - 43) + CX (j - 43) else 0) else 0
def shL (m : Mm) : Nat → Int := shB (rd m 293 (Int.toNat (rd m 284 18))) (fun k => rd m 296 (8 * Int.toNat (rd m 284 18) + k)) (fun k => rd m 297 (8 * Int.toNat (rd m 284 18) + k))
def mkL (m : Mm) : Nat → Nat → Int := mkB (rd m 293 (Int.toNat (rd m 284 18))) (fun k => rd m 299 (10 * Int.toNat (rd m 284 18) + k)) (fun k => rd m 300 (10 * Int.toNat (rd m 284 18) + k)) (fun k => rd m 301 (10 * Int.toNat (rd m 284 18) + k))
def r0L (m : Mm) (n : Nat) : Ro := r0 (rd m 293 (Int.toNat (rd m 284 18))) (Int.toNat (rd m 298 (Int.toNat (rd m 284 18)))) (fun k => rd m 299 (10 * Int.toNat (rd m 284 18) + k)) (fun k => rd m 300 (10 * Int.toNat (rd m 284 18) + k)) (fun k => rd m 301 (10 * Int.toNat (rd m 284 18) + k)) (fun k => rd m 303 (3 * Int.toNat (rd m 284 18) + k)) (fun k => rd m 304 (3 * Int.toNat (rd m 284 18) + k)) (fun k => rd m 305 (18 * Int.toNat (rd m 284 18) + k)) n
def r1L (m : Mm) (n x : Nat) : Ro := fun j => if 25 + 6 * n ≤ j ∧ j < 25 + 6 * n + x then rd m 305 (18 * Int.toNat (rd m 284 18) + (j - 25)) else r0L m n j
def bgM (m m2 : Mm) : Prop := rd m2 284 59 = shL m (Int.toNat (rd m 295 (Int.toNat (rd m 284 18)))) ∧ (∀ j : Nat, j < 51 → rd m2 323 j = r0L m (Int.toNat (rd m 302 (Int.toNat (rd m 284 18)))) j) ∧ rd m2 284 58 = rd m 306 (Int.toNat (rd m 284 18))
theorem r1_0 (m : Mm) (n j : Nat) : r1L m n 0 j = r0L m n j := if_neg (by omega)
theorem bg_b12 {m12 m24 : Mm} {x z : Int} (h : ∀ j : Nat, (j : Int) < x → rd m12 323 j = 0) (hx : 0 ≤ x) (e : m24 = wt m12 323 (Int.toNat x) 0) (ez : z = x + 1) : ∀ j : Nat, (j : Int) < z → rd m24 323 j = 0 := fun j hj => by
  rw [e, rd_wt]
  by_cases q : j = Int.toNat x
  · rw [if_pos ⟨rfl, q⟩]; rfl
  · rw [if_neg (by omega)]; exact h j (by omega)
theorem bg_44 {m m12 m33 : Mm} {x z : Int} (h : ∀ j : Nat, (j : Int) < x → rd m12 323 j = 0) (hx : 51 ≤ x) (e : m33 = wt m12 284 59 0) (ez : z = 8 * rd m 284 18) : rd m33 284 59 = shL m (Int.toNat (z - 8 * rd m 284 18)) ∧ ∀ j : Nat, j < 51 → rd m33 323 j = 0 := by
  refine ⟨?_, fun j hj => ?_⟩
  · rw [e, rd_wt, if_pos ⟨rfl, rfl⟩, show Int.toNat (z - 8 * rd m 284 18) = 0 by omega]; rfl
  · rw [e, rd_wt, if_neg (by omega)]; exact h j (by omega)
theorem wy_b {w x y : Int} (hw : 2 ≤ w ∧ w ≤ 5) (hx : 0 ≤ x ∧ x ≤ 9999) (hy : 0 ≤ y ∧ y ≤ 9999) : wr (wr (w * y) + x) = w * y + x := by
  have h1 : w = 2 ∨ w = 3 ∨ w = 4 ∨ w = 5 := by omega
  rcases h1 with rfl | rfl | rfl | rfl <;> (rw [wr_id (x := _ * y) (by omega) (by omega), wr_id (by omega) (by omega)])
theorem bg_b44 {m m44 m88 : Mm} {x z w : Int} (p0 : MW m) (h : rd m44 284 59 = shL m (Int.toNat (x - 8 * rd m 284 18)) ∧ ∀ j : Nat, j < 51 → rd m44 323 j = 0) (g : GX sBg m m44) (e : m88 = wt m44 284 59 (orI (rd m44 284 59) (slI 1 (wr ((wr (w * (rd m44 297 (Int.toNat x)))) + (rd m44 296 (Int.toNat x))))))) (hx : 8 * rd m 284 18 ≤ x ∧ 0 ≤ rd m 284 18) (ew : w = rd m 293 (Int.toNat (rd m 284 18))) (ez : z = x + 1) (T : Ty m) : rd m88 284 59 = shL m (Int.toNat (z - 8 * rd m 284 18)) ∧ ∀ j : Nat, j < 51 → rd m88 323 j = 0 := by
  refine ⟨?_, fun j hj => ?_⟩
  · rw [e, rd_wt, if_pos ⟨rfl, rfl⟩, wr_i (show rg (orI (rd m44 284 59) (slI 1 (wr ((wr (w * (rd m44 297 (Int.toNat x)))) + (rd m44 296 (Int.toNat x)))))) from io_rg _ _ _), g.2.1 297 _ rfl, g.2.1 296 _ rfl, wy_b (by rw [ew]; exact p0.1) (ty_296 T _) (ty_297 T _), h.1, show Int.toNat (z - 8 * rd m 284 18) = Int.toNat (x - 8 * rd m 284 18) + 1 by omega, show Int.toNat x = 8 * Int.toNat (rd m 284 18) + Int.toNat (x - 8 * rd m 284 18) by omega, ew]
    rfl
  · rw [e, rd_wt, if_neg (by omega)]; exact h.2 j hj
theorem bg_105 {m m44 : Mm} {x z : Int} (h : rd m44 284 59 = shL m (Int.toNat (x - 8 * rd m 284 18)) ∧ ∀ j : Nat, j < 51 → rd m44 323 j = 0) (hx : x - 8 * rd m 284 18 = rd m 295 (Int.toNat (rd m 284 18))) (ez : z = 10 * rd m 284 18) : rd m44 284 59 = shL m (Int.toNat (rd m 295 (Int.toNat (rd m 284 18)))) ∧ ∀ j : Nat, j < 51 → rd m44 323 j = if j < 25 then mkL m (Int.toNat (z - 10 * rd m 284 18)) j else 0 := by
  refine ⟨by rw [h.1, hx], fun j hj => ?_⟩
  rw [h.2 j hj, show Int.toNat (z - 10 * rd m 284 18) = 0 by omega]
  split <;> rfl
theorem bg_b105 {m m105 m151 : Mm} {x z w : Int} (h : rd m105 284 59 = shL m (Int.toNat (rd m 295 (Int.toNat (rd m 284 18)))) ∧ ∀ j : Nat, j < 51 → rd m105 323 j = if j < 25 then mkL m (Int.toNat (x - 10 * rd m 284 18)) j else 0) (hx : 10 * rd m 284 18 ≤ x) (hl : 0 ≤ rd m 284 18) (e : m151 = wt m105 323 (Int.toNat (wr ((wr (w * (rd m105 300 (Int.toNat x)))) + (rd m105 299 (Int.toNat x))))) (rd m105 301 (Int.toNat x)))
    (f : wr (rd m 293 (Int.toNat (rd m 284 18)) * rd m 300 (Int.toNat x)) = rd m 293 (Int.toNat (rd m 284 18)) * rd m 300 (Int.toNat x) ∧ wr (wr (rd m 293 (Int.toNat (rd m 284 18)) * rd m 300 (Int.toNat x)) + rd m 299 (Int.toNat x)) = rd m 293 (Int.toNat (rd m 284 18)) * rd m 300 (Int.toNat x) + rd m 299 (Int.toNat x) ∧ 0 ≤ rd m 293 (Int.toNat (rd m 284 18)) * rd m 300 (Int.toNat x) + rd m 299 (Int.toNat x) ∧ rd m 293 (Int.toNat (rd m 284 18)) * rd m 300 (Int.toNat x) + rd m 299 (Int.toNat x) ≤ 24)
    (q299 : rd m105 299 (Int.toNat x) = rd m 299 (Int.toNat x)) (q300 : rd m105 300 (Int.toNat x) = rd m 300 (Int.toNat x)) (q301 : rd m105 301 (Int.toNat x) = rd m 301 (Int.toNat x)) (ew : w = rd m 293 (Int.toNat (rd m 284 18))) (ez : z = x + 1) : rd m151 284 59 = shL m (Int.toNat (rd m 295 (Int.toNat (rd m 284 18)))) ∧ ∀ j : Nat, j < 51 → rd m151 323 j = if j < 25 then mkL m (Int.toNat (z - 10 * rd m 284 18)) j else 0 := by
  rw [q299, q300, q301, ew, f.2.1] at e
  refine ⟨by rw [e, rd_wt, if_neg (by omega)]; exact h.1, fun j hj => ?_⟩
  have ex : Int.toNat x = 10 * Int.toNat (rd m 284 18) + Int.toNat (x - 10 * rd m 284 18) := by omega
  have en : Int.toNat (z - 10 * rd m 284 18) = Int.toNat (x - 10 * rd m 284 18) + 1 := by omega
  rw [e, rd_wt, en]
  have st : mkL m (Int.toNat (x - 10 * rd m 284 18) + 1) j = if j = Int.toNat (rd m 293 (Int.toNat (rd m 284 18)) * rd m 300 (Int.toNat x) + rd m 299 (Int.toNat x)) then rd m 301 (Int.toNat x) else mkL m (Int.toNat (x - 10 * rd m 284 18)) j := by rw [ex]; rfl
  rw [st]
  by_cases q : j = Int.toNat (rd m 293 (Int.toNat (rd m 284 18)) * rd m 300 (Int.toNat x) + rd m 299 (Int.toNat x))
  · rw [if_pos ⟨rfl, q⟩, if_pos (by omega), if_pos q, wr_i (rd_rg _ _ _)]
  · rw [if_neg (fun w => q w.2), h.2 j hj, if_neg q]
theorem bg_160 {m m105 : Mm} {x : Int} (h : rd m105 284 59 = shL m (Int.toNat (rd m 295 (Int.toNat (rd m 284 18)))) ∧ ∀ j : Nat, j < 51 → rd m105 323 j = if j < 25 then mkL m (Int.toNat (x - 10 * rd m 284 18)) j else 0) (hx : x - 10 * rd m 284 18 = rd m 298 (Int.toNat (rd m 284 18)) ∧ 0 ≤ rd m 302 (Int.toNat (rd m 284 18))) : rd m105 284 59 = shL m (Int.toNat (rd m 295 (Int.toNat (rd m 284 18)))) ∧ (0 : Int) ≤ rd m 302 (Int.toNat (rd m 284 18)) ∧ ∀ j : Nat, j < 51 → rd m105 323 j = r0L m (Int.toNat 0) j := by
  refine ⟨h.1, hx.2, fun j hj => ?_⟩
  rw [h.2 j hj, hx.1]
  unfold r0L r0 mkL
  by_cases q : j < 25
  · rw [if_pos q, if_pos q]
  · rw [if_neg q, if_neg q]
    by_cases q2 : j < 43
    · rw [if_pos q2, if_neg (by omega)]
    · rw [if_neg q2]
      by_cases q3 : j < 46
      · rw [if_pos q3, if_neg (by omega)]
      · rw [if_neg q3]
theorem bg_b175 {m m175 m213 : Mm} {x2 x z l : Int} (h : rd m175 284 59 = shL m (Int.toNat (rd m 295 (Int.toNat (rd m 284 18)))) ∧ ∀ j : Nat, j < 51 → rd m175 323 j = r1L m (Int.toNat x2) (Int.toNat x) j) (hx : 0 ≤ x ∧ x < 6) (h2 : 0 ≤ x2 ∧ x2 < 3) (e : m213 = wt m175 323 (Int.toNat (wr ((wr (25 + (wr (6 * x2)))) + x))) (rd m175 305 (Int.toNat (wr ((wr ((wr (18 * l)) + (wr (6 * x2)))) + x))))) (f : rd m175 305 (Int.toNat (wr ((wr ((wr (18 * l)) + (wr (6 * x2)))) + x))) = rd m 305 (Int.toNat (wr ((wr ((wr (18 * l)) + (wr (6 * x2)))) + x)))) (el : l = rd m 284 18) (tl : 0 ≤ rd m 284 18 ∧ rd m 284 18 ≤ 1) (ez : z = x + 1) : rd m213 284 59 = shL m (Int.toNat (rd m 295 (Int.toNat (rd m 284 18)))) ∧ ∀ j : Nat, j < 51 → rd m213 323 j = r1L m (Int.toNat x2) (Int.toNat z) j := by
  rw [f, el, wr_id (x := 6 * x2) (by omega) (by omega), wr_id (x := 25 + 6 * x2) (by omega) (by omega), wr_id (x := 25 + 6 * x2 + x) (by omega) (by omega), wr_id (x := 18 * rd m 284 18) (by omega) (by omega), wr_id (x := 18 * rd m 284 18 + 6 * x2) (by omega) (by omega), wr_id (x := 18 * rd m 284 18 + 6 * x2 + x) (by omega) (by omega)] at e
  refine ⟨by rw [e, rd_wt, if_neg (by omega)]; exact h.1, fun j hj => ?_⟩
  rw [e, rd_wt]
  by_cases q : j = Int.toNat (25 + 6 * x2 + x)
  · rw [if_pos ⟨rfl, q⟩, wr_i (rd_rg _ _ _)]
    unfold r1L
    rw [if_pos (by omega)]
    exact congrArg (rd m 305) (by omega)
  · rw [if_neg (fun w => q w.2), h.2 j hj]
    unfold r1L
    by_cases q2 : 25 + 6 * Int.toNat x2 ≤ j ∧ j < 25 + 6 * Int.toNat x2 + Int.toNat x
    · rw [if_pos q2, if_pos (by omega)]
    · rw [if_neg q2, if_neg (by omega)]
theorem bg_b160 {m m175 m257 : Mm} {x2 x z w a b : Int} {c : Prop} (h : rd m175 284 59 = shL m (Int.toNat (rd m 295 (Int.toNat (rd m 284 18)))) ∧ ∀ j : Nat, j < 51 → rd m175 323 j = r1L m (Int.toNat x2) (Int.toNat x) j) (hx : x = 6) (h2 : (0 ≤ x2 ∧ x2 < 3) ∧ x2 < rd m 302 (Int.toNat (rd m 284 18)) ∧ (0 ≤ rd m 284 18 ∧ rd m 284 18 ≤ 1)) (e : m257 = wt m175 323 (Int.toNat (wr (43 + x2))) (wr ((wr (w * a)) + b))) (f : wr (w * a) = w * a ∧ wr (wr (w * a) + b) = w * a + b ∧ c) (ea : a = rd m 304 (Int.toNat (3 * rd m 284 18 + x2))) (eb : b = rd m 303 (Int.toNat (3 * rd m 284 18 + x2))) (ew : w = rd m 293 (Int.toNat (rd m 284 18))) (ez : z = x2 + 1) : rd m257 284 59 = shL m (Int.toNat (rd m 295 (Int.toNat (rd m 284 18)))) ∧ z ≤ rd m 302 (Int.toNat (rd m 284 18)) ∧ ∀ j : Nat, j < 51 → rd m257 323 j = r0L m (Int.toNat z) j := by
  have rv : rg (wr (wr (w * a) + b)) := wr_rg _
  rw [wr_id (x := 43 + x2) (by omega) (by omega)] at e
  have e3 : Int.toNat (3 * rd m 284 18 + x2) = 3 * Int.toNat (rd m 284 18) + Int.toNat x2 := by omega
  rw [e3] at ea eb
  refine ⟨by rw [e, rd_wt, if_neg (by omega)]; exact h.1, by omega, fun j hj => ?_⟩
  rw [e, rd_wt, show Int.toNat z = Int.toNat x2 + 1 by omega]
  by_cases q : j = Int.toNat (43 + x2)
  · rw [if_pos ⟨rfl, q⟩, wr_i rv, f.2.1, ea, eb, ew]
    unfold r0L r0
    rw [if_neg (by omega), if_neg (by omega), if_pos (by omega), if_pos (by omega), show j - 43 = Int.toNat x2 by omega]
  · rw [if_neg (fun w => q w.2), h.2 j hj]
    unfold r1L r0L r0
    by_cases q1 : j < 25
    · rw [if_neg (by omega), if_pos q1, if_pos q1]
    · by_cases q2 : j < 43
      · by_cases q3 : 25 + 6 * Int.toNat x2 ≤ j ∧ j < 25 + 6 * Int.toNat x2 + Int.toNat x
        · rw [if_pos q3, if_neg q1, if_pos q2, if_pos (by omega)]
        · rw [if_neg q3, if_neg q1, if_pos q2, if_neg q1, if_pos q2]
          by_cases q4 : j < 25 + 6 * Int.toNat x2
          · rw [if_pos q4, if_pos (by omega)]
          · rw [if_neg q4, if_neg (by omega)]
      · rw [if_neg (by omega), if_neg q1, if_neg q2, if_neg q1, if_neg q2]
        by_cases q4 : j < 46
        · rw [if_pos q4, if_pos q4]
          by_cases q5 : j < 43 + Int.toNat x2
          · rw [if_pos q5, if_pos (by omega)]
          · rw [if_neg q5, if_neg (by omega)]
        · rw [if_neg q4, if_neg q4]
theorem bg_r {m m160 m274 : Mm} {x l : Int} (h : rd m160 284 59 = shL m (Int.toNat (rd m 295 (Int.toNat (rd m 284 18)))) ∧ x ≤ rd m 302 (Int.toNat (rd m 284 18)) ∧ ∀ j : Nat, j < 51 → rd m160 323 j = r0L m (Int.toNat x) j) (hx : rd m 302 (Int.toNat (rd m 284 18)) ≤ x) (e : m274 = wt m160 284 58 (rd m160 306 (Int.toNat l))) (f : rd m160 306 (Int.toNat l) = rd m 306 (Int.toNat l)) (el : l = rd m 284 18) : bgM m m274 := by
  have ex : x = rd m 302 (Int.toNat (rd m 284 18)) := by omega
  rw [f, el] at e
  rw [ex] at h
  exact ⟨by rw [e, rd_wt, if_neg (by omega)]; exact h.1, fun j hj => by rw [e, rd_wt, if_neg (by omega)]; exact h.2.2 j hj, by rw [e, rd_wt, if_pos ⟨rfl, rfl⟩, wr_i (rd_rg _ _ _)]⟩
theorem kr_s {m m2 m19 : Mm} {x z : Int} (h : (∀ i j : Nat, ¬ i = 322 → rd m2 i j = rd m i j) ∧ ∀ j : Nat, (j : Int) < x → rd m2 322 j = rd m 323 j) (hx : 0 ≤ x) (e : m19 = wt m2 322 (Int.toNat x) (rd m2 323 (Int.toNat x))) (ez : z = x + 1) : (∀ i j : Nat, ¬ i = 322 → rd m19 i j = rd m i j) ∧ ∀ j : Nat, (j : Int) < z → rd m19 322 j = rd m 323 j := by
  refine ⟨fun i j p => by rw [e, rd_wt, if_neg (by omega)]; exact h.1 i j p, fun j hj => ?_⟩
  rw [e, rd_wt]
  by_cases q : j = Int.toNat x
  · rw [if_pos ⟨rfl, q⟩, wr_i (rd_rg _ _ _), h.1 323 _ (by omega), q]
  · rw [if_neg (fun w => q w.2)]; exact h.2 j (by omega)
-- TippedCratesModel.begins()V
set_option maxRecDepth 20000 in
theorem mz_214 {m : Mm}   (T_m : Ty m)  (p0 : MW m) (p1 : bgOk m) : CV 1 214 [.ref 284] m (fun m2 => GX sBg m m2 ∧ ((True) ∧ (bgM m m2))) := by
  refine br_214  ?_
  unfold P_214
  have g_m : GX sBg m m := ⟨T_m, fun _ _ _ => rfl, fun _ _ => rfl⟩
  have tl := ty_284_18 T_m
  have t295 := ty_295 T_m (Int.toNat (rd m 284 18))
  have t298 := ty_298 T_m (Int.toNat (rd m 284 18))
  have t302 := ty_302 T_m (Int.toNat (rd m 284 18))
  have t1 := ty_284_18 T_m
  refine ⟨⟨by omega, by omega⟩, ?_⟩
  have t2 := ty_293 T_m (Int.toNat (rd m 284 18))
  intro z1_9 e_z1_9
  have r_z1_9 : rg z1_9 := by rw [e_z1_9]; exact (rd_rg _ _ _)
  refine ⟨fun x2_12 m_12 => GX sBg m m_12 ∧ ((0 ≤ x2_12 ∧ x2_12 ≤ 51) ∧ (∀ j : Nat, (j : Int) < x2_12 → rd m_12 323 j = 0)), fun x2_12 m_12 => Int.toNat (51 - x2_12), ?_, ?_⟩
  · exact ⟨g_m, by exact ⟨by first | omega | (refine ⟨?_, ?_⟩ <;> omega) | trivial, by exact fun j h => by omega⟩⟩
  · intro x2_12 m_12 r_x2_12 hI_12
    obtain ⟨g_m_12, hI_12⟩ := hI_12
    obtain ⟨hI_12, dI_12⟩ := hI_12
    refine ⟨fun hq => ?_, fun hq => ?_⟩
    · skip
      intro m33 e_m33
      have g_m33 : GX sBg m m33 := by rw [e_m33]; exact GX.wt g_m_12 (tw_284_59 g_m_12.1 (by first | assumption | omega)) (Eq.refl true)
      have l33 : rd m33 284 18 = rd m 284 18 := g_m33.2.1 284 18 rfl
      have t3 := ty_284_18 g_m33.1
      try have w4 : wr (8 * (rd m33 284 18)) = 8 * (rd m33 284 18) := wr_id (by omega) (by omega)
      intro z2_43 e_z2_43
      have r_z2_43 : rg z2_43 := by rw [e_z2_43]; exact (wr_rg _)
      refine ⟨fun x2_44 m_44 => GX sBg m m_44 ∧ ((8 * rd m 284 18 ≤ x2_44 ∧ x2_44 ≤ 16) ∧ (x2_44 - 8 * rd m 284 18 ≤ rd m 295 (Int.toNat (rd m 284 18)) ∧ rd m_44 284 59 = shL m (Int.toNat (x2_44 - 8 * rd m 284 18)) ∧ ∀ j : Nat, j < 51 → rd m_44 323 j = 0)), fun x2_44 m_44 => Int.toNat (16 - x2_44), ?_, ?_⟩
      · exact ⟨g_m33, by exact ⟨by first | omega | (refine ⟨?_, ?_⟩ <;> omega) | trivial, by exact ⟨by omega, bg_44 dI_12 (by omega) e_m33 (by omega)⟩⟩⟩
      · intro x2_44 m_44 r_x2_44 hI_44
        obtain ⟨g_m_44, hI_44⟩ := hI_44
        obtain ⟨hI_44, dI_44⟩ := hI_44
        have l44 : rd m_44 284 18 = rd m 284 18 := g_m_44.2.1 284 18 rfl
        have Q44 : rd m_44 295 (Int.toNat (rd m_44 284 18)) = rd m 295 (Int.toNat (rd m 284 18)) := by rw [l44]; exact g_m_44.2.1 295 _ rfl
        have W44 : wr ((wr (8 * (rd m_44 284 18))) + (rd m_44 295 (Int.toNat (rd m_44 284 18)))) = 8 * rd m 284 18 + rd m 295 (Int.toNat (rd m 284 18)) := by rw [Q44, l44, wr_id (x := 8 * rd m 284 18) (by omega) (by omega), wr_id (by omega) (by omega)]
        have t5 := ty_284_18 g_m_44.1
        refine ⟨⟨by omega, by omega⟩, ?_⟩
        try have w6 : wr (8 * (rd m_44 284 18)) = 8 * (rd m_44 284 18) := wr_id (by omega) (by omega)
        have t7 := ty_295 g_m_44.1 (Int.toNat (rd m_44 284 18))
        try have w8 : wr ((wr (8 * (rd m_44 284 18))) + (rd m_44 295 (Int.toNat (rd m_44 284 18)))) = (wr (8 * (rd m_44 284 18))) + (rd m_44 295 (Int.toNat (rd m_44 284 18))) := wr_id (by omega) (by omega)
        refine ⟨fun hq => ?_, fun hq => ?_⟩
        · skip
          try have w9 : wr (10 * (rd m_44 284 18)) = 10 * (rd m_44 284 18) := wr_id (by omega) (by omega)
          intro z2_104 e_z2_104
          have r_z2_104 : rg z2_104 := by rw [e_z2_104]; exact (wr_rg _)
          refine ⟨fun x2_105 m_105 => GX sBg m m_105 ∧ ((10 * rd m 284 18 ≤ x2_105 ∧ x2_105 ≤ 20) ∧ (x2_105 - 10 * rd m 284 18 ≤ rd m 298 (Int.toNat (rd m 284 18)) ∧ rd m_105 284 59 = shL m (Int.toNat (rd m 295 (Int.toNat (rd m 284 18)))) ∧ ∀ j : Nat, j < 51 → rd m_105 323 j = if j < 25 then mkL m (Int.toNat (x2_105 - 10 * rd m 284 18)) j else 0)), fun x2_105 m_105 => Int.toNat (20 - x2_105), ?_, ?_⟩
          · exact ⟨g_m_44, by exact ⟨by first | omega | (refine ⟨?_, ?_⟩ <;> omega) | trivial, by exact ⟨by omega, bg_105 dI_44.2 (by omega) (by omega)⟩⟩⟩
          · intro x2_105 m_105 r_x2_105 hI_105
            obtain ⟨g_m_105, hI_105⟩ := hI_105
            obtain ⟨hI_105, dI_105⟩ := hI_105
            have l105 : rd m_105 284 18 = rd m 284 18 := g_m_105.2.1 284 18 rfl
            have q298 : rd m_105 298 (Int.toNat (rd m_105 284 18)) = rd m 298 (Int.toNat (rd m 284 18)) := by rw [l105]; exact g_m_105.2.1 298 _ rfl
            have q299 : rd m_105 299 (Int.toNat x2_105) = rd m 299 (Int.toNat x2_105) := g_m_105.2.1 299 _ rfl
            have q300 : rd m_105 300 (Int.toNat x2_105) = rd m 300 (Int.toNat x2_105) := g_m_105.2.1 300 _ rfl
            have q301 : rd m_105 301 (Int.toNat x2_105) = rd m 301 (Int.toNat x2_105) := g_m_105.2.1 301 _ rfl
            have b105 := p1.1 (Int.toNat x2_105)
            have T299 := ty_299 T_m (Int.toNat x2_105)
            have T300 := ty_300 T_m (Int.toNat x2_105)
            have f105 : x2_105 < 10 * rd m 284 18 + rd m 298 (Int.toNat (rd m 284 18)) → wr (z1_9 * (rd m_105 300 (Int.toNat x2_105))) = z1_9 * (rd m_105 300 (Int.toNat x2_105)) ∧ wr (wr (z1_9 * (rd m_105 300 (Int.toNat x2_105))) + rd m_105 299 (Int.toNat x2_105)) = z1_9 * (rd m_105 300 (Int.toNat x2_105)) + rd m_105 299 (Int.toNat x2_105) ∧ 0 ≤ z1_9 * (rd m_105 300 (Int.toNat x2_105)) + rd m_105 299 (Int.toNat x2_105) ∧ z1_9 * (rd m_105 300 (Int.toNat x2_105)) + rd m_105 299 (Int.toNat x2_105) ≤ 24 := fun h => by
              have b := b105 (by omega) (by omega)
              rw [q299, q300, e_z1_9]
              have f := fl_b p0.1 p0.2 (x := rd m 299 (Int.toNat x2_105)) (y := rd m 300 (Int.toNat x2_105)) ⟨T299.1, b.1⟩ ⟨T300.1, b.2.1⟩
              exact ⟨f.1, f.2.1, f.2.2.1, f.2.2.2.1⟩
            have Q105 : rd m_105 298 (Int.toNat (rd m_105 284 18)) = rd m 298 (Int.toNat (rd m 284 18)) := by rw [l105]; exact g_m_105.2.1 298 _ rfl
            have W105 : wr ((wr (10 * (rd m_105 284 18))) + (rd m_105 298 (Int.toNat (rd m_105 284 18)))) = 10 * rd m 284 18 + rd m 298 (Int.toNat (rd m 284 18)) := by rw [Q105, l105, wr_id (x := 10 * rd m 284 18) (by omega) (by omega), wr_id (by omega) (by omega)]
            have t10 := ty_284_18 g_m_105.1
            refine ⟨⟨by omega, by omega⟩, ?_⟩
            try have w11 : wr (10 * (rd m_105 284 18)) = 10 * (rd m_105 284 18) := wr_id (by omega) (by omega)
            have t12 := ty_298 g_m_105.1 (Int.toNat (rd m_105 284 18))
            try have w13 : wr ((wr (10 * (rd m_105 284 18))) + (rd m_105 298 (Int.toNat (rd m_105 284 18)))) = (wr (10 * (rd m_105 284 18))) + (rd m_105 298 (Int.toNat (rd m_105 284 18))) := wr_id (by omega) (by omega)
            refine ⟨fun hq => ?_, fun hq => ?_⟩
            · skip
              refine ⟨fun x2_160 m_160 => GX sBg m m_160 ∧ ((0 ≤ x2_160 ∧ x2_160 ≤ 3) ∧ (rd m_160 284 59 = shL m (Int.toNat (rd m 295 (Int.toNat (rd m 284 18)))) ∧ x2_160 ≤ rd m 302 (Int.toNat (rd m 284 18)) ∧ ∀ j : Nat, j < 51 → rd m_160 323 j = r0L m (Int.toNat x2_160) j)), fun x2_160 m_160 => Int.toNat (3 - x2_160), ?_, ?_⟩
              · exact ⟨g_m_105, by exact ⟨by first | omega | (refine ⟨?_, ?_⟩ <;> omega) | trivial, by exact bg_160 dI_105.2 (by omega)⟩⟩
              · intro x2_160 m_160 r_x2_160 hI_160
                obtain ⟨g_m_160, hI_160⟩ := hI_160
                obtain ⟨hI_160, dI_160⟩ := hI_160
                have l160 : rd m_160 284 18 = rd m 284 18 := g_m_160.2.1 284 18 rfl
                have q302 : rd m_160 302 (Int.toNat (rd m_160 284 18)) = rd m 302 (Int.toNat (rd m 284 18)) := by rw [l160]; exact g_m_160.2.1 302 _ rfl
                have t14 := ty_284_18 g_m_160.1
                refine ⟨⟨by omega, by omega⟩, ?_⟩
                have t15 := ty_302 g_m_160.1 (Int.toNat (rd m_160 284 18))
                refine ⟨fun hq => ?_, fun hq => ?_⟩
                · skip
                  refine ⟨⟨by omega, by omega⟩, ?_⟩
                  have t16 := ty_306 g_m_160.1 (Int.toNat (rd m_160 284 18))
                  intro m274 e_m274
                  have g_m274 : GX sBg m m274 := by rw [e_m274]; exact GX.wt g_m_160 (tw_284_58 g_m_160.1 (rd_rg _ _ _)) (Eq.refl true)
                  exact ⟨g_m274, by exact ⟨by first | trivial | omega | (refine ⟨?_, ?_⟩ <;> omega), by exact bg_r dI_160 (by omega) e_m274 (g_m_160.2.1 306 _ rfl) l160⟩⟩
                · skip
                  refine ⟨fun x3_175 m_175 => GX sBg m m_175 ∧ ((0 ≤ x3_175 ∧ x3_175 ≤ 6) ∧ (rd m_175 284 59 = shL m (Int.toNat (rd m 295 (Int.toNat (rd m 284 18)))) ∧ ∀ j : Nat, j < 51 → rd m_175 323 j = r1L m (Int.toNat x2_160) (Int.toNat x3_175) j)), fun x3_175 m_175 => Int.toNat (6 - x3_175), ?_, ?_⟩
                  · exact ⟨g_m_160, by exact ⟨by first | omega | (refine ⟨?_, ?_⟩ <;> omega) | trivial, by exact ⟨dI_160.1, fun j hj => (dI_160.2.2 j hj).trans (r1_0 m _ j).symm⟩⟩⟩
                  · intro x3_175 m_175 r_x3_175 hI_175
                    obtain ⟨g_m_175, hI_175⟩ := hI_175
                    obtain ⟨hI_175, dI_175⟩ := hI_175
                    have l175 : rd m_175 284 18 = rd m 284 18 := g_m_175.2.1 284 18 rfl
                    have i175 : Int.toNat (wr ((wr (3 * rd m_175 284 18)) + x2_160)) = Int.toNat (3 * rd m 284 18 + x2_160) := by rw [l175, wr_id (x := 3 * rd m 284 18) (by omega) (by omega), wr_id (by omega) (by omega)]
                    have q303 : rd m_175 303 (Int.toNat (wr ((wr (3 * rd m_175 284 18)) + x2_160))) = rd m 303 (Int.toNat (3 * rd m 284 18 + x2_160)) := by rw [i175]; exact g_m_175.2.1 303 _ rfl
                    have q304 : rd m_175 304 (Int.toNat (wr ((wr (3 * rd m_175 284 18)) + x2_160))) = rd m 304 (Int.toNat (3 * rd m 284 18 + x2_160)) := by rw [i175]; exact g_m_175.2.1 304 _ rfl
                    have cb := p1.2.1 (Int.toNat (3 * rd m 284 18 + x2_160)) (by omega) (by omega)
                    have f175 := fl_b p0.1 p0.2 (x := rd m 303 (Int.toNat (3 * rd m 284 18 + x2_160))) (y := rd m 304 (Int.toNat (3 * rd m 284 18 + x2_160))) ⟨(ty_303 T_m _).1, cb.1⟩ ⟨(ty_304 T_m _).1, cb.2⟩
                    rw [← q303, ← q304, ← e_z1_9] at f175
                    have b175 : ∀ k : Nat, 18 * rd m 284 18 ≤ k → (k : Int) < 18 * rd m 284 18 + 6 * rd m 302 (Int.toNat (rd m 284 18)) → rd m_175 305 k ≤ 9 := fun k a b => by rw [g_m_175.2.1 305 k rfl]; exact p1.2.2 k a b
                    refine ⟨fun hq => ?_, fun hq => ?_⟩
                    · skip
                      have t17 := ty_284_18 g_m_175.1
                      try have w18 : wr (3 * (rd m_175 284 18)) = 3 * (rd m_175 284 18) := wr_id (by omega) (by omega)
                      try have w19 : wr ((wr (3 * (rd m_175 284 18))) + x2_160) = (wr (3 * (rd m_175 284 18))) + x2_160 := wr_id (by omega) (by omega)
                      refine ⟨⟨by omega, by omega⟩, ?_⟩
                      refine ⟨⟨by omega, by omega⟩, ?_⟩
                      try have w20 : wr (43 + x2_160) = 43 + x2_160 := wr_id (by omega) (by omega)
                      refine ⟨⟨by omega, by omega⟩, ?_⟩
                      have t21 := ty_304 g_m_175.1 (Int.toNat (wr ((wr (3 * (rd m_175 284 18))) + x2_160)))
                      try have w22 : wr (z1_9 * (rd m_175 304 (Int.toNat (wr ((wr (3 * (rd m_175 284 18))) + x2_160))))) = z1_9 * (rd m_175 304 (Int.toNat (wr ((wr (3 * (rd m_175 284 18))) + x2_160)))) := wr_id (by omega) (by omega)
                      have t23 := ty_303 g_m_175.1 (Int.toNat (wr ((wr (3 * (rd m_175 284 18))) + x2_160)))
                      try have w24 : wr ((wr (z1_9 * (rd m_175 304 (Int.toNat (wr ((wr (3 * (rd m_175 284 18))) + x2_160)))))) + (rd m_175 303 (Int.toNat (wr ((wr (3 * (rd m_175 284 18))) + x2_160))))) = (wr (z1_9 * (rd m_175 304 (Int.toNat (wr ((wr (3 * (rd m_175 284 18))) + x2_160)))))) + (rd m_175 303 (Int.toNat (wr ((wr (3 * (rd m_175 284 18))) + x2_160)))) := wr_id (by omega) (by omega)
                      intro m257 e_m257
                      have g_m257 : GX sBg m m257 := by rw [e_m257]; exact GX.wt g_m_175 (tz_323 g_m_175.1 (wr_rg _) (fun h => by rw [Nat.mod_eq_of_lt (by omega)] at h; omega) (fun _ _ => ⟨by omega, by omega⟩)) (Eq.refl true)
                      try have w25 : wr (x2_160 + 1) = x2_160 + 1 := wr_id (by omega) (by omega)
                      intro z2_258 e_z2_258
                      have r_z2_258 : rg z2_258 := by rw [e_z2_258]; exact wr_rg _
                      exact ⟨⟨g_m257, by exact ⟨by first | omega | (refine ⟨?_, ?_⟩ <;> omega) | trivial, by exact bg_b160 dI_175 (by omega) (by omega) e_m257 f175 q304 q303 e_z1_9 (by omega)⟩⟩, by (try dsimp only); omega⟩
                    · skip
                      have t26 := ty_284_18 g_m_175.1
                      try have w27 : wr (18 * (rd m_175 284 18)) = 18 * (rd m_175 284 18) := wr_id (by omega) (by omega)
                      try have w28 : wr (6 * x2_160) = 6 * x2_160 := wr_id (by omega) (by omega)
                      try have w29 : wr ((wr (18 * (rd m_175 284 18))) + (wr (6 * x2_160))) = (wr (18 * (rd m_175 284 18))) + (wr (6 * x2_160)) := wr_id (by omega) (by omega)
                      try have w30 : wr ((wr ((wr (18 * (rd m_175 284 18))) + (wr (6 * x2_160)))) + x3_175) = (wr ((wr (18 * (rd m_175 284 18))) + (wr (6 * x2_160)))) + x3_175 := wr_id (by omega) (by omega)
                      refine ⟨⟨by omega, by omega⟩, ?_⟩
                      try have w31 : wr (25 + (wr (6 * x2_160))) = 25 + (wr (6 * x2_160)) := wr_id (by omega) (by omega)
                      try have w32 : wr ((wr (25 + (wr (6 * x2_160)))) + x3_175) = (wr (25 + (wr (6 * x2_160)))) + x3_175 := wr_id (by omega) (by omega)
                      refine ⟨⟨by omega, by omega⟩, ?_⟩
                      have t33 := ty_305 g_m_175.1 (Int.toNat (wr ((wr ((wr (18 * (rd m_175 284 18))) + (wr (6 * x2_160)))) + x3_175)))
                      intro m213 e_m213
                      have g_m213 : GX sBg m m213 := by rw [e_m213]; exact GX.wt g_m_175 (tz_323 g_m_175.1 (rd_rg _ _ _) (fun _ => ⟨(ty_305 g_m_175.1 _).1, b175 _ (by omega) (by omega)⟩) (fun h1 h2 => by rw [Nat.mod_eq_of_lt (by omega)] at h1; omega)) (Eq.refl true)
                      try have w34 : wr (x3_175 + 1) = x3_175 + 1 := wr_id (by omega) (by omega)
                      intro z3_214 e_z3_214
                      have r_z3_214 : rg z3_214 := by rw [e_z3_214]; exact wr_rg _
                      exact ⟨⟨g_m213, by exact ⟨by first | omega | (refine ⟨?_, ?_⟩ <;> omega) | trivial, by exact bg_b175 dI_175 (by omega) (by omega) e_m213 (g_m_175.2.1 305 _ rfl) l175 tl (by omega)⟩⟩, by (try dsimp only); omega⟩
            · skip
              refine ⟨⟨by omega, by omega⟩, ?_⟩
              refine ⟨⟨by omega, by omega⟩, ?_⟩
              refine ⟨⟨by omega, by omega⟩, ?_⟩
              have t35 := ty_300 g_m_105.1 (Int.toNat x2_105)
              try have w36 : wr (z1_9 * (rd m_105 300 (Int.toNat x2_105))) = z1_9 * (rd m_105 300 (Int.toNat x2_105)) := wr_id (by omega) (by omega)
              have t37 := ty_299 g_m_105.1 (Int.toNat x2_105)
              try have w38 : wr ((wr (z1_9 * (rd m_105 300 (Int.toNat x2_105)))) + (rd m_105 299 (Int.toNat x2_105))) = (wr (z1_9 * (rd m_105 300 (Int.toNat x2_105)))) + (rd m_105 299 (Int.toNat x2_105)) := wr_id (by omega) (by omega)
              refine ⟨⟨by omega, by omega⟩, ?_⟩
              have t39 := ty_301 g_m_105.1 (Int.toNat x2_105)
              intro m151 e_m151
              have g_m151 : GX sBg m m151 := by rw [e_m151]; exact GX.wt g_m_105 (tz_323 g_m_105.1 (rd_rg _ _ _) (by omega) (by omega)) (Eq.refl true)
              try have w40 : wr (x2_105 + 1) = x2_105 + 1 := wr_id (by omega) (by omega)
              intro z2_152 e_z2_152
              have r_z2_152 : rg z2_152 := by rw [e_z2_152]; exact wr_rg _
              exact ⟨⟨g_m151, by exact ⟨by first | omega | (refine ⟨?_, ?_⟩ <;> omega) | trivial, by exact ⟨by omega, bg_b105 dI_105.2 (by omega) (by omega) e_m151 (by have f := f105 (by omega); rw [q299, q300, e_z1_9] at f; exact f) q299 q300 q301 e_z1_9 (by omega)⟩⟩⟩, by (try dsimp only); omega⟩
        · skip
          refine ⟨⟨by omega, by omega⟩, ?_⟩
          refine ⟨⟨by omega, by omega⟩, ?_⟩
          have t42 := ty_297 g_m_44.1 (Int.toNat x2_44)
          try have w43 : wr (z1_9 * (rd m_44 297 (Int.toNat x2_44))) = z1_9 * (rd m_44 297 (Int.toNat x2_44)) := wr_id (by omega) (by omega)
          have t44 := ty_296 g_m_44.1 (Int.toNat x2_44)
          try have w45 : wr ((wr (z1_9 * (rd m_44 297 (Int.toNat x2_44)))) + (rd m_44 296 (Int.toNat x2_44))) = (wr (z1_9 * (rd m_44 297 (Int.toNat x2_44)))) + (rd m_44 296 (Int.toNat x2_44)) := wr_id (by omega) (by omega)
          intro m88 e_m88
          have g_m88 : GX sBg m m88 := by rw [e_m88]; exact GX.wt g_m_44 (tw_284_59 g_m_44.1 (io_rg _ _ _)) (Eq.refl true)
          try have w46 : wr (x2_44 + 1) = x2_44 + 1 := wr_id (by omega) (by omega)
          intro z2_91 e_z2_91
          have r_z2_91 : rg z2_91 := by rw [e_z2_91]; exact wr_rg _
          exact ⟨⟨g_m88, by exact ⟨by first | omega | (refine ⟨?_, ?_⟩ <;> omega) | trivial, by exact ⟨by omega, bg_b44 p0 dI_44.2 g_m_44 e_m88 (by omega) e_z1_9 (by omega) T_m⟩⟩⟩, by (try dsimp only); omega⟩
    · skip
      refine ⟨⟨by omega, by omega⟩, ?_⟩
      intro m24 e_m24
      have g_m24 : GX sBg m m24 := by rw [e_m24]; exact GX.wt g_m_12 (tz_323 g_m_12.1 (by first | assumption | omega) (by omega) (by omega)) (Eq.refl true)
      try have w47 : wr (x2_12 + 1) = x2_12 + 1 := wr_id (by omega) (by omega)
      intro z2_25 e_z2_25
      have r_z2_25 : rg z2_25 := by rw [e_z2_25]; exact wr_rg _
      exact ⟨⟨g_m24, by exact ⟨by first | omega | (refine ⟨?_, ?_⟩ <;> omega) | trivial, by exact bg_b12 dI_12 (by omega) e_m24 (by omega)⟩⟩, by (try dsimp only); omega⟩
-- TippedCratesModel.keepsRow()V
set_option maxRecDepth 20000 in
theorem mz_215 {m : Mm}   (T_m : Ty m)   : CV 1 215 [.ref 284] m (fun m2 => GX sMd m m2 ∧ (((True) ∧ (mk m m2)) ∧ ((∀ i j : Nat, ¬ i = 322 → rd m2 i j = rd m i j) ∧ ∀ j : Nat, j < 51 → rd m2 322 j = rd m 323 j))) := by
  refine br_215  ?_
  unfold P_215
  have g_m : GX sMd m m := ⟨T_m, fun _ _ _ => rfl, fun _ _ => rfl⟩
  refine ⟨fun x1_2 m_2 => GX sMd m m_2 ∧ (((0 ≤ x1_2 ∧ x1_2 ≤ 51) ∧ (mk m m_2)) ∧ ((∀ i j : Nat, ¬ i = 322 → rd m_2 i j = rd m i j) ∧ ∀ j : Nat, (j : Int) < x1_2 → rd m_2 322 j = rd m 323 j)), fun x1_2 m_2 => Int.toNat (51 - x1_2), ?_, ?_⟩
  · exact ⟨g_m, by exact ⟨by exact ⟨by first | omega | (refine ⟨?_, ?_⟩ <;> omega) | trivial, by exact mk_r _⟩, by exact ⟨fun _ _ _ => rfl, fun j h => by omega⟩⟩⟩
  · intro x1_2 m_2 r_x1_2 hI_2
    obtain ⟨g_m_2, hI_2⟩ := hI_2
    obtain ⟨hI_2, dI_2⟩ := hI_2
    obtain ⟨hI_2, cI_2⟩ := hI_2
    refine ⟨fun hq => ?_, fun hq => ?_⟩
    · skip
      exact ⟨g_m_2, by exact ⟨by exact ⟨by first | trivial | omega | (refine ⟨?_, ?_⟩ <;> omega), by exact cI_2⟩, by exact ⟨dI_2.1, fun j hj => dI_2.2 j (by omega)⟩⟩⟩
    · skip
      refine ⟨⟨by omega, by omega⟩, ?_⟩
      refine ⟨⟨by omega, by omega⟩, ?_⟩
      have t1 := tr_323 g_m_2.1 (Int.toNat x1_2)
      intro m19 e_m19
      have g_m19 : GX sMd m m19 := by rw [e_m19]; exact GX.wt g_m_2 (tz_322 g_m_2.1 (rd_rg _ _ _) (by omega) (by omega)) (Eq.refl true)
      try have w2 : wr (x1_2 + 1) = x1_2 + 1 := wr_id (by omega) (by omega)
      intro z1_20 e_z1_20
      have r_z1_20 : rg z1_20 := by rw [e_z1_20]; exact wr_rg _
      exact ⟨⟨g_m19, by exact ⟨by exact ⟨by first | omega | (refine ⟨?_, ?_⟩ <;> omega) | trivial, by exact cI_2.wt (by omega) e_m19⟩, by exact kr_s dI_2 (by omega) e_m19 (by omega)⟩⟩, by (try dsimp only); omega⟩
