theorem sy_9 : sy 0 = 59 ∧ sy 1 = 61 ∧ sy 2 = 43 ∧ sy 3 = 45 ∧ sy 4 = 42 ∧ sy 5 = 47 ∧ sy 6 = 60 ∧ sy 7 = 40 ∧ sy 8 = 41 := by decide
theorem nb_v {x : Int} (h : 0 ≤ x ∧ x ≤ 255) : nb x = x ∧ x ≤ 127 ∨ nb x = x - 256 ∧ 128 ≤ x := by
  rw [nb_eqv]
  omega
theorem sg_no {x : Int} (hb : nb x = x ∧ x ≤ 127 ∨ nb x = x - 256 ∧ 128 ≤ x) (h : ∀ q : Int, 0 ≤ q → q < 9 → ¬ sy q = nb x) : ¬ (x = 59 ∨ x = 61 ∨ x = 43 ∨ x = 45 ∨ x = 42 ∨ x = 47 ∨ x = 60 ∨ x = 40 ∨ x = 41) := by
  have h9 := sy_9
  have a0 := h 0 (by omega) (by omega)
  have a1 := h 1 (by omega) (by omega)
  have a2 := h 2 (by omega) (by omega)
  have a3 := h 3 (by omega) (by omega)
  have a4 := h 4 (by omega) (by omega)
  have a5 := h 5 (by omega) (by omega)
  have a6 := h 6 (by omega) (by omega)
  have a7 := h 7 (by omega) (by omega)
  have a8 := h 8 (by omega) (by omega)
  omega
theorem sg_in {x q : Int} (hb : nb x = x ∧ x ≤ 127 ∨ nb x = x - 256 ∧ 128 ≤ x) (_p : 0 ≤ x ∧ x ≤ 255) (hq : 0 ≤ q ∧ q ≤ 8) (h : sy q = nb x) : x = 59 ∨ x = 61 ∨ x = 43 ∨ x = 45 ∨ x = 42 ∨ x = 47 ∨ x = 60 ∨ x = 40 ∨ x = 41 := by
  have h9 := sy_9
  have hc : q = 0 ∨ q = 1 ∨ q = 2 ∨ q = 3 ∨ q = 4 ∨ q = 5 ∨ q = 6 ∨ q = 7 ∨ q = 8 := by omega
  rcases hc with rfl | rfl | rfl | rfl | rfl | rfl | rfl | rfl | rfl <;> omega
/-- what the cutting writes -/
def sCt (i j : Nat) : Bool := Nat.beq i 2 || Nat.beq i 3 || (Nat.beq i 1 && Nat.beq j 6)
def CX (m0 m : Mm) : Prop := Ty m ∧ (∀ i j, sCt i j = false → rd m i j = rd m0 i j) ∧ ∀ i j, ¬ i = 4 → ld m i j = ld m0 i j
theorem CX.wt {m0 m : Mm} {i j : Nat} {v : Int} (h : CX m0 m) (ht : Ty (wt m i j v)) (hs : sCt i j = true) : CX m0 (wt m i j v) := by
  refine ⟨ht, fun a b e => ?_, h.2.2⟩
  rw [rd_wt, if_neg (fun q => by rw [q.1, q.2, hs] at e; cases e)]
  exact h.2.1 a b e
theorem CX.wl {m0 m : Mm} {j : Nat} {v : Int} (h : CX m0 m) : CX m0 (wl m 4 j v) :=
  ⟨h.1, h.2.1, fun a b e => by rw [ld_wl, if_neg (fun q => e q.1)]; exact h.2.2 a b e⟩
/-- all tokens but one -/
def tkX (m : Mm) (x : Int) : Prop := ∀ i : Nat, i ≤ 400 → ¬ (i : Int) = x → rd m 2 i = 22 → 0 ≤ ld m 4 i ∧ ld m 4 i ≤ 9999
theorem tkX_of {m : Mm} {x : Int} (h : tkOk m) : tkX m x := fun i hi _ hk => h i hi hk
theorem tk_wt {m : Mm} {i j : Nat} {v : Int} (h : tkOk m) (hi : ¬ i = 2) : tkOk (wt m i j v) := fun q hq hk => by
  rw [rd_wt, if_neg (fun w => hi w.1.symm)] at hk
  exact h q hq hk
theorem tk_wl {m : Mm} {j : Nat} {v : Int} (h : tkOk m) (hv : 0 ≤ v ∧ v ≤ 9999) : tkOk (wl m 4 j v) := fun q hq hk => by
  rw [ld_wl]
  split
  · rw [wrl_id (by omega) (by omega)]; exact hv
  · exact h q hq hk
theorem tkX_wl {m : Mm} {x v : Int} (h : tkOk m) (hx0 : 0 ≤ x) : tkX (wl m 4 (Int.toNat x) v) x := fun q hq hx hk => by
  rw [ld_wl, if_neg (by omega)]
  exact h q hq hk
theorem tkX_wt {m : Mm} {x v : Int} (h : tkX m x) (hr : rg v) (hv : ¬ v = 22) (hx : 0 ≤ x ∧ x ≤ 400) : tkOk (wt m 2 (Int.toNat x) v) := fun q hq hk => by
  rw [rd_wt] at hk
  by_cases e : q = Int.toNat x
  · rw [if_pos ⟨rfl, e⟩, wr_i hr] at hk
    exact absurd hk hv
  · rw [if_neg (fun w => e w.2)] at hk
    exact h q hq (by omega) hk
theorem tk_w2 {m : Mm} {x v : Int} (h : tkOk m) (_hr : rg v) (hx : 0 ≤ x ∧ x ≤ 400) (hl : 0 ≤ ld m 4 (Int.toNat x) ∧ ld m 4 (Int.toNat x) ≤ 9999) : tkOk (wt m 2 (Int.toNat x) v) := fun q hq hk => by
  by_cases e : q = Int.toNat x
  · rw [e]; exact hl
  · rw [rd_wt, if_neg (fun w => e w.2)] at hk
    exact h q hq hk
theorem an255 (a : Int) : 0 ≤ anI a 255 ∧ anI a 255 ≤ 255 := by
  have e : anI a 255 = ((Int32.ofInt a).toBitVec &&& 255#32).toInt := rfl
  have h1 : ((Int32.ofInt a).toBitVec &&& 255#32).toNat ≤ 255 := by
    rw [BitVec.toNat_and]
    exact Nat.and_le_right
  rw [e, BitVec.toInt_eq_toNat_of_lt (by omega)]
  omega
theorem nc_id {x : Int} (h : 0 ≤ x ∧ x ≤ 255) : ncI x = x := by
  unfold ncI i1o
  have hx : (Int32.ofInt x).toUInt32.toNat = x.toNat := by
    have e : (Int32.ofInt x).toInt = x := to_of_rg ⟨by omega, by omega⟩
    have e2 : (Int32.ofInt x).toBitVec.toInt = x := e
    have e3 := BitVec.toInt_eq_toNat_bmod (Int32.ofInt x).toBitVec
    have hl := (Int32.ofInt x).toBitVec.isLt
    show (Int32.ofInt x).toBitVec.toNat = x.toNat
    rw [e2, Int.bmod_def] at e3
    split at e3 <;> omega
  have h2 : ((Int32.ofInt x).toUInt32 % 65536).toNat = x.toNat := by
    rw [UInt32.toNat_mod, hx]
    show x.toNat % 65536 = x.toNat
    omega
  show ((Int32.ofInt x).toUInt32 % 65536).toInt32.toInt = x
  generalize (Int32.ofInt x).toUInt32 % 65536 = u at h2
  show u.toBitVec.toInt = x
  have h3 : u.toBitVec.toNat = x.toNat := h2
  rw [BitVec.toInt_eq_toNat_of_lt (by omega)]
  omega
/-- what a push writes -/
def sPu (i j : Nat) : Bool := Nat.beq i 5 || (Nat.beq i 1 && Nat.beq j 0)
-- java/lang/String.coder()B
set_option maxRecDepth 20000 in
theorem ct_292 {m : Mm}      : CK 1 292 [.ref (1100 + 1)] m (fun m2 v => m2 = m ∧ (v = 0)) := by
  refine br_292  ?_
  unfold P_292
  refine ⟨fun s0_14 => s0_14 = 0, ?_, ?_⟩
  · skip
    refine ⟨fun hq => ?_, fun hq => ?_⟩
    · skip
      (first | trivial | omega | (refine ⟨?_, ?_⟩ <;> omega))
    · skip
      (first | trivial | omega | (refine ⟨?_, ?_⟩ <;> omega))
  · intro s0_14 r_s0_14 hR_14
    exact ⟨by omega, ⟨rfl, by first | trivial | omega | (refine ⟨?_, ?_⟩ <;> omega)⟩⟩
-- java/lang/String.isLatin1()Z
set_option maxRecDepth 20000 in
theorem ct_293 {m : Mm}      : CK 1 293 [.ref (1100 + 1)] m (fun m2 v => m2 = m ∧ (v = 1)) := by
  refine br_293  ?_
  unfold P_293
  refine ⟨fun s0_18 => s0_18 = 1, ?_, ?_⟩
  · skip
    refine ⟨False, ?_, ?_⟩
    · skip
      refine ⟨fun hq => ?_, fun hq => ?_⟩
      · skip
        (first | trivial | omega | (refine ⟨?_, ?_⟩ <;> omega))
      · skip
        refine ⟨fun hq => ?_, fun hq => ?_⟩
        · skip
          (first | trivial | omega | (refine ⟨?_, ?_⟩ <;> omega))
        · skip
          (first | trivial | omega | (refine ⟨?_, ?_⟩ <;> omega))
    · intro   hR_17
      (first | trivial | omega | (refine ⟨?_, ?_⟩ <;> omega))
  · intro s0_18 r_s0_18 hR_18
    exact ⟨by omega, ⟨rfl, by first | trivial | omega | (refine ⟨?_, ?_⟩ <;> omega)⟩⟩
-- java/lang/String.length()I
set_option maxRecDepth 20000 in
theorem ct_288 {m : Mm}      : CK 2 288 [.ref (1100 + 1)] m (fun m2 v => m2 = m ∧ (v = 9)) := by
  refine br_288  ?_
  unfold P_288
  refine CK.mono (ct_292   ) (by decide) ?_
  rintro m6 v6 r_v6 ⟨e_m6, h_m6⟩
  replace e_m6 := e_m6.symm
  subst e_m6
  exact ⟨rfl, by (rw [h_m6]; decide)⟩
-- java/lang/StringLatin1.canEncode(I)Z
set_option maxRecDepth 20000 in
theorem ct_296 {m : Mm} {x0 : Int}   (r_x0 : rg x0)  : CK 1 296 [iv x0] m (fun m2 v => m2 = m ∧ ((v = 1 ∧ 0 ≤ x0 ∧ x0 ≤ 255) ∨ (v = 0 ∧ (x0 < 0 ∨ 255 < x0)))) := by
  refine br_296 r_x0 ?_
  unfold P_296
  refine ⟨fun s0_16 => (s0_16 = 1 ∧ 0 ≤ x0 ∧ x0 ≤ 255) ∨ (s0_16 = 0 ∧ (x0 < 0 ∨ 255 < x0)), ?_, ?_⟩
  · skip
    refine ⟨x0 < 0 ∨ 255 < x0, ?_, ?_⟩
    · skip
      refine ⟨fun hq => ?_, fun hq => ?_⟩
      · skip
        (first | trivial | omega | (refine ⟨?_, ?_⟩ <;> omega))
      · skip
        refine ⟨fun hq => ?_, fun hq => ?_⟩
        · skip
          (first | trivial | omega | (refine ⟨?_, ?_⟩ <;> omega))
        · skip
          (first | trivial | omega | (refine ⟨?_, ?_⟩ <;> omega))
    · intro   hR_15
      (first | trivial | omega | (refine ⟨?_, ?_⟩ <;> omega))
  · intro s0_16 r_s0_16 hR_16
    exact ⟨by omega, ⟨rfl, by first | trivial | omega | (refine ⟨?_, ?_⟩ <;> omega)⟩⟩
-- java/lang/StringLatin1.indexOfChar([BIII)I
set_option maxRecDepth 20000 in
theorem ct_298 {m : Mm} {x1 : Int} {x2 : Int} {x3 : Int}   (r_x1 : rg x1) (r_x2 : rg x2) (r_x3 : rg x3) (p0 : 0 ≤ x1 ∧ x1 ≤ 255) (p1 : x2 = 0) (p2 : x3 = 9) : CK 1 298 [.ref (1200 + 1), iv x1, iv x2, iv x3] m (fun m2 v => m2 = m ∧ ((v = -1 ∧ ¬ (x1 = 59 ∨ x1 = 61 ∨ x1 = 43 ∨ x1 = 45 ∨ x1 = 42 ∨ x1 = 47 ∨ x1 = 60 ∨ x1 = 40 ∨ x1 = 41)) ∨ (0 ≤ v ∧ v ≤ 8 ∧ (x1 = 59 ∨ x1 = 61 ∨ x1 = 43 ∨ x1 = 45 ∨ x1 = 42 ∨ x1 = 47 ∨ x1 = 60 ∨ x1 = 40 ∨ x1 = 41)))) := by
  refine br_298 r_x1 r_x2 r_x3 ?_
  unfold P_298
  have h9 := sy_9
  have hb := nb_v p0
  have nbf1 := nb_bd x1
  intro z4_2 e_z4_2
  have r_z4_2 : rg z4_2 := by rw [e_z4_2]; exact (nb_rg _)
  refine ⟨fun x5_7 => (0 ≤ x5_7 ∧ x5_7 ≤ 9) ∧ ∀ q : Int, 0 ≤ q → q < x5_7 → ¬ sy q = nb x1, fun x5_7 => Int.toNat (9 - x5_7), ?_, ?_⟩
  · exact ⟨by omega, fun q h1 h2 => by omega⟩
  · intro x5_7 r_x5_7 hI_7
    refine ⟨fun hq => ?_, fun hq => ?_⟩
    · skip
      exact ⟨rfl, by first | exact Or.inl ⟨rfl, sg_no hb (fun q h1 h2 => hI_7.2 q h1 (by omega))⟩ | exact Or.inr ⟨by omega, by omega, sg_in hb p0 (by omega : 0 ≤ x5_7 ∧ x5_7 ≤ 8) (by rw [← e_z4_2]; exact hq)⟩⟩
    · skip
      refine ⟨⟨by omega, by omega⟩, ?_⟩
      refine ⟨fun hq => ?_, fun hq => ?_⟩
      · skip
        try have w2 : wr (x5_7 + 1) = x5_7 + 1 := wr_id (by omega) (by omega)
        intro z5_25 e_z5_25
        have r_z5_25 : rg z5_25 := by rw [e_z5_25]; exact wr_rg _
        exact ⟨by exact ⟨by omega, fun q h1 h2 => by
            by_cases e : q = x5_7
            · rw [e, ← e_z4_2]; exact hq
            · exact hI_7.2 q h1 (by omega)⟩, by (try dsimp only); omega⟩
      · skip
        exact ⟨rfl, by first | exact Or.inl ⟨rfl, sg_no hb (fun q h1 h2 => hI_7.2 q h1 (by omega))⟩ | exact Or.inr ⟨by omega, by omega, sg_in hb p0 (by omega : 0 ≤ x5_7 ∧ x5_7 ≤ 8) (by rw [← e_z4_2]; exact hq)⟩⟩
-- java/lang/StringLatin1.indexOf([BIII)I
set_option maxRecDepth 20000 in
theorem ct_297 {m : Mm} {x1 : Int} {x2 : Int} {x3 : Int}   (r_x1 : rg x1) (r_x2 : rg x2) (r_x3 : rg x3) (p0 : 0 ≤ x1 ∧ x1 ≤ 255) (p1 : x2 = 0) (p2 : x3 = 9) : CK 2 297 [.ref (1200 + 1), iv x1, iv x2, iv x3] m (fun m2 v => m2 = m ∧ ((v = -1 ∧ ¬ (x1 = 59 ∨ x1 = 61 ∨ x1 = 43 ∨ x1 = 45 ∨ x1 = 42 ∨ x1 = 47 ∨ x1 = 60 ∨ x1 = 40 ∨ x1 = 41)) ∨ (0 ≤ v ∧ v ≤ 8 ∧ (x1 = 59 ∨ x1 = 61 ∨ x1 = 43 ∨ x1 = 45 ∨ x1 = 42 ∨ x1 = 47 ∨ x1 = 60 ∨ x1 = 40 ∨ x1 = 41)))) := by
  refine br_297 r_x1 r_x2 r_x3 ?_
  unfold P_297
  refine CK.mono (ct_296   r_x1) (by decide) ?_
  rintro m1 v1 r_v1 ⟨e_m1, h_m1⟩
  replace e_m1 := e_m1.symm
  subst e_m1
  refine ⟨fun hq => ?_, fun hq => ?_⟩
  · skip
    intro z2_14 e_z2_14
    have r_z2_14 : rg z2_14 := by rw [e_z2_14]; exact (mx_rg r_x2 (by unfold rg; decide))
    intro z3_21 e_z3_21
    have r_z3_21 : rg z3_21 := by rw [e_z3_21]; exact (mn_rg r_x3 (by unfold rg; decide))
    refine ⟨fun hq => ?_, fun hq => ?_⟩
    · skip
      refine CK.mono (ct_298   r_x1 r_z2_14 r_z3_21 (by omega) (by omega) (by omega)) (by decide) ?_
      rintro m33 v33 r_v33 ⟨e_m33, h_m33⟩
      replace e_m33 := e_m33.symm
      subst e_m33
      exact ⟨rfl, by first | trivial | omega | (refine ⟨?_, ?_⟩ <;> omega)⟩
    · skip
      exact ⟨rfl, by first | trivial | omega | (refine ⟨?_, ?_⟩ <;> omega)⟩
  · skip
    exact ⟨rfl, by first | trivial | omega | (refine ⟨?_, ?_⟩ <;> omega)⟩
-- java/lang/String.indexOf(II)I
set_option maxRecDepth 20000 in
theorem ct_291 {m : Mm} {x1 : Int} {x2 : Int}   (r_x1 : rg x1) (r_x2 : rg x2) (p0 : 0 ≤ x1 ∧ x1 ≤ 255) (p1 : x2 = 0) : CK 3 291 [.ref (1100 + 1), iv x1, iv x2] m (fun m2 v => m2 = m ∧ ((v = -1 ∧ ¬ (x1 = 59 ∨ x1 = 61 ∨ x1 = 43 ∨ x1 = 45 ∨ x1 = 42 ∨ x1 = 47 ∨ x1 = 60 ∨ x1 = 40 ∨ x1 = 41)) ∨ (0 ≤ v ∧ v ≤ 8 ∧ (x1 = 59 ∨ x1 = 61 ∨ x1 = 43 ∨ x1 = 45 ∨ x1 = 42 ∨ x1 = 47 ∨ x1 = 60 ∨ x1 = 40 ∨ x1 = 41)))) := by
  refine br_291 r_x1 r_x2 ?_
  unfold P_291
  refine CK.mono (ct_293   ) (by decide) ?_
  rintro m1 v1 r_v1 ⟨e_m1, h_m1⟩
  replace e_m1 := e_m1.symm
  subst e_m1
  refine ⟨fun hq => ?_, fun hq => ?_⟩
  · skip
    refine CK.mono (ct_288   ) (by decide) ?_
    rintro m30 v30 r_v30 ⟨e_m30, h_m30⟩
    replace e_m30 := e_m30.symm
    subst e_m30
    omega
  · skip
    refine CK.mono (ct_288   ) (by decide) ?_
    rintro m14 v14 r_v14 ⟨e_m14, h_m14⟩
    replace e_m14 := e_m14.symm
    subst e_m14
    refine CK.mono (ct_297   r_x1 r_x2 r_v14 (by omega) (by omega) (by omega)) (by decide) ?_
    rintro m17 v17 r_v17 ⟨e_m17, h_m17⟩
    replace e_m17 := e_m17.symm
    subst e_m17
    exact ⟨rfl, by first | trivial | omega | (refine ⟨?_, ?_⟩ <;> omega)⟩
-- java/lang/String.indexOf(I)I
set_option maxRecDepth 20000 in
theorem ct_290 {m : Mm} {x1 : Int}   (r_x1 : rg x1) (p0 : 0 ≤ x1 ∧ x1 ≤ 255) : CK 4 290 [.ref (1100 + 1), iv x1] m (fun m2 v => m2 = m ∧ ((v = -1 ∧ ¬ (x1 = 59 ∨ x1 = 61 ∨ x1 = 43 ∨ x1 = 45 ∨ x1 = 42 ∨ x1 = 47 ∨ x1 = 60 ∨ x1 = 40 ∨ x1 = 41)) ∨ (0 ≤ v ∧ v ≤ 8 ∧ (x1 = 59 ∨ x1 = 61 ∨ x1 = 43 ∨ x1 = 45 ∨ x1 = 42 ∨ x1 = 47 ∨ x1 = 60 ∨ x1 = 40 ∨ x1 = 41)))) := by
  refine br_290 r_x1 ?_
  unfold P_290
  refine CK.mono (ct_291   r_x1 (by unfold rg; decide) (by omega) (by omega)) (by decide) ?_
  rintro m3 v3 r_v3 ⟨e_m3, h_m3⟩
  replace e_m3 := e_m3.symm
  subst e_m3
  exact ⟨rfl, by first | trivial | omega | (refine ⟨?_, ?_⟩ <;> omega)⟩
-- TippedCrates$Tape.isBlank(I)Z
set_option maxRecDepth 20000 in
theorem ct_93 {m : Mm} {x0 : Int}   (r_x0 : rg x0)  : CK 1 93 [iv x0] m (fun m2 v => m2 = m ∧ ((v = 1 ∧ (x0 = 9 ∨ x0 = 10 ∨ x0 = 13 ∨ x0 = 32)) ∨ (v = 0 ∧ ¬ (x0 = 9 ∨ x0 = 10 ∨ x0 = 13 ∨ x0 = 32)))) := by
  refine br_93 r_x0 ?_
  unfold P_93
  refine ⟨fun s0_29 => (s0_29 = 1 ∧ (x0 = 9 ∨ x0 = 10 ∨ x0 = 13 ∨ x0 = 32)) ∨ (s0_29 = 0 ∧ ¬ (x0 = 9 ∨ x0 = 10 ∨ x0 = 13 ∨ x0 = 32)), ?_, ?_⟩
  · skip
    refine ⟨(x0 = 9 ∨ x0 = 10 ∨ x0 = 13 ∨ x0 = 32), ?_, ?_⟩
    · skip
      refine ⟨fun hq => ?_, fun hq => ?_⟩
      · skip
        (first | trivial | omega | (refine ⟨?_, ?_⟩ <;> omega))
      · skip
        refine ⟨fun hq => ?_, fun hq => ?_⟩
        · skip
          (first | trivial | omega | (refine ⟨?_, ?_⟩ <;> omega))
        · skip
          refine ⟨fun hq => ?_, fun hq => ?_⟩
          · skip
            (first | trivial | omega | (refine ⟨?_, ?_⟩ <;> omega))
          · skip
            refine ⟨fun hq => ?_, fun hq => ?_⟩
            · skip
              (first | trivial | omega | (refine ⟨?_, ?_⟩ <;> omega))
            · skip
              (first | trivial | omega | (refine ⟨?_, ?_⟩ <;> omega))
    · intro   hR_24
      (first | trivial | omega | (refine ⟨?_, ?_⟩ <;> omega))
  · intro s0_29 r_s0_29 hR_29
    exact ⟨by omega, ⟨rfl, by first | trivial | omega | (refine ⟨?_, ?_⟩ <;> omega)⟩⟩
-- TippedCrates$Tape.isLetter(I)Z
set_option maxRecDepth 20000 in
theorem ct_94 {m : Mm} {x0 : Int}   (r_x0 : rg x0)  : CK 1 94 [iv x0] m (fun m2 v => m2 = m ∧ ((v = 1 ∧ 97 ≤ x0 ∧ x0 ≤ 122) ∨ (v = 0 ∧ (x0 < 97 ∨ 122 < x0)))) := by
  refine br_94 r_x0 ?_
  unfold P_94
  refine ⟨fun s0_17 => (s0_17 = 1 ∧ 97 ≤ x0 ∧ x0 ≤ 122) ∨ (s0_17 = 0 ∧ (x0 < 97 ∨ 122 < x0)), ?_, ?_⟩
  · skip
    refine ⟨x0 < 97 ∨ 122 < x0, ?_, ?_⟩
    · skip
      refine ⟨fun hq => ?_, fun hq => ?_⟩
      · skip
        (first | trivial | omega | (refine ⟨?_, ?_⟩ <;> omega))
      · skip
        refine ⟨fun hq => ?_, fun hq => ?_⟩
        · skip
          (first | trivial | omega | (refine ⟨?_, ?_⟩ <;> omega))
        · skip
          (first | trivial | omega | (refine ⟨?_, ?_⟩ <;> omega))
    · intro   hR_16
      (first | trivial | omega | (refine ⟨?_, ?_⟩ <;> omega))
  · intro s0_17 r_s0_17 hR_17
    exact ⟨by omega, ⟨rfl, by first | trivial | omega | (refine ⟨?_, ?_⟩ <;> omega)⟩⟩
-- TippedCrates$Tape.isDigit(I)Z
set_option maxRecDepth 20000 in
theorem ct_95 {m : Mm} {x0 : Int}   (r_x0 : rg x0)  : CK 1 95 [iv x0] m (fun m2 v => m2 = m ∧ ((v = 1 ∧ 48 ≤ x0 ∧ x0 ≤ 57) ∨ (v = 0 ∧ (x0 < 48 ∨ 57 < x0)))) := by
  refine br_95 r_x0 ?_
  unfold P_95
  refine ⟨fun s0_17 => (s0_17 = 1 ∧ 48 ≤ x0 ∧ x0 ≤ 57) ∨ (s0_17 = 0 ∧ (x0 < 48 ∨ 57 < x0)), ?_, ?_⟩
  · skip
    refine ⟨x0 < 48 ∨ 57 < x0, ?_, ?_⟩
    · skip
      refine ⟨fun hq => ?_, fun hq => ?_⟩
      · skip
        (first | trivial | omega | (refine ⟨?_, ?_⟩ <;> omega))
      · skip
        refine ⟨fun hq => ?_, fun hq => ?_⟩
        · skip
          (first | trivial | omega | (refine ⟨?_, ?_⟩ <;> omega))
        · skip
          (first | trivial | omega | (refine ⟨?_, ?_⟩ <;> omega))
    · intro   hR_16
      (first | trivial | omega | (refine ⟨?_, ?_⟩ <;> omega))
  · intro s0_17 r_s0_17 hR_17
    exact ⟨by omega, ⟨rfl, by first | trivial | omega | (refine ⟨?_, ?_⟩ <;> omega)⟩⟩
-- TippedCrates$Tape.withLetter(JI)J
set_option maxRecDepth 20000 in
theorem ct_92 {m : Mm} {x0 : Int} {x2 : Int}   (r_x0 : rgl x0) (r_x2 : rg x2) (p0 : 97 ≤ x2 ∧ x2 ≤ 122) : CL 1 92 [lv x0, iv x2] m (fun m2 v => m2 = m ∧ (v = wrl (wrl (wrl (wrl (x0 * 27) + x2) - 97) + 1))) := by
  refine br_92 r_x0 r_x2 ?_
  unfold P_92
  try have w1 : wrl (x0 * 27) = x0 * 27 := wrl_id (by omega) (by omega)
  try have w2 : wrl ((wrl (x0 * 27)) + x2) = (wrl (x0 * 27)) + x2 := wrl_id (by omega) (by omega)
  try have w3 : wrl ((wrl ((wrl (x0 * 27)) + x2)) - 97) = (wrl ((wrl (x0 * 27)) + x2)) - 97 := wrl_id (by omega) (by omega)
  try have w4 : wrl ((wrl ((wrl ((wrl (x0 * 27)) + x2)) - 97)) + 1) = (wrl ((wrl ((wrl (x0 * 27)) + x2)) - 97)) + 1 := wrl_id (by omega) (by omega)
  exact ⟨rfl, by rfl⟩
-- TippedCrates$Tape.kindOf(J)I
set_option maxRecDepth 20000 in
theorem ct_90 {m : Mm} {x1 : Int}  (T_m : Ty m) (r_x1 : rgl x1)  : CK 1 90 [.ref 1, lv x1] m (fun m2 v => m2 = m ∧ (0 ≤ v ∧ v ≤ 21)) := by
  refine br_90 r_x1 ?_
  unfold P_90
  refine ⟨fun x3_2 => 0 ≤ x3_2 ∧ x3_2 ≤ 21, fun x3_2 => Int.toNat (21 - x3_2), ?_, ?_⟩
  · (first | omega | (refine ⟨?_, ?_⟩ <;> omega) | trivial)
  · intro x3_2 r_x3_2 hI_2
    refine ⟨fun hq => ?_, fun hq => ?_⟩
    · skip
      exact ⟨rfl, by first | trivial | omega | (refine ⟨?_, ?_⟩ <;> omega)⟩
    · skip
      refine ⟨⟨by omega, by omega⟩, ?_⟩
      refine ⟨fun hq => ?_, fun hq => ?_⟩
      · skip
        try have w1 : wr (x3_2 + 1) = x3_2 + 1 := wr_id (by omega) (by omega)
        intro z3_21 e_z3_21
        have r_z3_21 : rg z3_21 := by rw [e_z3_21]; exact wr_rg _
        exact ⟨by first | omega | (refine ⟨?_, ?_⟩ <;> omega) | trivial, by (try dsimp only); omega⟩
      · skip
        exact ⟨rfl, by first | trivial | omega | (refine ⟨?_, ?_⟩ <;> omega)⟩
-- TippedCrates$Tape.cutLetters(I)V
set_option maxRecDepth 20000 in
theorem ct_89 {m0 m : Mm} {x1 : Int}  (g_m : CX m0 m) (r_x1 : rg x1) (p0 : 0 ≤ x1 ∧ x1 ≤ 400) (p1 : tkOk m) : CV 2 89 [.ref 1, iv x1] m (fun m2 => CX m0 m2 ∧ (tkOk m2)) := by
  refine br_89 r_x1 ?_
  unfold P_89
  have tn := ty_1_6 g_m.1
  refine ⟨fun x2_4 x3_4 m_4 => CX m0 m_4 ∧ ((0 ≤ x2_4 ∧ x2_4 ≤ rd m_4 1 6) ∧ tkOk m_4), fun x2_4 x3_4 m_4 => Int.toNat (2000 - rd m_4 1 6), ?_, ?_⟩
  · exact ⟨g_m, by exact ⟨by omega, p1⟩⟩
  · intro x2_4 x3_4 m_4 r_x2_4 r_x3_4 hI_4
    obtain ⟨g_m_4, hI_4⟩ := hI_4
    have ts4 := ty_1_0 g_m_4.1
    have tn4 := ty_1_6 g_m_4.1
    have t1 := ty_1_0 g_m_4.1
    have t2 := ty_1_6 g_m_4.1
    refine ⟨fun m_70 => CX m0 m_70 ∧ (tkOk m_70), ?_, ?_⟩
    · skip
      refine ⟨fun hq => ?_, fun hq => ?_⟩
      · skip
        exact ⟨g_m_4, by exact hI_4.2⟩
      · skip
        refine ⟨⟨by omega, by omega⟩, ?_⟩
        have t3 := ty_5 g_m_4.1 (Int.toNat (rd m_4 1 6))
        refine CK.mono (ct_94   (rd_rg _ _ _)) (by decide) ?_
        rintro m24 v24 r_v24 ⟨e_m24, h_m24⟩
        replace e_m24 := e_m24.symm
        subst e_m24
        refine ⟨fun hq => ?_, fun hq => ?_⟩
        · skip
          exact ⟨g_m_4, by exact hI_4.2⟩
        · skip
          refine ⟨fun s0_53 m_53 => CX m0 m_53 ∧ (rd m_53 1 6 = rd m_4 1 6 ∧ rd m_53 1 0 = rd m_4 1 0 ∧ tkOk m_53), ?_, ?_⟩
          · skip
            refine ⟨fun hq => ?_, fun hq => ?_⟩
            · skip
              exact ⟨g_m_4, by exact ⟨rfl, rfl, hI_4.2⟩⟩
            · skip
              refine ⟨⟨by omega, by omega⟩, ?_⟩
              refine CL.mono (ct_92   r_x3_4 (rd_rg _ _ _) (by omega)) (by decide) ?_
              rintro m46 v46 r_v46 ⟨e_m46, h_m46⟩
              replace e_m46 := e_m46.symm
              subst e_m46
              exact ⟨g_m_4, by exact ⟨rfl, rfl, hI_4.2⟩⟩
          · intro s0_53 m_53 r_s0_53 hR_53
            obtain ⟨g_m_53, hR_53⟩ := hR_53
            try have w4 : wr (x2_4 + 1) = x2_4 + 1 := wr_id (by omega) (by omega)
            intro z2_54 e_z2_54
            have r_z2_54 : rg z2_54 := by rw [e_z2_54]; exact wr_rg _
            have t5 := ty_1_6 g_m_53.1
            try have w6 : wr ((rd m_53 1 6) + 1) = (rd m_53 1 6) + 1 := wr_id (by omega) (by omega)
            intro m64 e_m64
            have g_m64 : CX m0 m64 := by rw [e_m64]; exact CX.wt g_m_53 (tw_1_6 g_m_53.1 ⟨by omega, by omega⟩) (Eq.refl true)
            have n64 : rd m64 1 6 = rd m_53 1 6 + 1 := by rw [e_m64, rd_wt, if_pos ⟨rfl, rfl⟩, wr_i (wr_rg _), wr_id (by omega) (by omega)]
            have s64 : rd m64 1 0 = rd m_53 1 0 := by rw [e_m64, rd_wt, if_neg (by omega)]
            have k64 : tkOk m64 := by rw [e_m64]; exact tk_wt hR_53.2.2 (by omega)
            exact ⟨⟨g_m64, by exact ⟨by omega, k64⟩⟩, by (try dsimp only); omega⟩
    · intro m_70  hR_70
      obtain ⟨g_m_70, hR_70⟩ := hR_70
      refine ⟨⟨by omega, by omega⟩, ?_⟩
      intro m76 e_m76
      have g_m76 : CX m0 m76 := by rw [e_m76]; exact CX.wl g_m_70
      have x76 : tkX m76 x1 := by rw [e_m76]; exact tkX_wl hR_70 p0.1
      refine ⟨fun s2_98 m_98 => CX m0 m_98 ∧ (¬ s2_98 = 22 ∧ tkX m_98 x1), ?_, ?_⟩
      · skip
        refine ⟨fun hq => ?_, fun hq => ?_⟩
        · skip
          refine CK.mono (ct_90   g_m76.1 r_x3_4) (by decide) ?_
          rintro m95 v95 r_v95 ⟨e_m95, h_m95⟩
          replace e_m95 := e_m95.symm
          subst e_m95
          exact ⟨g_m76, by exact ⟨by omega, x76⟩⟩
        · skip
          exact ⟨g_m76, by exact ⟨by omega, x76⟩⟩
      · intro s2_98 m_98 r_s2_98 hR_98
        obtain ⟨g_m_98, hR_98⟩ := hR_98
        refine ⟨⟨by omega, by omega⟩, ?_⟩
        intro m98 e_m98
        have g_m98 : CX m0 m98 := by rw [e_m98]; exact CX.wt g_m_98 (tw_2 g_m_98.1 (by first | assumption | omega)) (Eq.refl true)
        have k98 : tkOk m98 := by rw [e_m98]; exact tkX_wt hR_98.2 r_s2_98 hR_98.1 p0
        exact ⟨g_m98, by exact k98⟩
-- TippedCrates$Tape.cutDigits(I)V
set_option maxRecDepth 20000 in
theorem ct_91 {m0 m : Mm} {x1 : Int}  (g_m : CX m0 m) (r_x1 : rg x1) (p0 : 0 ≤ x1 ∧ x1 ≤ 400) (p1 : tkOk m) : CV 2 91 [.ref 1, iv x1] m (fun m2 => CX m0 m2 ∧ (tkOk m2)) := by
  refine br_91 r_x1 ?_
  unfold P_91
  have tn := ty_1_6 g_m.1
  refine ⟨fun x2_4 x3_4 m_4 => CX m0 m_4 ∧ ((0 ≤ x2_4 ∧ x2_4 ≤ rd m_4 1 6) ∧ (0 ≤ x3_4 ∧ (x2_4 ≤ 0 → x3_4 ≤ 0) ∧ (x2_4 ≤ 1 → x3_4 ≤ 9) ∧ (x2_4 ≤ 2 → x3_4 ≤ 99) ∧ (x2_4 ≤ 3 → x3_4 ≤ 999) ∧ x3_4 ≤ 9999) ∧ tkOk m_4), fun x2_4 x3_4 m_4 => Int.toNat (2000 - rd m_4 1 6), ?_, ?_⟩
  · exact ⟨g_m, by exact ⟨by omega, by omega, p1⟩⟩
  · intro x2_4 x3_4 m_4 r_x2_4 r_x3_4 hI_4
    obtain ⟨g_m_4, hI_4⟩ := hI_4
    have ts4 := ty_1_0 g_m_4.1
    have tn4 := ty_1_6 g_m_4.1
    have t1 := ty_1_0 g_m_4.1
    have t2 := ty_1_6 g_m_4.1
    refine ⟨fun m_76 => CX m0 m_76 ∧ (tkOk m_76), ?_, ?_⟩
    · skip
      refine ⟨fun hq => ?_, fun hq => ?_⟩
      · skip
        exact ⟨g_m_4, by exact hI_4.2.2⟩
      · skip
        refine ⟨⟨by omega, by omega⟩, ?_⟩
        have t3 := ty_5 g_m_4.1 (Int.toNat (rd m_4 1 6))
        refine CK.mono (ct_95   (rd_rg _ _ _)) (by decide) ?_
        rintro m24 v24 r_v24 ⟨e_m24, h_m24⟩
        replace e_m24 := e_m24.symm
        subst e_m24
        refine ⟨fun hq => ?_, fun hq => ?_⟩
        · skip
          exact ⟨g_m_4, by exact hI_4.2.2⟩
        · skip
          refine ⟨fun s0_59 => 0 ≤ s0_59 ∧ ((x2_4 + 1) ≤ 0 → s0_59 ≤ 0) ∧ ((x2_4 + 1) ≤ 1 → s0_59 ≤ 9) ∧ ((x2_4 + 1) ≤ 2 → s0_59 ≤ 99) ∧ ((x2_4 + 1) ≤ 3 → s0_59 ≤ 999) ∧ s0_59 ≤ 9999, ?_, ?_⟩
          · skip
            refine ⟨fun hq => ?_, fun hq => ?_⟩
            · skip
              (omega)
            · skip
              refine ⟨⟨by omega, by omega⟩, ?_⟩
              try have w4 : wrl (x3_4 * 10) = x3_4 * 10 := wrl_id (by omega) (by omega)
              try have w5 : wrl ((wrl (x3_4 * 10)) + (rd m_4 5 (Int.toNat (rd m_4 1 6)))) = (wrl (x3_4 * 10)) + (rd m_4 5 (Int.toNat (rd m_4 1 6))) := wrl_id (by omega) (by omega)
              try have w6 : wrl ((wrl ((wrl (x3_4 * 10)) + (rd m_4 5 (Int.toNat (rd m_4 1 6))))) - 48) = (wrl ((wrl (x3_4 * 10)) + (rd m_4 5 (Int.toNat (rd m_4 1 6))))) - 48 := wrl_id (by omega) (by omega)
              (omega)
          · intro s0_59 r_s0_59 hR_59
            try have w7 : wr (x2_4 + 1) = x2_4 + 1 := wr_id (by omega) (by omega)
            intro z2_60 e_z2_60
            have r_z2_60 : rg z2_60 := by rw [e_z2_60]; exact wr_rg _
            try have w8 : wr ((rd m_4 1 6) + 1) = (rd m_4 1 6) + 1 := wr_id (by omega) (by omega)
            intro m70 e_m70
            have g_m70 : CX m0 m70 := by rw [e_m70]; exact CX.wt g_m_4 (tw_1_6 g_m_4.1 ⟨by omega, by omega⟩) (Eq.refl true)
            have n70 : rd m70 1 6 = rd m_4 1 6 + 1 := by rw [e_m70, rd_wt, if_pos ⟨rfl, rfl⟩, wr_i (wr_rg _), wr_id (by omega) (by omega)]
            have s70 : rd m70 1 0 = rd m_4 1 0 := by rw [e_m70, rd_wt, if_neg (by omega)]
            have k70 : tkOk m70 := by rw [e_m70]; exact tk_wt hI_4.2.2 (by omega)
            exact ⟨⟨g_m70, by exact ⟨by omega, by omega, k70⟩⟩, by (try dsimp only); omega⟩
    · intro m_76  hR_76
      obtain ⟨g_m_76, hR_76⟩ := hR_76
      refine ⟨⟨by omega, by omega⟩, ?_⟩
      intro m82 e_m82
      have g_m82 : CX m0 m82 := by rw [e_m82]; exact CX.wl g_m_76
      have x82 : tkOk m82 := by rw [e_m82]; exact tk_wl hR_76 (by omega)
      refine ⟨fun s2_100 => (s2_100 = 22 ∨ s2_100 = 24), ?_, ?_⟩
      · skip
        refine ⟨fun hq => ?_, fun hq => ?_⟩
        · skip
          (first | trivial | omega | (refine ⟨?_, ?_⟩ <;> omega))
        · skip
          (first | trivial | omega | (refine ⟨?_, ?_⟩ <;> omega))
      · intro s2_100 r_s2_100 hR_100
        refine ⟨⟨by omega, by omega⟩, ?_⟩
        intro m100 e_m100
        have g_m100 : CX m0 m100 := by rw [e_m100]; exact CX.wt g_m82 (tw_2 g_m82.1 (by first | assumption | omega)) (Eq.refl true)
        have k100 : tkOk m100 := by rw [e_m100]; exact tk_w2 x82 r_s2_100 p0 (by rw [e_m82, ld_wl, if_pos ⟨rfl, rfl⟩, wrl_id (by omega) (by omega)]; omega)
        exact ⟨g_m100, by exact k100⟩
-- TippedCrates$Tape.cutToken(I)V
set_option maxRecDepth 20000 in
theorem ct_88 {m0 m : Mm} {x1 : Int}  (g_m : CX m0 m) (r_x1 : rg x1) (p0 : 0 ≤ x1 ∧ x1 ≤ 400) (p1 : tkOk m) (p2 : rd m 1 6 < rd m 1 0) : CV 5 88 [.ref 1, iv x1] m (fun m2 => CX m0 m2 ∧ (tkOk m2)) := by
  refine br_88 r_x1 ?_
  unfold P_88
  have ts := ty_1_0 g_m.1
  have t1 := ty_1_6 g_m.1
  refine ⟨⟨by omega, by omega⟩, ?_⟩
  have t2 := ty_5 g_m.1 (Int.toNat (rd m 1 6))
  intro z2_13 e_z2_13
  have r_z2_13 : rg z2_13 := by rw [e_z2_13]; exact (io_rg _ _ _)
  have hz : 0 ≤ z2_13 ∧ z2_13 ≤ 255 := by rw [e_z2_13]; exact an255 _
  have hc : ncI z2_13 = z2_13 := nc_id hz
  refine CK.mono (ct_94   r_z2_13) (by decide) ?_
  rintro m15 v15 r_v15 ⟨e_m15, h_m15⟩
  replace e_m15 := e_m15.symm
  subst e_m15
  refine ⟨fun m_76 => CX m0 m_76 ∧ (tkOk m_76), ?_, ?_⟩
  · skip
    refine ⟨fun hq => ?_, fun hq => ?_⟩
    · skip
      refine CK.mono (ct_95   r_z2_13) (by decide) ?_
      rintro m30 v30 r_v30 ⟨e_m30, h_m30⟩
      replace e_m30 := e_m30.symm
      subst e_m30
      refine ⟨fun hq => ?_, fun hq => ?_⟩
      · skip
        refine CK.mono (ct_290   (i1o_rg _ _) (by rw [hc]; exact hz)) (by decide) ?_
        rintro m53 v53 r_v53 ⟨e_m53, h_m53⟩
        replace e_m53 := e_m53.symm
        subst e_m53
        refine ⟨fun s2_65 => ¬ s2_65 = 22, ?_, ?_⟩
        · skip
          refine ⟨fun hq => ?_, fun hq => ?_⟩
          · skip
            (omega)
          · skip
            (omega)
        · intro s2_65 r_s2_65 hR_65
          refine ⟨⟨by omega, by omega⟩, ?_⟩
          intro m65 e_m65
          have g_m65 : CX m0 m65 := by rw [e_m65]; exact CX.wt g_m (tw_2 g_m.1 (by first | assumption | omega)) (Eq.refl true)
          have k65 : tkOk m65 := by rw [e_m65]; exact tkX_wt (tkX_of p1) r_s2_65 hR_65 p0
          have n65 : rd m65 1 6 = rd m 1 6 := by rw [e_m65, rd_wt, if_neg (by omega)]
          have t3 := ty_1_6 g_m65.1
          try have w4 : wr ((rd m65 1 6) + 1) = (rd m65 1 6) + 1 := wr_id (by omega) (by omega)
          intro m73 e_m73
          have g_m73 : CX m0 m73 := by rw [e_m73]; exact CX.wt g_m65 (tw_1_6 g_m65.1 ⟨by omega, by omega⟩) (Eq.refl true)
          have k73 : tkOk m73 := by rw [e_m73]; exact tk_wt k65 (by omega)
          exact ⟨g_m73, by first | exact k73 | exact h_m38 | exact h_m23⟩
      · skip
        refine CV.mono (ct_91   g_m r_x1 (by omega) p1) (by decide) ?_
        rintro m38 ⟨g_m38, h_m38⟩
        exact ⟨g_m38, by first | exact k73 | exact h_m38 | exact h_m23⟩
    · skip
      refine CV.mono (ct_89   g_m r_x1 (by omega) p1) (by decide) ?_
      rintro m23 ⟨g_m23, h_m23⟩
      exact ⟨g_m23, by first | exact k73 | exact h_m38 | exact h_m23⟩
  · intro m_76  hR_76
    obtain ⟨g_m_76, hR_76⟩ := hR_76
    exact ⟨g_m_76, by exact hR_76⟩
-- TippedCrates$Tape.cutIntoTokens()V
set_option maxRecDepth 20000 in
theorem ct_87 {m0 m : Mm}   (g_m : CX m0 m)  (p0 : tkOk m) : CV 6 87 [.ref 1] m (fun m2 => CX m0 m2 ∧ (tkOk m2)) := by
  refine br_87  ?_
  unfold P_87
  intro m2 e_m2
  have g_m2 : CX m0 m2 := by rw [e_m2]; exact CX.wt g_m (tw_1_6 g_m.1 ⟨by omega, by omega⟩) (Eq.refl true)
  have k2 : tkOk m2 := by rw [e_m2]; exact tk_wt p0 (by omega)
  refine ⟨fun x1_7 m_7 => CX m0 m_7 ∧ ((0 ≤ x1_7 ∧ x1_7 ≤ 401) ∧ tkOk m_7), fun x1_7 m_7 => Int.toNat (401 - x1_7), ?_, ?_⟩
  · exact ⟨g_m2, by exact ⟨by omega, k2⟩⟩
  · intro x1_7 m_7 r_x1_7 hI_7
    obtain ⟨g_m_7, hI_7⟩ := hI_7
    refine ⟨fun hq => ?_, fun hq => ?_⟩
    · skip
      exact ⟨g_m_7, by first | exact hI_7.2 | exact k81⟩
    · skip
      refine ⟨fun m_14 => CX m0 m_14 ∧ (tkOk m_14), fun m_14 => Int.toNat (2000 - rd m_14 1 6), ?_, ?_⟩
      · exact ⟨g_m_7, by exact hI_7.2⟩
      · intro m_14  hI_14
        obtain ⟨g_m_14, hI_14⟩ := hI_14
        have ts14 := ty_1_0 g_m_14.1
        have tn14 := ty_1_6 g_m_14.1
        have t1 := ty_1_0 g_m_14.1
        have t2 := ty_1_6 g_m_14.1
        refine ⟨fun m_53 => CX m0 m_53 ∧ (tkOk m_53), ?_, ?_⟩
        · skip
          refine ⟨fun hq => ?_, fun hq => ?_⟩
          · skip
            exact ⟨g_m_14, by exact hI_14⟩
          · skip
            refine ⟨⟨by omega, by omega⟩, ?_⟩
            have t3 := ty_5 g_m_14.1 (Int.toNat (rd m_14 1 6))
            refine CK.mono (ct_93   (rd_rg _ _ _)) (by decide) ?_
            rintro m34 v34 r_v34 ⟨e_m34, h_m34⟩
            replace e_m34 := e_m34.symm
            subst e_m34
            refine ⟨fun hq => ?_, fun hq => ?_⟩
            · skip
              exact ⟨g_m_14, by exact hI_14⟩
            · skip
              try have w4 : wr ((rd m_14 1 6) + 1) = (rd m_14 1 6) + 1 := wr_id (by omega) (by omega)
              intro m47 e_m47
              have g_m47 : CX m0 m47 := by rw [e_m47]; exact CX.wt g_m_14 (tw_1_6 g_m_14.1 ⟨by omega, by omega⟩) (Eq.refl true)
              have n47 : rd m47 1 6 = rd m_14 1 6 + 1 := by rw [e_m47, rd_wt, if_pos ⟨rfl, rfl⟩, wr_i (wr_rg _), wr_id (by omega) (by omega)]
              have s47 : rd m47 1 0 = rd m_14 1 0 := by rw [e_m47, rd_wt, if_neg (by omega)]
              have k47 : tkOk m47 := by rw [e_m47]; exact tk_wt hI_14 (by omega)
              exact ⟨⟨g_m47, by exact k47⟩, by (try dsimp only); omega⟩
        · intro m_53  hR_53
          obtain ⟨g_m_53, hR_53⟩ := hR_53
          refine ⟨⟨by omega, by omega⟩, ?_⟩
          have t5 := ty_1_6 g_m_53.1
          intro m62 e_m62
          have g_m62 : CX m0 m62 := by rw [e_m62]; exact CX.wt g_m_53 (tw_3 g_m_53.1 (rd_rg _ _ _)) (Eq.refl true)
          have k62 : tkOk m62 := by rw [e_m62]; exact tk_wt hR_53 (by omega)
          have t6 := ty_1_6 g_m62.1
          have t7 := ty_1_0 g_m62.1
          refine ⟨fun hq => ?_, fun hq => ?_⟩
          · skip
            refine CV.mono (ct_88   g_m62 r_x1_7 (by omega) k62 (by omega)) (by decide) ?_
            rintro m85 ⟨g_m85, h_m85⟩
            try have w8 : wr (x1_7 + 1) = x1_7 + 1 := wr_id (by omega) (by omega)
            intro z1_88 e_z1_88
            have r_z1_88 : rg z1_88 := by rw [e_z1_88]; exact wr_rg _
            exact ⟨⟨g_m85, by exact ⟨by omega, h_m85⟩⟩, by (try dsimp only); omega⟩
          · skip
            refine ⟨⟨by omega, by omega⟩, ?_⟩
            intro m81 e_m81
            have g_m81 : CX m0 m81 := by rw [e_m81]; exact CX.wt g_m62 (tw_2 g_m62.1 (by first | assumption | omega)) (Eq.refl true)
            have k81 : tkOk m81 := by rw [e_m81]; exact tkX_wt (tkX_of k62) ⟨by omega, by omega⟩ (by omega) ⟨by omega, by omega⟩
            exact ⟨g_m81, by first | exact hI_7.2 | exact k81⟩
-- TippedCrates$Tape.push(I)V
set_option maxRecDepth 20000 in
theorem ct_86 {m : Mm} {x1 : Int}  (T_m : Ty m) (r_x1 : rg x1) (p0 : rd m 1 0 ≤ 1996) : CV 1 86 [.ref 1, iv x1] m (fun m2 => GX sPu m m2 ∧ (rd m2 1 0 = rd m 1 0 + 4)) := by
  refine br_86 r_x1 ?_
  unfold P_86
  have g_m : GX sPu m m := ⟨T_m, fun _ _ _ => rfl, fun _ _ => rfl⟩
  refine ⟨fun x2_3 m_3 => GX sPu m m_3 ∧ ((x2_3 = 24 ∨ x2_3 = 16 ∨ x2_3 = 8 ∨ x2_3 = 0 ∨ x2_3 = -8) ∧ 8 * rd m_3 1 0 + x2_3 = 8 * rd m 1 0 + 24), fun x2_3 m_3 => Int.toNat (x2_3 + 8), ?_, ?_⟩
  · exact ⟨g_m, by first | omega | (refine ⟨?_, ?_⟩ <;> omega) | trivial⟩
  · intro x2_3 m_3 r_x2_3 hI_3
    obtain ⟨g_m_3, hI_3⟩ := hI_3
    refine ⟨2000 ≤ rd m_3 1 0 ∨ x2_3 < 0, ?_, ?_⟩
    · skip
      refine ⟨fun hq => ?_, fun hq => ?_⟩
      · skip
        (first | trivial | omega | (refine ⟨?_, ?_⟩ <;> omega))
      · skip
        have t1 := ty_1_0 g_m_3.1
        refine ⟨fun hq => ?_, fun hq => ?_⟩
        · skip
          (first | trivial | omega | (refine ⟨?_, ?_⟩ <;> omega))
        · skip
          refine ⟨⟨by omega, by omega⟩, ?_⟩
          have nbf2 := nb_bd (srI x1 x2_3)
          have nbf3 := nb_bd (nb (srI x1 x2_3))
          intro m29 e_m29
          have g_m29 : GX sPu m m29 := by rw [e_m29]; exact GX.wt g_m_3 (tw_5 g_m_3.1 ⟨by omega, by omega⟩) (Eq.refl true)
          have n29 : rd m29 1 0 = rd m_3 1 0 := by rw [e_m29, rd_wt, if_neg (by omega)]
          have t4 := ty_1_0 g_m29.1
          try have w5 : wr ((rd m29 1 0) + 1) = (rd m29 1 0) + 1 := wr_id (by omega) (by omega)
          intro m37 e_m37
          have g_m37 : GX sPu m m37 := by rw [e_m37]; exact GX.wt g_m29 (tw_1_0 g_m29.1 ⟨by omega, by omega⟩) (Eq.refl true)
          have n37 : rd m37 1 0 = rd m29 1 0 + 1 := by rw [e_m37, rd_wt, if_pos ⟨rfl, rfl⟩, wr_i (wr_rg _), wr_id (by omega) (by omega)]
          try have w6 : wr (x2_3 + (-8)) = x2_3 + (-8) := wr_id (by omega) (by omega)
          intro z2_40 e_z2_40
          have r_z2_40 : rg z2_40 := by rw [e_z2_40]; exact wr_rg _
          exact ⟨⟨g_m37, by first | omega | (refine ⟨?_, ?_⟩ <;> omega) | trivial⟩, by (try dsimp only); omega⟩
    · intro   hR_46
      exact ⟨g_m_3, by first | trivial | omega | (refine ⟨?_, ?_⟩ <;> omega)⟩
