def mw (w : Int) : Int := if w = 40 then 6 else if w = 43 then 8 else if w = 45 then 9 else if w = 42 then 10 else 15
def mkc (c : Int) : Int := if c < 2 then c else c - 2
/-- the model's rows hold the codes; its waiting signs -/
def sgM (m : Mm) : Int → Rp → Prop
  | _, [] => True
  | a, x :: L => rd m 314 (Int.toNat a) = mkc x.1 ∧ rd m 315 (Int.toNat a) = x.2 ∧ sgM m (a + 1) L
def wtM (m : Mm) : List Int → Prop
  | [] => True
  | w :: W => (isOp w ∨ w = 40) ∧ rd m 316 W.length = mw w ∧ wtM m W
theorem sgM_app {m : Mm} : ∀ {L L2 : Rp} {a : Int}, sgM m a (L ++ L2) ↔ sgM m a L ∧ sgM m (a + L.length) L2
  | [], L2, a => by
    show sgM m a L2 ↔ True ∧ sgM m (a + ((0 : Nat) : Int)) L2
    rw [show a + ((0 : Nat) : Int) = a by omega]
    exact ⟨fun h => ⟨trivial, h⟩, fun h => h.2⟩
  | x :: L, L2, a => by
    show (rd m 314 (Int.toNat a) = mkc x.1 ∧ rd m 315 (Int.toNat a) = x.2 ∧ sgM m (a + 1) (L ++ L2)) ↔ (rd m 314 (Int.toNat a) = mkc x.1 ∧ rd m 315 (Int.toNat a) = x.2 ∧ sgM m (a + 1) L) ∧ sgM m (a + ((L.length + 1 : Nat) : Int)) L2
    rw [sgM_app (L := L) (L2 := L2) (a := a + 1), show a + ((L.length + 1 : Nat) : Int) = a + 1 + (L.length : Int) by omega]
    exact ⟨fun h => ⟨⟨h.1, h.2.1, h.2.2.1⟩, h.2.2.2⟩, fun h => ⟨h.1.1, h.1.2.1, h.1.2.2, h.2⟩⟩
theorem sgM_fr {m m2 : Mm} : ∀ {L : Rp} {a : Int}, (0 ≤ a) → (∀ i j : Nat, (i = 314 ∨ i = 315) → a ≤ j → (j : Int) < a + L.length → rd m2 i j = rd m i j) → sgM m a L → sgM m2 a L
  | [], _, _, _, _ => trivial
  | x :: L, a, ha, f, h => by
    have fl : ((x :: L).length : Int) = L.length + 1 := by simp
    exact ⟨(f 314 (Int.toNat a) (by omega) (by omega) (by omega)).trans h.1, (f 315 (Int.toNat a) (by omega) (by omega) (by omega)).trans h.2.1, sgM_fr (a := a + 1) (by omega) (fun i j h0 h1 h2 => f i j h0 (by omega) (by omega)) h.2.2⟩
theorem wtM_fr {m m2 : Mm} : ∀ {W : List Int}, (∀ j : Nat, j < W.length → rd m2 316 j = rd m 316 j) → wtM m W → wtM m2 W
  | [], _, _ => trivial
  | w :: W, f, h => ⟨h.1, (f W.length (by simp)).trans h.2.1, wtM_fr (W := W) (fun j q => f j (by simp; omega)) h.2.2⟩
theorem mw_6 {w : Int} (h : isOp w ∨ w = 40) : mw w = 6 ↔ w = 40 := by
  unfold mw
  unfold isOp at h
  rcases h with (rfl | rfl | rfl | rfl) | rfl <;> decide
theorem mw_o {w : Int} (h : isOp w) : (mw w = 8 ↔ w = 43) ∧ (mw w = 9 ↔ w = 45) ∧ (mw w = 10 ↔ w = 42) ∧ (mw w = 15 ↔ w = 47) := by
  unfold isOp at h
  rcases h with rfl | rfl | rfl | rfl <;> decide
theorem km_wq {c k : Int} (h : kmR c k) (o : isOp c) : k = mw c := by
  have u := km_u h
  have w := mw_o o
  unfold isOp at o
  rcases h with ⟨rfl, rfl⟩ | ⟨rfl, rfl⟩ | ⟨rfl, rfl⟩ | ⟨rfl, rfl⟩ | ⟨h1, h2, rfl⟩ | ⟨rfl, rfl⟩ | ⟨rfl, rfl⟩ | ⟨rfl, rfl⟩ | ⟨rfl, rfl⟩ | ⟨rfl, rfl⟩ | ⟨rfl, rfl⟩ | ⟨rfl, rfl⟩ | ⟨rfl, rfl⟩ | ⟨rfl, rfl⟩
  all_goals first | rfl | (exfalso; omega)
/-- what comesOut leaves -/
def coX (m m2 : Mm) (st : Bool) (W : List Int) : Prop := wtM m2 (po st W).1 ∧ rd m2 284 48 = ((po st W).1.length : Int) ∧ rd m2 284 44 = rd m 284 44 + ((po st W).2.length : Int) ∧ sgM m2 (rd m 284 44) (po st W).2
def coI (m m2 : Mm) (st : Bool) (W : List Int) : Prop := ∃ (W1 : List Int) (O : Rp), wtM m2 W1 ∧ rd m2 284 48 = (W1.length : Int) ∧ rd m2 284 44 = rd m 284 44 + (O.length : Int) ∧ sgM m2 (rd m 284 44) O ∧ po st W = ((po st W1).1, O ++ (po st W1).2)
theorem coI_0 {m : Mm} {st : Bool} {W : List Int} (h : wtM m W) (n : rd m 284 48 = (W.length : Int)) : coI m m st W := ⟨W, [], h, n, by simp, trivial, by simp⟩
theorem coI_s {m m0 m49 m85 : Mm} {x1 z s : Int} {W : List Int} (h : coI m m0 (decide (¬ x1 = 0)) W) (hw : 0 < rd m0 284 48) (h64 : rd m0 284 48 ≤ 64) (ez : z = rd m0 316 (Int.toNat (rd m0 284 48 - 1))) (n6 : ¬ z = 6) (ns : x1 = 0 ∨ ¬ (z = 8 ∨ z = 9)) (hs : (z = 8 ∧ s = 2) ∨ (z = 9 ∧ s = 3) ∨ (z = 10 ∧ s = 4) ∨ (¬ z = 8 ∧ ¬ z = 9 ∧ ¬ z = 10 ∧ s = 5)) (e : m49 = wt m0 284 48 (wr (rd m0 284 48 - 1))) (em : emRel m49 m85 s 0) (u : 0 ≤ rd m 284 44 ∧ rd m 284 44 ≤ 840) (_u0 : 0 ≤ rd m0 284 44 ∧ rd m0 284 44 ≤ 840) : coI m m85 (decide (¬ x1 = 0)) W := by
  obtain ⟨W1, O, a1, a2, a3, a4, a5⟩ := h
  cases W1 with
  | nil => simp at a2; omega
  | cons w W2 =>
    obtain ⟨b1, b2, b3⟩ := a1
    have n : ((w :: W2).length : Int) = W2.length + 1 := by simp
    have en : Int.toNat (rd m0 284 48 - 1) = W2.length := by omega
    rw [en, b2] at ez
    obtain ⟨c1, c2, c3, c4⟩ := em
    have f48 : rd m49 284 48 = rd m0 284 48 - 1 := by rw [e, rd_wt, if_pos ⟨rfl, rfl⟩, wr_i (wr_rg _), wr_id (by omega) (by omega)]
    have f44 : rd m49 284 44 = rd m0 284 44 := by rw [e, rd_wt, if_neg (by omega)]
    have fo : ∀ i j : Nat, ¬ i = 284 → rd m49 i j = rd m0 i j := fun i j q => by rw [e, rd_wt, if_neg (by omega)]
    rw [f44] at c1 c2 c3
    have w40 : ¬ w = 40 := fun q => n6 (ez.trans ((mw_6 b1).mpr q))
    have wo : isOp w := by
      rcases b1 with q | q
      · exact q
      · exact absurd q w40
    have mo := mw_o wo
    have pe : po (decide (¬ x1 = 0)) (w :: W2) = ((po (decide (¬ x1 = 0)) W2).1, (opc w, 0) :: (po (decide (¬ x1 = 0)) W2).2) := by
      show (if w = 40 ∨ (decide (¬ x1 = 0) = true ∧ (w = 43 ∨ w = 45)) then _ else _) = _
      rw [if_neg (by rw [decide_eq_true_eq]; omega)]
    have sk : s = mkc (opc w) := by
      unfold isOp at wo
      rcases wo with rfl | rfl | rfl | rfl
      · have : z = 8 := ez
        show s = 2; omega
      · have : z = 9 := ez
        show s = 3; omega
      · have : z = 10 := ez
        show s = 4; omega
      · have : z = 15 := ez
        show s = 5; omega
    have nO : ((O ++ [(opc w, 0)]).length : Int) = O.length + 1 := by simp
    refine ⟨W2, O ++ [(opc w, 0)], wtM_fr (fun j q => (c4 316 j (by omega) (by omega)).trans (fo 316 j (by omega))) b3, ?_, by omega, sgM_app.mpr ⟨sgM_fr u.1 (fun i j q q1 q2 => (c4 i j (by omega) (by omega)).trans (fo i j (by omega))) a4, ?_, ?_, trivial⟩, ?_⟩
    · rw [c4 284 48 (by omega) (by omega), f48]; omega
    · rw [← a3, c2]; exact sk
    · rw [← a3, c3]
    · rw [a5, pe]; simp
theorem coI_e {m m2 : Mm} {x1 : Int} {W : List Int} (h : coI m m2 (decide (¬ x1 = 0)) W) (c : rd m2 284 48 ≤ 0 ∨ (0 < rd m2 284 48 ∧ (rd m2 316 (Int.toNat (rd m2 284 48 - 1)) = 6 ∨ (¬ x1 = 0 ∧ (rd m2 316 (Int.toNat (rd m2 284 48 - 1)) = 8 ∨ rd m2 316 (Int.toNat (rd m2 284 48 - 1)) = 9))))) : coX m m2 (decide (¬ x1 = 0)) W := by
  obtain ⟨W1, O, a1, a2, a3, a4, a5⟩ := h
  have pe : po (decide (¬ x1 = 0)) W1 = (W1, []) := by
    cases W1 with
    | nil => rfl
    | cons w W2 =>
      obtain ⟨b1, b2, b3⟩ := a1
      have n : ((w :: W2).length : Int) = W2.length + 1 := by simp
      have en : Int.toNat (rd m2 284 48 - 1) = W2.length := by omega
      rcases c with c | ⟨-, c⟩
      · omega
      · rw [en, b2] at c
        show (if w = 40 ∨ (decide (¬ x1 = 0) = true ∧ (w = 43 ∨ w = 45)) then _ else _) = _
        rw [if_pos]
        rw [decide_eq_true_eq]
        rcases c with c | ⟨c0, c⟩
        · exact Or.inl ((mw_6 b1).mp c)
        · rcases b1 with q | q
          · have := mw_o q
            exact Or.inr ⟨c0, by omega⟩
          · exact Or.inl q
  rw [pe] at a5
  have e1 : (po (decide (¬ x1 = 0)) W).1 = W1 := by rw [a5]
  have e2 : (po (decide (¬ x1 = 0)) W).2 = O := by rw [a5]; simp
  unfold coX
  rw [e1, e2]
  exact ⟨a1, a2, a3, a4⟩
/-- a unit's code -/
def unX (m m2 : Mm) : Prop := rd m2 284 13 = 0 → (rd m 287 (Int.toNat (rd m 284 11)) = 2 ∧ rd m2 314 (Int.toNat (rd m 284 44)) = 0 ∧ rd m2 315 (Int.toNat (rd m 284 44)) = rd m 289 (Int.toNat (rd m 284 11))) ∨ ((32 ≤ rd m 287 (Int.toNat (rd m 284 11)) ∧ rd m 287 (Int.toNat (rd m 284 11)) ≤ 40) ∧ rd m2 314 (Int.toNat (rd m 284 44)) = 1 ∧ rd m2 315 (Int.toNat (rd m 284 44)) = rd m 287 (Int.toNat (rd m 284 11)) - 32)
theorem unX_m {m m1 m2 : Mm} {a b : Int} (h : (rd m 287 (Int.toNat (rd m 284 11)) = 2 ∧ a = 0 ∧ b = rd m 289 (Int.toNat (rd m 284 11))) ∨ ((32 ≤ rd m 287 (Int.toNat (rd m 284 11)) ∧ rd m 287 (Int.toNat (rd m 284 11)) ≤ 40) ∧ a = 1 ∧ b = rd m 287 (Int.toNat (rd m 284 11)) - 32)) (e : emRel m m1 a b) (f : GX sFt m1 m2) : unX m m2 := fun _ => by
  obtain ⟨-, c2, c3, -⟩ := e
  rw [f.2.1 314 _ rfl, f.2.1 315 _ rfl, c2, c3]
  rcases h with ⟨h1, h2, h3⟩ | ⟨h1, h2, h3⟩
  · exact Or.inl ⟨h1, h2, h3⟩
  · exact Or.inr ⟨h1, h2, h3⟩
/-- an expression under way: what is written and what waits, against the function of the tokens -/
def emI (K V : Int → Int) (m m1 : Mm) (s : Int) : Prop := rd m1 284 13 = 0 → ∃ (O : Rp) (W : List Int), wtM m1 W ∧ rd m1 284 48 = (W.length : Int) ∧ rd m1 284 44 = rd m 284 44 + (O.length : Int) ∧ sgM m1 (rd m 284 44) O ∧ EM K V (rd m 284 11) 0 0 [] = O ++ EM K V (rd m1 284 11) (rd m1 284 12) s W
def emN (K V : Int → Int) (m m1 : Mm) : Prop := rd m1 284 13 = 0 → (∃ (O : Rp) (W : List Int), wtM m1 W ∧ rd m1 284 48 = (W.length : Int) ∧ rd m1 284 44 = rd m 284 44 + (O.length : Int) ∧ sgM m1 (rd m 284 44) O ∧ EM K V (rd m 284 11) 0 0 [] = O ++ EM K V (rd m1 284 11) (rd m1 284 12) 1 W) ∧ ¬ isOp (K (rd m1 284 11)) ∧ ¬ (K (rd m1 284 11) = 41 ∧ 0 < rd m1 284 12)
def exM (K V : Int → Int) (m m2 : Mm) : Prop := rd m2 284 13 = 0 → rd m2 284 44 = rd m 284 44 + ((EM K V (rd m 284 11) 0 0 []).length : Int) ∧ sgM m2 (rd m 284 44) (EM K V (rd m 284 11) 0 0 [])
theorem em_0 {m m2 : Mm} {K V : Int → Int} (e : m2 = wt m 284 48 0) (ho : rd m 284 12 = 0) : emI K V m m2 0 := fun _ => by
  have f : ∀ j, ¬ j = 48 → rd m2 284 j = rd m 284 j := fun j q => by rw [e, rd_wt, if_neg (fun w => q w.2)]
  refine ⟨[], [], trivial, by rw [e, rd_wt, if_pos ⟨rfl, rfl⟩]; rfl, by rw [f 44 (by omega)]; simp, trivial, ?_⟩
  rw [f 11 (by omega), f 12 (by omega), ho]
  rfl
theorem em_k {m0 m m1 : Mm} {N s : Int} (tk : tkN m0 N) (h : auI m0 m m1 N s) (g : PX m0 m1) (z : rd m1 284 13 = 0) : rd m1 284 11 ≤ 400 ∧ kmR (kC m0 (rd m1 284 11)) (rd m1 287 (Int.toNat (rd m1 284 11))) := by
  obtain ⟨⟨a1, a2, a3⟩, a4⟩ := h.1 z
  rw [g.2.1 287 (Int.toNat (rd m1 284 11)) (inP_no (by omega) (by omega))]
  exact ⟨a3, (tkN_k tk a1 a2 a3).1⟩
theorem tkN_v {m : Mm} {N t : Int} (h : tkN m N) (h1 : 0 ≤ t) (h2 : t ≤ N) (h4 : t ≤ 400) (k : kC m t = 22) : rd m 289 (Int.toNat t) = vC m t := by
  by_cases e : t < N
  · exact (h.2.1 (Int.toNat t) (by omega)).1.2.2.1 k
  · have := (h.2.2.1 (by omega)).2
    have e2 : Int.toNat N = Int.toNat t := by omega
    rw [e2] at this
    have k2 : rd m 2 (Int.toNat t) = 22 := k
    omega
theorem em_open {m0 m m1 m78 : Mm} {N : Int} (tk : tkN m0 N) (a : auI m0 m m1 N 0) (h : emI (kC m0) (vC m0) m m1 0) (g : PX m0 m1) (z : rd m1 284 13 = 0) (k6 : rd m1 287 (Int.toNat (rd m1 284 11)) = 6) (fr : ∀ i j : Nat, ¬ (i = 284 ∧ (j = 11 ∨ j = 12 ∨ j = 13 ∨ j = 14 ∨ j = 48)) → ¬ (i = 316 ∧ (j : Int) = rd m1 284 48) → rd m78 i j = rd m1 i j) (ew : rd m78 284 48 = rd m1 284 48 + 1) (e12 : rd m78 284 12 = rd m1 284 12 + 1) (e6 : rd m78 316 (Int.toNat (rd m1 284 48)) = 6) (et : rd m78 284 13 = 0 → rd m78 284 11 = rd m1 284 11 + 1) (u : 0 ≤ rd m 284 44 ∧ rd m 284 44 ≤ 840) : emI (kC m0) (vC m0) m m78 0 := fun z2 => by
  obtain ⟨t4, kr⟩ := em_k tk a g z
  have k40 : kC m0 (rd m1 284 11) = 40 := (km_u kr).2.1.mp k6
  obtain ⟨O, W, b1, b2, b3, b4, b5⟩ := h z
  have n : ((40 :: W).length : Int) = W.length + 1 := by simp
  have c := fr 284 44 (by omega) (by omega)
  refine ⟨O, 40 :: W, ⟨Or.inr rfl, ?_, wtM_fr (fun j q => fr 316 j (by omega) (by omega)) b1⟩, by omega, by omega, sgM_fr u.1 (fun i j q q1 q2 => fr i j (by omega) (by omega)) b4, ?_⟩
  · rw [show W.length = Int.toNat (rd m1 284 48) by omega, e6]; rfl
  · rw [b5, EM_o t4 k40, et z2, e12]
theorem em_unit {m0 m m1 m2 : Mm} {N : Int} (tk : tkN m0 N) (a : auI m0 m m1 N 0) (h : emI (kC m0) (vC m0) m m1 0) (g : PX m0 m1) (n6 : rd m1 284 13 = 0 → ¬ rd m1 287 (Int.toNat (rd m1 284 11)) = 6) (un : unRel m1 m2) (ux : unX m1 m2) (u : 0 ≤ rd m 284 44 ∧ rd m 284 44 ≤ 840) : emI (kC m0) (vC m0) m m2 1 := fun z2 => by
  obtain ⟨z, t1, c1, -⟩ := un.1 z2
  have fr := un.2.2.2.2
  obtain ⟨t4, kr⟩ := em_k tk a g z
  have ra := (a.1 z).1
  have e9 := g.2.1 289 (Int.toNat (rd m1 284 11)) (inP_no (by omega) (by omega))
  obtain ⟨O, W, b1, b2, b3, b4, b5⟩ := h z
  have n : ((O ++ [uc (kC m0) (vC m0) (rd m1 284 11)]).length : Int) = O.length + 1 := by simp
  have isu : isU (kC m0 (rd m1 284 11)) := (km_u kr).1.mp (by
    rcases ux z2 with ⟨q, -⟩ | ⟨q, -⟩
    · exact Or.inl q
    · exact Or.inr q)
  refine ⟨O ++ [uc (kC m0) (vC m0) (rd m1 284 11)], W, wtM_fr (fun j q => fr 316 j (by omega) (by omega)) b1, (fr 284 48 (by omega) (by omega)).trans b2, by omega, sgM_app.mpr ⟨sgM_fr u.1 (fun i j q q1 q2 => fr i j (by omega) (by omega)) b4, ?_⟩, ?_⟩
  · rw [← b3]
    rcases ux z2 with ⟨q1, q2, q3⟩ | ⟨q1, q2, q3⟩
    · have k22 : kC m0 (rd m1 284 11) = 22 := by
        rcases kr with ⟨_, r⟩ | ⟨_, r⟩ | ⟨r, _⟩ | ⟨_, r⟩ | ⟨_, _, r⟩ | ⟨_, r⟩ | ⟨_, r⟩ | ⟨_, r⟩ | ⟨_, r⟩ | ⟨_, r⟩ | ⟨_, r⟩ | ⟨_, r⟩ | ⟨_, r⟩ | ⟨_, r⟩
        all_goals omega
      rw [uc_i k22 rfl]
      exact ⟨q2, by rw [q3, e9]; exact tkN_v tk ra.1 ra.2.1 t4 k22, trivial⟩
    · have kv : kC m0 (rd m1 284 11) = rd m1 287 (Int.toNat (rd m1 284 11)) - 20 ∧ ¬ kC m0 (rd m1 284 11) = 22 := by
        rcases kr with ⟨_, r⟩ | ⟨_, r⟩ | ⟨_, r⟩ | ⟨_, r⟩ | ⟨r1, r2, r⟩ | ⟨_, r⟩ | ⟨_, r⟩ | ⟨_, r⟩ | ⟨_, r⟩ | ⟨_, r⟩ | ⟨_, r⟩ | ⟨_, r⟩ | ⟨_, r⟩ | ⟨_, r⟩
        all_goals omega
      rw [uc_v kv.2 rfl]
      exact ⟨q2, by rw [q3]; show _ = kC m0 (rd m1 284 11) - 12; omega, trivial⟩
  · rw [b5, EM_u t4 isu, t1, fr 284 12 (by omega) (by omega)]
    simp
theorem em_close {m0 m m1 m115 m139 : Mm} {N x1 : Int} (tk : tkN m0 N) (a : auI m0 m m1 N 1) (h : emI (kC m0) (vC m0) m m1 1) (g : PX m0 m1) (z : rd m1 284 13 = 0) (k7 : rd m1 287 (Int.toNat (rd m1 284 11)) = 7) (hd : 0 < rd m1 284 12) (co : ∀ W, wtM m1 W → rd m1 284 48 = (W.length : Int) → coX m1 m115 (decide (¬ x1 = 0)) W) (hx : decide (¬ x1 = 0) = false) (_a11 : rd m115 284 11 = rd m1 284 11) (ps : 0 < rd m115 284 48) (fr : ∀ i j : Nat, ¬ (i = 284 ∧ (j = 11 ∨ j = 12 ∨ j = 13 ∨ j = 14 ∨ j = 48)) → rd m139 i j = rd m115 i j) (ew : rd m139 284 48 = rd m115 284 48 - 1) (e12 : rd m139 284 12 = rd m115 284 12 - 1) (o115 : rd m115 284 12 = rd m1 284 12) (et : rd m139 284 13 = 0 → rd m139 284 11 = rd m1 284 11 + 1) (u : 0 ≤ rd m 284 44 ∧ rd m 284 44 ≤ 840) (cf : ∀ i j : Nat, ¬ (i = 284 ∧ (j = 44 ∨ j = 48)) → ¬ ((i = 314 ∨ i = 315) ∧ rd m1 284 44 ≤ (j : Int)) → rd m115 i j = rd m1 i j) : emI (kC m0) (vC m0) m m139 1 := fun z2 => by
  obtain ⟨t4, kr⟩ := em_k tk a g z
  have k41 : kC m0 (rd m1 284 11) = 41 := (km_u kr).2.2.1.mp k7
  obtain ⟨O, W, b1, b2, b3, b4, b5⟩ := h z
  obtain ⟨c1, c2, c3, c4⟩ := co W b1 b2
  rw [hx] at c1 c2 c3 c4
  have n : ((O ++ (po false W).2).length : Int) = O.length + (po false W).2.length := by simp
  have c := fr 284 44 (by omega)
  cases hp : (po false W).1 with
  | nil => rw [hp] at c2; simp at c2; omega
  | cons w W2 =>
    rw [hp] at c1 c2
    have n2 : ((w :: W2).length : Int) = W2.length + 1 := by simp
    refine ⟨O ++ (po false W).2, W2, wtM_fr (fun j q => fr 316 j (by omega)) c1.2.2, by omega, by omega, sgM_app.mpr ⟨sgM_fr u.1 (fun i j q q1 q2 => (fr i j (by omega)).trans (cf i j (by omega) (by omega))) b4, ?_⟩, ?_⟩
    · rw [← b3]
      exact sgM_fr (by omega) (fun i j q q1 q2 => fr i j (by omega)) c4
    · rw [b5, EM_c t4 k41 hd, hp, et z2, e12, o115]
      simp
theorem em_oper {m0 m m1 m234 m266 : Mm} {N x1 : Int} (tk : tkN m0 N) (a : auI m0 m m1 N 1) (h : emI (kC m0) (vC m0) m m1 1) (g : PX m0 m1) (z : rd m1 284 13 = 0) (ko : oM (rd m1 287 (Int.toNat (rd m1 284 11)))) (co : ∀ W, wtM m1 W → rd m1 284 48 = (W.length : Int) → coX m1 m234 (decide (¬ x1 = 0)) W) (hx : decide (¬ x1 = 0) = decide (rd m1 287 (Int.toNat (rd m1 284 11)) = 10 ∨ rd m1 287 (Int.toNat (rd m1 284 11)) = 15)) (t11 : rd m234 284 11 = rd m1 284 11) (k234 : rd m234 287 (Int.toNat (rd m234 284 11)) = rd m1 287 (Int.toNat (rd m1 284 11))) (fr : ∀ i j : Nat, ¬ (i = 284 ∧ (j = 11 ∨ j = 12 ∨ j = 13 ∨ j = 14 ∨ j = 48)) → ¬ (i = 316 ∧ (j : Int) = rd m234 284 48) → rd m266 i j = rd m234 i j) (ew : rd m266 284 48 = rd m234 284 48 + 1) (e12 : rd m266 284 12 = rd m234 284 12) (o234 : rd m234 284 12 = rd m1 284 12) (s266 : rd m266 316 (Int.toNat (rd m234 284 48)) = rd m234 287 (Int.toNat (rd m234 284 11))) (et : rd m266 284 13 = 0 → rd m266 284 11 = rd m1 284 11 + 1) (u : 0 ≤ rd m 284 44 ∧ rd m 284 44 ≤ 840) (cf : ∀ i j : Nat, ¬ (i = 284 ∧ (j = 44 ∨ j = 48)) → ¬ ((i = 314 ∨ i = 315) ∧ rd m1 284 44 ≤ (j : Int)) → rd m234 i j = rd m1 i j) : emI (kC m0) (vC m0) m m266 0 := fun z2 => by
  obtain ⟨t4, kr⟩ := em_k tk a g z
  have kp : isOp (kC m0 (rd m1 284 11)) := (km_u kr).2.2.2.1.mp ko
  have kw := km_wq kr kp
  have mo := mw_o kp
  obtain ⟨O, W, b1, b2, b3, b4, b5⟩ := h z
  obtain ⟨c1, c2, c3, c4⟩ := co W b1 b2
  have sx : decide (¬ x1 = 0) = stg (kC m0 (rd m1 284 11)) := by
    rw [hx]
    unfold stg
    rw [kw]
    by_cases q : kC m0 (rd m1 284 11) = 42 ∨ kC m0 (rd m1 284 11) = 47
    · rw [decide_eq_true q, decide_eq_true (by omega)]
    · rw [decide_eq_false q, decide_eq_false (by omega)]
  rw [sx] at c1 c2 c3 c4
  have n : ((O ++ (po (stg (kC m0 (rd m1 284 11))) W).2).length : Int) = O.length + (po (stg (kC m0 (rd m1 284 11))) W).2.length := by simp
  have n2 : ((kC m0 (rd m1 284 11) :: (po (stg (kC m0 (rd m1 284 11))) W).1).length : Int) = (po (stg (kC m0 (rd m1 284 11))) W).1.length + 1 := by simp
  have c := fr 284 44 (by omega) (by omega)
  refine ⟨O ++ (po (stg (kC m0 (rd m1 284 11))) W).2, kC m0 (rd m1 284 11) :: (po (stg (kC m0 (rd m1 284 11))) W).1, ⟨Or.inl kp, ?_, wtM_fr (fun j q => fr 316 j (by omega) (by omega)) c1⟩, by omega, by omega, sgM_app.mpr ⟨sgM_fr u.1 (fun i j q q1 q2 => (fr i j (by omega) (by omega)).trans (cf i j (by omega) (by omega))) b4, ?_⟩, ?_⟩
  · rw [show (po (stg (kC m0 (rd m1 284 11))) W).1.length = Int.toNat (rd m234 284 48) by omega, s266, k234, kw]
  · rw [← b3]
    exact sgM_fr (by omega) (fun i j q q1 q2 => fr i j (by omega) (by omega)) c4
  · rw [b5, EM_p t4 kp, et z2, e12, o234]
    simp
theorem em_n {m0 m m1 : Mm} {N : Int} (tk : tkN m0 N) (a : auI m0 m m1 N 1) (h : emI (kC m0) (vC m0) m m1 1) (g : PX m0 m1) (no : rd m1 284 13 = 0 → ¬ oM (rd m1 287 (Int.toNat (rd m1 284 11)))) (hd : ¬ 0 < rd m1 284 12) : emN (kC m0) (vC m0) m m1 := fun z => by
  obtain ⟨t4, kr⟩ := em_k tk a g z
  exact ⟨h z, fun q => no z ((km_u kr).2.2.2.1.mpr q), fun q => hd q.2⟩
theorem em_e {m0 m m1 m2 : Mm} {N x s a : Int} (_tk : tkN m0 N) (h : emN (kC m0) (vC m0) m m1) (co : ∀ W, wtM m1 W → rd m1 284 48 = (W.length : Int) → coX m1 m2 (decide (¬ x = 0)) W) (cr : coRel m1 m2 s a) (u : 0 ≤ rd m 284 44 ∧ rd m 284 44 ≤ 840) (hx : decide (¬ x = 0) = false := by decide) (tyN : 0 ≤ rd m1 284 11 ∧ rd m1 284 11 ≤ 400) : exM (kC m0) (vC m0) m m2 := fun z2 => by
  have f := cr.2.2.2.2
  have z : rd m1 284 13 = 0 := (f 284 13 (by omega) (by omega)).symm.trans z2
  obtain ⟨⟨O, W, b1, b2, b3, b4, b5⟩, no, nc⟩ := h z
  obtain ⟨-, -, c3, c4⟩ := co W b1 b2
  rw [hx] at c3 c4
  have e : EM (kC m0) (vC m0) (rd m 284 11) 0 0 [] = O ++ (po false W).2 := by rw [b5, EM_z tyN.2 nc no]
  have n : ((O ++ (po false W).2).length : Int) = O.length + (po false W).2.length := by simp
  rw [e]
  exact ⟨by omega, sgM_app.mpr ⟨sgM_fr u.1 (fun i j q q1 q2 => f i j (by omega) (by omega)) b4, by rw [← b3]; exact c4⟩⟩
-- TippedCratesModel.comesOut(Z)V
set_option maxRecDepth 20000 in
theorem mz_198 {m0 m : Mm} {x1 : Int} {a : Int} (g_m : PX m0 m) (r_x1 : rg x1) (p0 : exI m (rd m0 284 19) a 1) : CV 2 198 [.ref 284, iv x1] m (fun m2 => PX m0 m2 ∧ (((coRel m m2 (rd m0 284 19) a ∧ coTop m2 x1) ∧ (lf m m2)) ∧ (∀ W, wtM m W → rd m 284 48 = (W.length : Int) → coX m m2 (decide (¬ x1 = 0)) W))) := by
  refine br_198 r_x1 ?_
  unfold P_198
  have hs := PX.s g_m
  refine ⟨fun m_0 => PX m0 m_0 ∧ (((coRel m m_0 (rd m0 284 19) a) ∧ (lf m m_0)) ∧ (∀ W, wtM m W → rd m 284 48 = (W.length : Int) → coI m m_0 (decide (¬ x1 = 0)) W)), fun m_0 => Int.toNat (rd m_0 284 48), ?_, ?_⟩
  · exact ⟨g_m, by exact ⟨by exact ⟨by exact co_refl p0, by exact lf_r _⟩, by exact fun W h n => coI_0 h n⟩⟩
  · intro m_0  hI_0
    obtain ⟨g_m_0, hI_0⟩ := hI_0
    obtain ⟨hI_0, dI_0⟩ := hI_0
    obtain ⟨hI_0, cI_0⟩ := hI_0
    have t48 := ty_284_48 g_m_0.1
    have t11 := ty_284_11 g_m_0.1
    have eb := exI_b hI_0.1
    have t1 := ty_284_48 g_m_0.1
    refine ⟨fun hq => ?_, fun hq => ?_⟩
    · skip
      exact ⟨g_m_0, by exact ⟨by exact ⟨by first | exact ⟨hI_0, Or.inl (by omega)⟩ | exact ⟨hI_0, Or.inr ⟨by omega, by rw [← ez]; omega⟩⟩, by exact cI_0⟩, by first | exact fun W h n => coI_e (dI_0 W h n) (Or.inl (by omega)) | exact fun W h n => coI_e (dI_0 W h n) (Or.inr ⟨hR_41.1, by rw [← ez]; exact hR_41.2⟩)⟩⟩
    · skip
      try have w2 : wr ((rd m_0 284 48) - 1) = (rd m_0 284 48) - 1 := wr_id (by omega) (by omega)
      refine ⟨⟨by omega, by omega⟩, ?_⟩
      intro z2_18 e_z2_18
      have r_z2_18 : rg z2_18 := by rw [e_z2_18]; exact (rd_rg _ _ _)
      have ez : z2_18 = rd m_0 316 (Int.toNat (rd m_0 284 48 - 1)) := by rw [e_z2_18, wr_id (by omega) (by omega)]
      refine ⟨0 < rd m_0 284 48 ∧ (z2_18 = 6 ∨ (¬ x1 = 0 ∧ (z2_18 = 8 ∨ z2_18 = 9))), ?_, ?_⟩
      · skip
        refine ⟨fun hq => ?_, fun hq => ?_⟩
        · skip
          (first | trivial | omega | (refine ⟨?_, ?_⟩ <;> omega))
        · skip
          refine ⟨¬ z2_18 = 6 ∧ (x1 = 0 ∨ ¬ (z2_18 = 8 ∨ z2_18 = 9)), ?_, ?_⟩
          · skip
            refine ⟨fun hq => ?_, fun hq => ?_⟩
            · skip
              (first | trivial | omega | (refine ⟨?_, ?_⟩ <;> omega))
            · skip
              refine ⟨fun hq => ?_, fun hq => ?_⟩
              · skip
                (first | trivial | omega | (refine ⟨?_, ?_⟩ <;> omega))
              · skip
                refine ⟨fun hq => ?_, fun hq => ?_⟩
                · skip
                  (first | trivial | omega | (refine ⟨?_, ?_⟩ <;> omega))
                · skip
                  (first | trivial | omega | (refine ⟨?_, ?_⟩ <;> omega))
          · intro   hR_42
            intro m49 e_m49
            have g_m49 : PX m0 m49 := by rw [e_m49]; exact PX.wt g_m_0 (tw_284_48 g_m_0.1 ⟨by omega, by omega⟩) (inP_284 (by omega))
            have c49 : rd m49 284 44 = rd m_0 284 44 := by rw [e_m49, rd_wt, if_neg (by omega)]
            refine ⟨fun s1_84 => (z2_18 = 8 ∧ s1_84 = 2) ∨ (z2_18 = 9 ∧ s1_84 = 3) ∨ (z2_18 = 10 ∧ s1_84 = 4) ∨ (¬ z2_18 = 8 ∧ ¬ z2_18 = 9 ∧ ¬ z2_18 = 10 ∧ s1_84 = 5), ?_, ?_⟩
            · skip
              refine ⟨fun hq => ?_, fun hq => ?_⟩
              · skip
                refine ⟨fun hq => ?_, fun hq => ?_⟩
                · skip
                  refine ⟨fun hq => ?_, fun hq => ?_⟩
                  · skip
                    (first | trivial | omega | (refine ⟨?_, ?_⟩ <;> omega))
                  · skip
                    (first | trivial | omega | (refine ⟨?_, ?_⟩ <;> omega))
                · skip
                  (first | trivial | omega | (refine ⟨?_, ?_⟩ <;> omega))
              · skip
                (first | trivial | omega | (refine ⟨?_, ?_⟩ <;> omega))
            · intro s1_84 r_s1_84 hR_84
              refine CV.mono (my_197   g_m49 r_s1_84 (by unfold rg; decide) (by omega) (by omega) (by omega)) (by decide) ?_
              rintro m85 ⟨g_m85, h_m85⟩
              obtain ⟨h_m85, l_m85⟩ := h_m85
              have co := co_out hI_0 (by omega) (by omega) (by omega) e_m49 h_m85 (by omega)
              have ci85 : ∀ W, wtM m W → rd m 284 48 = (W.length : Int) → coI m m85 (decide (¬ x1 = 0)) W := fun W h n => coI_s (dI_0 W h n) (by omega) (by omega) ez hR_42.1 hR_42.2 hR_84 e_m49 h_m85 (ty_284_44 g_m.1) (ty_284_44 g_m_0.1)
              have co2 := co.2
              exact ⟨⟨g_m85, by exact ⟨by exact ⟨by exact co.1, by exact (cI_0.trans (lf_wt e_m49)).trans l_m85⟩, by exact ci85⟩⟩, by (try dsimp only); omega⟩
      · intro   hR_41
        exact ⟨g_m_0, by exact ⟨by exact ⟨by first | exact ⟨hI_0, Or.inl (by omega)⟩ | exact ⟨hI_0, Or.inr ⟨by omega, by rw [← ez]; omega⟩⟩, by exact cI_0⟩, by first | exact fun W h n => coI_e (dI_0 W h n) (Or.inl (by omega)) | exact fun W h n => coI_e (dI_0 W h n) (Or.inr ⟨hR_41.1, by rw [← ez]; exact hR_41.2⟩)⟩⟩
-- TippedCratesModel.unit()V
set_option maxRecDepth 20000 in
theorem mz_200 {m0 m : Mm}   (g_m : PX m0 m)  (p0 : 0 ≤ rd m 284 13) (p1 : rd m 284 13 = 0 → 420 * rd m0 284 19 ≤ rd m 284 44 ∧ rd m 284 44 - 420 * rd m0 284 19 ≤ rd m 284 11) : CV 3 200 [.ref 284] m (fun m2 => PX m0 m2 ∧ ((((unRel m m2) ∧ (unA m m2)) ∧ (lf m m2)) ∧ (unX m m2))) := by
  refine br_200  ?_
  unfold P_200
  have hs := PX.s g_m
  have tt := ty_284_11 g_m.1
  refine CK.mono (ct_180   g_m.1 (by unfold rg; decide)) (by decide) ?_
  rintro m2 v2 r_v2 ⟨e_m2, h_m2⟩
  replace e_m2 := e_m2.symm
  subst e_m2
  refine ⟨fun m_93 => PX m0 m_93 ∧ ((((unRel m m_93) ∧ (unA m m_93)) ∧ (lf m m_93)) ∧ (unX m m_93)), ?_, ?_⟩
  · skip
    refine ⟨fun hq => ?_, fun hq => ?_⟩
    · skip
      refine ⟨rd m 284 13 = 0 → ¬ uM (rd m 287 (Int.toNat (rd m 284 11))), ?_, ?_⟩
      · skip
        refine ⟨fun hq => ?_, fun hq => ?_⟩
        · skip
          ((unfold uM; omega))
        · skip
          have t2 := ty_284_11 g_m.1
          refine ⟨⟨by omega, by omega⟩, ?_⟩
          have t3 := ty_287 g_m.1 (Int.toNat (rd m 284 11))
          refine ⟨fun hq => ?_, fun hq => ?_⟩
          · skip
            ((unfold uM; omega))
          · skip
            refine ⟨⟨by omega, by omega⟩, ?_⟩
            refine ⟨fun hq => ?_, fun hq => ?_⟩
            · skip
              ((unfold uM; omega))
            · skip
              refine ⟨⟨by omega, by omega⟩, ?_⟩
              try have w4 : wr ((rd m 287 (Int.toNat (rd m 284 11))) - 32) = (rd m 287 (Int.toNat (rd m 284 11))) - 32 := wr_id (by omega) (by omega)
              refine CV.mono (my_197   g_m (by unfold rg; decide) (wr_rg _) (by omega) (by omega) (by omega)) (by decide) ?_
              rintro m78 ⟨g_m78, h_m78⟩
              obtain ⟨h_m78, l_m78⟩ := h_m78
              have f78 : rd m78 284 13 = rd m 284 13 := h_m78.2.2.2 284 13 (by omega) (by omega)
              refine CV.mono (ct_183   g_m78.1 (by omega)) (by decide) ?_
              rintro m82 ⟨hx_m82, h_m82⟩
              have g_m82 : PX m0 m82 := PX.ft g_m78 hx_m82
              exact ⟨g_m82, by exact ⟨by exact ⟨by exact ⟨by first | exact un_em (Or.inl rfl) (by omega) h_m19 hx_m23 h_m23 | exact un_em (Or.inr ⟨rfl, by omega⟩) (by omega) h_m78 hx_m82 h_m82 | exact un_fail p0 hx_m90 h_m90, by first | exact un_a1 (by omega) (Or.inl (by omega)) h_m19 h_m23 | exact un_a1 (by omega) (Or.inr (by omega)) h_m78 h_m82 | exact un_a2 p0 hR_88 h_m90⟩, by first | exact l_m19.trans (lf_gx hx_m23) | exact l_m78.trans (lf_gx hx_m82) | exact lf_gx hx_m90⟩, by first | exact unX_m (Or.inl ⟨by omega, rfl, rfl⟩) h_m19 hx_m23 | exact unX_m (Or.inr ⟨by omega, rfl, by omega⟩) h_m78 hx_m82 | exact fun z => absurd z (by omega)⟩⟩
      · intro   hR_88
        refine CV.mono (ct_181   g_m.1 (by unfold rg; decide) (by omega) (by omega)) (by decide) ?_
        rintro m90 ⟨hx_m90, h_m90⟩
        have g_m90 : PX m0 m90 := PX.ft g_m hx_m90
        exact ⟨g_m90, by exact ⟨by exact ⟨by exact ⟨by first | exact un_em (Or.inl rfl) (by omega) h_m19 hx_m23 h_m23 | exact un_em (Or.inr ⟨rfl, by omega⟩) (by omega) h_m78 hx_m82 h_m82 | exact un_fail p0 hx_m90 h_m90, by first | exact un_a1 (by omega) (Or.inl (by omega)) h_m19 h_m23 | exact un_a1 (by omega) (Or.inr (by omega)) h_m78 h_m82 | exact un_a2 p0 hR_88 h_m90⟩, by first | exact l_m19.trans (lf_gx hx_m23) | exact l_m78.trans (lf_gx hx_m82) | exact lf_gx hx_m90⟩, by first | exact unX_m (Or.inl ⟨by omega, rfl, rfl⟩) h_m19 hx_m23 | exact unX_m (Or.inr ⟨by omega, rfl, by omega⟩) h_m78 hx_m82 | exact fun z => absurd z (by omega)⟩⟩
    · skip
      have t5 := ty_284_11 g_m.1
      refine ⟨⟨by omega, by omega⟩, ?_⟩
      have t6 := ty_289 g_m.1 (Int.toNat (rd m 284 11))
      refine CV.mono (my_197   g_m (by unfold rg; decide) (rd_rg _ _ _) (by omega) (by omega) (by omega)) (by decide) ?_
      rintro m19 ⟨g_m19, h_m19⟩
      obtain ⟨h_m19, l_m19⟩ := h_m19
      have f19 : rd m19 284 13 = rd m 284 13 := h_m19.2.2.2 284 13 (by omega) (by omega)
      refine CV.mono (ct_183   g_m19.1 (by omega)) (by decide) ?_
      rintro m23 ⟨hx_m23, h_m23⟩
      have g_m23 : PX m0 m23 := PX.ft g_m19 hx_m23
      exact ⟨g_m23, by exact ⟨by exact ⟨by exact ⟨by first | exact un_em (Or.inl rfl) (by omega) h_m19 hx_m23 h_m23 | exact un_em (Or.inr ⟨rfl, by omega⟩) (by omega) h_m78 hx_m82 h_m82 | exact un_fail p0 hx_m90 h_m90, by first | exact un_a1 (by omega) (Or.inl (by omega)) h_m19 h_m23 | exact un_a1 (by omega) (Or.inr (by omega)) h_m78 h_m82 | exact un_a2 p0 hR_88 h_m90⟩, by first | exact l_m19.trans (lf_gx hx_m23) | exact l_m78.trans (lf_gx hx_m82) | exact lf_gx hx_m90⟩, by first | exact unX_m (Or.inl ⟨by omega, rfl, rfl⟩) h_m19 hx_m23 | exact unX_m (Or.inr ⟨by omega, rfl, by omega⟩) h_m78 hx_m82 | exact fun z => absurd z (by omega)⟩⟩
  · intro m_93  hR_93
    obtain ⟨g_m_93, hR_93⟩ := hR_93
    obtain ⟨hR_93, dR_93⟩ := hR_93
    obtain ⟨hR_93, lR_93⟩ := hR_93
    obtain ⟨hR_93, cR_93⟩ := hR_93
    exact ⟨g_m_93, by exact ⟨by exact ⟨by exact ⟨by exact hR_93, by exact cR_93⟩, by exact lR_93⟩, by exact dR_93⟩⟩
-- TippedCratesModel.expression()V
set_option maxRecDepth 20000 in
theorem mz_199 {m0 m : Mm}  {N : Int} (g_m : PX m0 m)  (p0 : 0 ≤ rd m 284 13) (p1 : rd m 284 13 = 0 → rd m 284 12 = 0 ∧ 420 * rd m0 284 19 ≤ rd m 284 44 ∧ rd m 284 44 - 420 * rd m0 284 19 ≤ rd m 284 11) (p2 : tkN m0 N) (p3 : rd m 284 13 = 0 → rd m 284 11 ≤ N) : CV 4 199 [.ref 284] m (fun m2 => PX m0 m2 ∧ ((((exP m m2 (rd m0 284 19)) ∧ (exA m0 m m2 N)) ∧ (lf m m2)) ∧ (exM (kC m0) (vC m0) m m2))) := by
  refine br_199  ?_
  unfold P_199
  have hs := PX.s g_m
  have tt := ty_284_11 g_m.1
  have tc := ty_284_44 g_m.1
  intro m2 e_m2
  have g_m2 : PX m0 m2 := by rw [e_m2]; exact PX.wt g_m (tw_284_48 g_m.1 ⟨by omega, by omega⟩) (inP_284 (by omega))
  have n12 : rd m2 284 12 = rd m 284 12 := by rw [e_m2, rd_wt, if_neg (by omega)]
  have n13 : rd m2 284 13 = rd m 284 13 := by rw [e_m2, rd_wt, if_neg (by omega)]
  have t1 := ty_284_12 g_m2.1
  intro z1_9 e_z1_9
  have r_z1_9 : rg z1_9 := by rw [e_z1_9]; exact (rd_rg _ _ _)
  refine ⟨fun x2_12 m_12 => PX m0 m_12 ∧ (((((x2_12 = 1 ∧ exF m m_12) ∧ (rd m_12 284 13 = 0 → exI m_12 (rd m0 284 19) (rd m 284 44) 0)) ∧ ((rd m 284 13 = 0 → auI m0 m m_12 N 0) ∧ (¬ rd m 284 13 = 0 → rd m_12 284 13 = rd m 284 13 ∧ rd m_12 284 14 = rd m 284 14))) ∧ (lf m m_12)) ∧ (rd m 284 13 = 0 → emI (kC m0) (vC m0) m m_12 0)), fun x2_12 m_12 => Int.toNat (10000 - rd m_12 284 11 - 1000 * rd m_12 284 13), ?_, ?_⟩
  · exact ⟨g_m2, by exact ⟨by exact ⟨by exact ⟨by exact ⟨⟨rfl, exF_0 p0 e_m2⟩, fun h => exI_0 (by omega) e_m2 (p1 (by omega)) (by omega)⟩, by exact ⟨fun h0 => ai_0 h0 (p3 h0) (p1 h0).1 (by omega) e_m2, fun h0 => ⟨by rw [e_m2, rd_wt, if_neg (by omega)], by rw [e_m2, rd_wt, if_neg (by omega)]⟩⟩⟩, by exact lf_wt e_m2⟩, by exact fun h0 => em_0 e_m2 (p1 h0).1⟩⟩
  · intro x2_12 m_12 r_x2_12 hI_12
    obtain ⟨g_m_12, hI_12⟩ := hI_12
    obtain ⟨hI_12, dI_12⟩ := hI_12
    obtain ⟨hI_12, lI_12⟩ := hI_12
    obtain ⟨hI_12, cI_12⟩ := hI_12
    have f12 := hI_12.1.2.2.1
    have t12 := ty_284_11 g_m_12.1
    refine ⟨x2_12 = 0 ∨ ¬ rd m_12 284 13 = 0, ?_, ?_⟩
    · skip
      refine ⟨fun hq => ?_, fun hq => ?_⟩
      · skip
        (first | trivial | omega | (refine ⟨?_, ?_⟩ <;> omega))
      · skip
        refine ⟨fun hq => ?_, fun hq => ?_⟩
        · skip
          (first | trivial | omega | (refine ⟨?_, ?_⟩ <;> omega))
        · skip
          refine ⟨fun m_23 => PX m0 m_23 ∧ (((((exF m m_23 ∧ rd m_12 284 11 ≤ rd m_23 284 11) ∧ (rd m_23 284 13 = 0 → exI m_23 (rd m0 284 19) (rd m 284 44) 0)) ∧ (auI m0 m m_23 N 0)) ∧ (lf m m_23)) ∧ (emI (kC m0) (vC m0) m m_23 0)), fun m_23 => Int.toNat (10000 - rd m_23 284 11 - 1000 * rd m_23 284 13), ?_, ?_⟩
          · exact ⟨g_m_12, by exact ⟨by exact ⟨by exact ⟨by exact ⟨⟨hI_12.1.2, Int.le_refl _⟩, hI_12.2⟩, by exact cI_12.1 (hI_12.1.2.2.2.2.2 (by omega))⟩, by exact lI_12⟩, by exact dI_12 (hI_12.1.2.2.2.2.2 (by omega))⟩⟩
          · intro m_23  hI_23
            obtain ⟨g_m_23, hI_23⟩ := hI_23
            obtain ⟨hI_23, dI_23⟩ := hI_23
            obtain ⟨hI_23, lI_23⟩ := hI_23
            obtain ⟨hI_23, cI_23⟩ := hI_23
            have f23 := hI_23.1.1.2.1
            have t23 := ty_284_11 g_m_23.1
            have fm0 : rd m 284 13 = 0 := hI_12.1.2.2.2.2.2 (by omega)
            refine CK.mono (ct_180   g_m_23.1 (by unfold rg; decide)) (by decide) ?_
            rintro m26 v26 r_v26 ⟨e_m26, h_m26⟩
            replace e_m26 := e_m26.symm
            subst e_m26
            refine ⟨fun hq => ?_, fun hq => ?_⟩
            · skip
              refine CV.mono (mz_200   g_m_23 f23 (fun h => by have := exI_b (hI_23.2 h); omega)) (by decide) ?_
              rintro m85 ⟨g_m85, h_m85⟩
              obtain ⟨h_m85, x_m85⟩ := h_m85
              obtain ⟨h_m85, l_m85⟩ := h_m85
              have un := h_m85.1
              have ua := h_m85.2
              have u11 := un.2.2.1
              have u13 := un.2.1
              have xf85 : exF m m85 := exF_un hI_23.1.1 un
              refine ⟨fun hq => ?_, fun hq => ?_⟩
              · skip
                refine ⟨fun m_96 => PX m0 m_96 ∧ (((((exF m m_96 ∧ rd m_12 284 11 + 1 ≤ rd m_96 284 11) ∧ exI m_96 (rd m0 284 19) (rd m 284 44) 1) ∧ (auI m0 m m_96 N 1)) ∧ (lf m m_96)) ∧ (emI (kC m0) (vC m0) m m_96 1)), fun m_96 => Int.toNat (10000 - rd m_96 284 11 - 1000 * rd m_96 284 13), ?_, ?_⟩
                · exact ⟨g_m85, by exact ⟨by exact ⟨by exact ⟨by exact ⟨⟨xf85, by have := (un.1 (by omega)).2.1; omega⟩, exI_unit (hI_23.2 (un.1 (by omega)).1) un (by omega)⟩, by exact ai_un p2 cI_23 g_m_23 (by omega) un ua⟩, by exact lI_23.trans l_m85⟩, by exact em_unit p2 cI_23 dI_23 g_m_23 (by omega) un x_m85 (ty_284_44 g_m.1)⟩⟩
                · intro m_96  hI_96
                  obtain ⟨g_m_96, hI_96⟩ := hI_96
                  obtain ⟨hI_96, dI_96⟩ := hI_96
                  obtain ⟨hI_96, lI_96⟩ := hI_96
                  obtain ⟨hI_96, cI_96⟩ := hI_96
                  have zb : z1_9 = 0 := by have := p1 (hI_12.1.2.2.2.2.2 (by omega)); omega
                  have f96 := hI_96.1.1.2.1
                  have t96 := ty_284_11 g_m_96.1
                  have eb96 := exI_b hI_96.2
                  refine CK.mono (ct_180   g_m_96.1 (by unfold rg; decide)) (by decide) ?_
                  rintro m99 v99 r_v99 ⟨e_m99, h_m99⟩
                  replace e_m99 := e_m99.symm
                  subst e_m99
                  refine ⟨(True) ∧ (rd m_96 284 13 = 0 → rd m_96 284 12 ≤ z1_9 ∨ ¬ rd m_96 287 (Int.toNat (rd m_96 284 11)) = 7), ?_, ?_⟩
                  · skip
                    refine ⟨fun hq => ?_, fun hq => ?_⟩
                    · skip
                      (exact ⟨by first | trivial | omega | (refine ⟨?_, ?_⟩ <;> omega), by omega⟩)
                    · skip
                      have t4 := ty_284_12 g_m_96.1
                      refine ⟨fun hq => ?_, fun hq => ?_⟩
                      · skip
                        (exact ⟨by first | trivial | omega | (refine ⟨?_, ?_⟩ <;> omega), by omega⟩)
                      · skip
                        refine CV.mono (mz_198   g_m_96 (by unfold rg; decide) hI_96.2) (by decide) ?_
                        rintro m115 ⟨g_m115, h_m115⟩
                        obtain ⟨h_m115, k_m115⟩ := h_m115
                        obtain ⟨h_m115, l_m115⟩ := h_m115
                        have co := h_m115.1
                        have o115 : rd m115 284 12 = rd m_96 284 12 := co.2.2.2.2 284 12 (by omega) (by omega)
                        have a115 : rd m115 284 11 = rd m_96 284 11 := co.2.2.2.2 284 11 (by omega) (by omega)
                        have b115 : rd m115 284 13 = rd m_96 284 13 := co.2.2.2.2 284 13 (by omega) (by omega)
                        have pos := co_pos h_m115.1.1 h_m115.2 (by omega)
                        have eb115 := exI_b co.1
                        have t5 := ty_284_48 g_m115.1
                        try have w6 : wr ((rd m115 284 48) - 1) = (rd m115 284 48) - 1 := wr_id (by omega) (by omega)
                        intro m125 e_m125
                        have g_m125 : PX m0 m125 := by rw [e_m125]; exact PX.wt g_m115 (tw_284_48 g_m115.1 ⟨by omega, by omega⟩) (inP_284 (by omega))
                        have o125 : rd m125 284 12 = rd m_96 284 12 := by rw [e_m125, rd_wt, if_neg (by omega)]; exact o115
                        have t7 := ty_284_12 g_m125.1
                        try have w8 : wr ((rd m125 284 12) - 1) = (rd m125 284 12) - 1 := wr_id (by omega) (by omega)
                        intro m135 e_m135
                        have g_m135 : PX m0 m135 := by rw [e_m135]; exact PX.wt g_m125 (tw_284_12 g_m125.1 ⟨by omega, by omega⟩) (inP_284 (by omega))
                        have a135 : rd m135 284 11 = rd m_96 284 11 := by rw [e_m135, rd_wt, if_neg (by omega), e_m125, rd_wt, if_neg (by omega)]; exact a115
                        have b135 : rd m135 284 13 = rd m_96 284 13 := by rw [e_m135, rd_wt, if_neg (by omega), e_m125, rd_wt, if_neg (by omega)]; exact b115
                        refine CV.mono (ct_183   g_m135.1 (by omega)) (by decide) ?_
                        rintro m139 ⟨hx_m139, h_m139⟩
                        have g_m139 : PX m0 m139 := PX.ft g_m135 hx_m139
                        have ft139 := ft_go hx_m139 h_m139.2.1 h_m139.2.2
                        have FR139 : ∀ i j : Nat, ¬ (i = 284 ∧ (j = 11 ∨ j = 12 ∨ j = 13 ∨ j = 14 ∨ j = 48)) → rd m139 i j = rd m115 i j := fun i j h1 => by
                          rw [ft139 i j (by omega), e_m135, rd_wt, if_neg (by omega), e_m125, rd_wt, if_neg (by omega)]
                        have w139 : rd m139 284 48 = rd m115 284 48 - 1 := by rw [ft139 284 48 (by omega), e_m135, rd_wt, if_neg (by omega), e_m125, rd_wt, if_pos ⟨rfl, rfl⟩, wr_i (wr_rg _), wr_id (by omega) (by omega)]
                        have o139 : rd m139 284 12 = rd m115 284 12 - 1 := by rw [ft139 284 12 (by omega), e_m135, rd_wt, if_pos ⟨rfl, rfl⟩, wr_i (wr_rg _), o125, wr_id (by omega) (by omega), o115]
                        have xi139 := exI_close co.1 pos.1 pos.2 FR139 w139 o139 (by omega)
                        have xf139 : exF m m139 := exF_co (exF_step2 hI_96.1.1 co) (fun i j h1 h2 h3 => FR139 i j (by omega)) (by omega) (by omega) (by rw [FR139 284 44 (by omega)]; exact Int.le_refl _) (by omega)
                        have r135 : ∀ j, rd m135 288 j = rd m_96 288 j := fun j => (g_m135.2.1 288 j (inP_no (by omega) (by omega))).trans (g_m_96.2.1 288 j (inP_no (by omega) (by omega))).symm
                        have ai139 : auI m0 m m139 N 1 := ai_close p2 cI_96 g_m_96 (by omega) (by omega) (by omega) a135 (by omega) r135 h_m139 (by omega)
                        have ey139 : emI (kC m0) (vC m0) m m139 1 := em_close p2 cI_96 dI_96 g_m_96 (by omega) (by omega) (by omega) k_m115 (by decide) a115 pos.1 FR139 w139 o139 o115 (fun z => by omega) (ty_284_44 g_m.1) co.2.2.2.2
                        exact ⟨⟨g_m139, by exact ⟨by exact ⟨by exact ⟨by exact ⟨⟨xf139, by omega⟩, xi139⟩, by exact ai139⟩, by exact (((lI_96.trans l_m115).trans (lf_wt e_m125)).trans (lf_wt e_m135)).trans (lf_gx hx_m139)⟩, by exact ey139⟩⟩, by (try dsimp only); omega⟩
                  · intro   hR_145
                    obtain ⟨hR_145, cR_145⟩ := hR_145
                    refine CK.mono (ct_180   g_m_96.1 (by unfold rg; decide)) (by decide) ?_
                    rintro m148 v148 r_v148 ⟨e_m148, h_m148⟩
                    replace e_m148 := e_m148.symm
                    subst e_m148
                    refine ⟨fun s0_186 m_186 => PX m0 m_186 ∧ ((m_186 = m_96 ∧ ((s0_186 = 1 ∧ rd m_96 284 13 = 0 ∧ (rd m_96 287 (Int.toNat (rd m_96 284 11)) = 8 ∨ rd m_96 287 (Int.toNat (rd m_96 284 11)) = 9 ∨ rd m_96 287 (Int.toNat (rd m_96 284 11)) = 10 ∨ rd m_96 287 (Int.toNat (rd m_96 284 11)) = 15)) ∨ s0_186 = 0)) ∧ (s0_186 = 0 → rd m_96 284 13 = 0 → ¬ oM (rd m_96 287 (Int.toNat (rd m_96 284 11))))), ?_, ?_⟩
                    · skip
                      refine ⟨fun m_181 => PX m0 m_181 ∧ (m_181 = m_96 ∧ rd m_96 284 13 = 0 ∧ (rd m_96 287 (Int.toNat (rd m_96 284 11)) = 8 ∨ rd m_96 287 (Int.toNat (rd m_96 284 11)) = 9 ∨ rd m_96 287 (Int.toNat (rd m_96 284 11)) = 10 ∨ rd m_96 287 (Int.toNat (rd m_96 284 11)) = 15)), ?_, ?_⟩
                      · skip
                        refine ⟨fun hq => ?_, fun hq => ?_⟩
                        · skip
                          exact ⟨g_m_96, by exact ⟨rfl, by omega, by omega⟩⟩
                        · skip
                          refine CK.mono (ct_180   g_m_96.1 (by unfold rg; decide)) (by decide) ?_
                          rintro m157 v157 r_v157 ⟨e_m157, h_m157⟩
                          replace e_m157 := e_m157.symm
                          subst e_m157
                          refine ⟨fun hq => ?_, fun hq => ?_⟩
                          · skip
                            exact ⟨g_m_96, by exact ⟨rfl, by omega, by omega⟩⟩
                          · skip
                            refine CK.mono (ct_180   g_m_96.1 (by unfold rg; decide)) (by decide) ?_
                            rintro m166 v166 r_v166 ⟨e_m166, h_m166⟩
                            replace e_m166 := e_m166.symm
                            subst e_m166
                            refine ⟨fun hq => ?_, fun hq => ?_⟩
                            · skip
                              exact ⟨g_m_96, by exact ⟨rfl, by omega, by omega⟩⟩
                            · skip
                              refine CK.mono (ct_180   g_m_96.1 (by unfold rg; decide)) (by decide) ?_
                              rintro m175 v175 r_v175 ⟨e_m175, h_m175⟩
                              replace e_m175 := e_m175.symm
                              subst e_m175
                              refine ⟨fun hq => ?_, fun hq => ?_⟩
                              · skip
                                exact ⟨g_m_96, by exact ⟨by first | exact ⟨rfl, Or.inr rfl⟩ | exact ⟨rfl, Or.inl ⟨rfl, by omega, by omega⟩⟩, by first | exact fun h => absurd h (by omega) | (unfold oM; omega)⟩⟩
                              · skip
                                exact ⟨g_m_96, by exact ⟨rfl, by omega, by omega⟩⟩
                      · intro m_181  hR_181
                        obtain ⟨g_m_181, hR_181⟩ := hR_181
                        obtain ⟨q181, hR_181⟩ := hR_181
                        subst q181
                        exact ⟨g_m_181, by exact ⟨by first | exact ⟨rfl, Or.inr rfl⟩ | exact ⟨rfl, Or.inl ⟨rfl, by omega, by omega⟩⟩, by first | exact fun h => absurd h (by omega) | (unfold oM; omega)⟩⟩
                    · intro s0_186 m_186 r_s0_186 hR_186
                      obtain ⟨g_m_186, hR_186⟩ := hR_186
                      obtain ⟨hR_186, cR_186⟩ := hR_186
                      obtain ⟨q186, hR_186⟩ := hR_186
                      subst q186
                      refine ⟨fun hq => ?_, fun hq => ?_⟩
                      · skip
                        refine CK.mono (ct_180   g_m_186.1 (by unfold rg; decide)) (by decide) ?_
                        rintro m214 v214 r_v214 ⟨e_m214, h_m214⟩
                        replace e_m214 := e_m214.symm
                        subst e_m214
                        refine ⟨fun s1_234 m_234 => PX m0 m_234 ∧ ((m_234 = m_186 ∧ ((s1_234 = 1 ∧ (rd m_186 287 (Int.toNat (rd m_186 284 11)) = 10 ∨ rd m_186 287 (Int.toNat (rd m_186 284 11)) = 15)) ∨ (s1_234 = 0 ∧ (rd m_186 287 (Int.toNat (rd m_186 284 11)) = 8 ∨ rd m_186 287 (Int.toNat (rd m_186 284 11)) = 9)))) ∧ (decide (¬ s1_234 = 0) = decide (rd m_186 287 (Int.toNat (rd m_186 284 11)) = 10 ∨ rd m_186 287 (Int.toNat (rd m_186 284 11)) = 15))), ?_, ?_⟩
                        · skip
                          refine ⟨fun m_229 => PX m0 m_229 ∧ (m_229 = m_186 ∧ (rd m_186 287 (Int.toNat (rd m_186 284 11)) = 10 ∨ rd m_186 287 (Int.toNat (rd m_186 284 11)) = 15)), ?_, ?_⟩
                          · skip
                            refine ⟨fun hq => ?_, fun hq => ?_⟩
                            · skip
                              exact ⟨g_m_186, by exact ⟨rfl, by omega⟩⟩
                            · skip
                              refine CK.mono (ct_180   g_m_186.1 (by unfold rg; decide)) (by decide) ?_
                              rintro m223 v223 r_v223 ⟨e_m223, h_m223⟩
                              replace e_m223 := e_m223.symm
                              subst e_m223
                              refine ⟨fun hq => ?_, fun hq => ?_⟩
                              · skip
                                exact ⟨g_m_186, by exact ⟨by first | exact ⟨rfl, Or.inr ⟨rfl, by omega⟩⟩ | exact ⟨rfl, Or.inl ⟨rfl, by omega⟩⟩, by first | (rw [decide_eq_true (by omega), decide_eq_true (by omega)]) | (rw [decide_eq_false (by omega), decide_eq_false (by omega)])⟩⟩
                              · skip
                                exact ⟨g_m_186, by exact ⟨rfl, by omega⟩⟩
                          · intro m_229  hR_229
                            obtain ⟨g_m_229, hR_229⟩ := hR_229
                            obtain ⟨q229, hR_229⟩ := hR_229
                            subst q229
                            exact ⟨g_m_229, by exact ⟨by first | exact ⟨rfl, Or.inr ⟨rfl, by omega⟩⟩ | exact ⟨rfl, Or.inl ⟨rfl, by omega⟩⟩, by first | (rw [decide_eq_true (by omega), decide_eq_true (by omega)]) | (rw [decide_eq_false (by omega), decide_eq_false (by omega)])⟩⟩
                        · intro s1_234 m_234 r_s1_234 hR_234
                          obtain ⟨g_m_234, hR_234⟩ := hR_234
                          obtain ⟨hR_234, dR_234⟩ := hR_234
                          obtain ⟨q234, hR_234⟩ := hR_234
                          subst q234
                          refine CV.mono (mz_198   g_m_234 r_s1_234 hI_96.2) (by decide) ?_
                          rintro m234 ⟨g_m234, h_m234⟩
                          obtain ⟨h_m234, k_m234⟩ := h_m234
                          obtain ⟨h_m234, l_m234⟩ := h_m234
                          have co := h_m234.1
                          have t234 : rd m234 284 11 = rd m_234 284 11 := co.2.2.2.2 284 11 (by omega) (by omega)
                          have b234 : rd m234 284 13 = rd m_234 284 13 := co.2.2.2.2 284 13 (by omega) (by omega)
                          have k234 : rd m234 287 (Int.toNat (rd m234 284 11)) = rd m_234 287 (Int.toNat (rd m_234 284 11)) := by rw [t234]; exact co.2.2.2.2 287 _ (by omega) (by omega)
                          have eb234 := exI_b co.1
                          have t9 := ty_284_11 g_m234.1
                          refine ⟨⟨by omega, by omega⟩, ?_⟩
                          have t10 := ty_284_48 g_m234.1
                          refine ⟨⟨by omega, by omega⟩, ?_⟩
                          have t11 := ty_287 g_m234.1 (Int.toNat (rd m234 284 11))
                          intro m254 e_m254
                          have g_m254 : PX m0 m254 := by rw [e_m254]; exact PX.wt g_m234 (tw_316 g_m234.1 (rd_rg _ _ _)) inP_316
                          have w254 : rd m254 284 48 = rd m234 284 48 := by rw [e_m254, rd_wt, if_neg (by omega)]
                          have t12 := ty_284_48 g_m254.1
                          try have w13 : wr ((rd m254 284 48) + 1) = (rd m254 284 48) + 1 := wr_id (by omega) (by omega)
                          intro m262 e_m262
                          have g_m262 : PX m0 m262 := by rw [e_m262]; exact PX.wt g_m254 (tw_284_48 g_m254.1 ⟨by omega, by omega⟩) (inP_284 (by omega))
                          have a262 : rd m262 284 11 = rd m234 284 11 := by rw [e_m262, rd_wt, if_neg (by omega), e_m254, rd_wt, if_neg (by omega)]
                          have b262 : rd m262 284 13 = rd m234 284 13 := by rw [e_m262, rd_wt, if_neg (by omega), e_m254, rd_wt, if_neg (by omega)]
                          refine CV.mono (ct_183   g_m262.1 (by omega)) (by decide) ?_
                          rintro m266 ⟨hx_m266, h_m266⟩
                          have g_m266 : PX m0 m266 := PX.ft g_m262 hx_m266
                          have ft266 := ft_go hx_m266 h_m266.2.1 h_m266.2.2
                          have FR266 : ∀ i j : Nat, ¬ (i = 284 ∧ (j = 11 ∨ j = 12 ∨ j = 13 ∨ j = 14 ∨ j = 48)) → ¬ (i = 316 ∧ (j : Int) = rd m234 284 48) → rd m266 i j = rd m234 i j := fun i j h1 h2 => by
                            rw [ft266 i j (by omega), e_m262, rd_wt, if_neg (by omega), e_m254, rd_wt, if_neg (by omega)]
                          have o266 : rd m266 284 12 = rd m234 284 12 := by rw [ft266 284 12 (by omega), e_m262, rd_wt, if_neg (by omega), e_m254, rd_wt, if_neg (by omega)]
                          have w266 : rd m266 284 48 = rd m234 284 48 + 1 := by rw [ft266 284 48 (by omega), e_m262, rd_wt, if_pos ⟨rfl, rfl⟩, w254, wr_i (wr_rg _), wr_id (by omega) (by omega)]
                          have s266 : rd m266 316 (Int.toNat (rd m234 284 48)) = rd m234 287 (Int.toNat (rd m234 284 11)) := by rw [ft266 316 _ (by omega), e_m262, rd_wt, if_neg (by omega), e_m254, rd_wt, if_pos ⟨rfl, rfl⟩, wr_i (rd_rg _ _ _)]
                          have xf266 : exF m m266 := exF_co (exF_step2 hI_96.1.1 co) (fun i j h1 h2 h3 => FR266 i j (by omega) (by omega)) (by omega) (by omega) (by rw [FR266 284 44 (by omega) (by omega)]; exact Int.le_refl _) (by omega)
                          have r262 : ∀ j, rd m262 288 j = rd m_234 288 j := fun j => (g_m262.2.1 288 j (inP_no (by omega) (by omega))).trans (g_m_234.2.1 288 j (inP_no (by omega) (by omega))).symm
                          have o234 : rd m234 284 12 = rd m_234 284 12 := co.2.2.2.2 284 12 (by omega) (by omega)
                          have ai266 : auI m0 m m266 N 0 := ai_oper p2 cI_96 g_m_234 (by omega) (by unfold oM; omega) (by omega) (by omega) r262 h_m266 (by omega)
                          have ey266 : emI (kC m0) (vC m0) m m266 0 := em_oper p2 cI_96 dI_96 g_m_234 (by omega) (by unfold oM; omega) k_m234 dR_234 t234 k234 FR266 w266 o266 o234 s266 (fun z => by omega) (ty_284_44 g_m.1) co.2.2.2.2
                          exact ⟨⟨g_m266, by exact ⟨by exact ⟨by exact ⟨by exact ⟨⟨by omega, xf266⟩, fun h => exI_op co.1 h_m234.2 (by omega) FR266 w266 o266 s266 (by omega)⟩, by exact ⟨fun _ => ai266, fun h => absurd fm0 h⟩⟩, by exact (((lI_96.trans l_m234).trans (lf_wt e_m254)).trans (lf_wt e_m262)).trans (lf_gx hx_m266)⟩, by exact fun _ => ey266⟩⟩, by (try dsimp only); omega⟩
                      · skip
                        have t14 := ty_284_12 g_m_186.1
                        refine ⟨fun m_204 => PX m0 m_204 ∧ ((((exF m m_204 ∧ exI m_204 (rd m0 284 19) (rd m 284 44) 1 ∧ rd m 284 11 + 1 ≤ rd m_204 284 11 ∧ (rd m_204 284 13 = 0 → rd m_204 284 12 ≤ 0)) ∧ ((rd m_204 284 13 = 0 → AU (kC m0) (rd m 284 11) 0 0 = (0, rd m_204 284 11) ∧ rd m_204 284 11 ≤ N) ∧ (¬ rd m_204 284 13 = 0 → auX m0 m m_204))) ∧ (lf m m_204)) ∧ (emN (kC m0) (vC m0) m m_204)), ?_, ?_⟩
                        · skip
                          refine ⟨fun hq => ?_, fun hq => ?_⟩
                          · skip
                            exact ⟨g_m_186, by exact ⟨by exact ⟨by exact ⟨by first | exact ⟨exF_ft hI_96.1.1 ft201 (by omega) (by omega) (by omega), exI_ft hI_96.2 ft201 (by omega), by have := hI_96.1.1.2.2.1; have := hI_12.1.2.2.2.1; omega, fun h => by omega⟩ | exact ⟨hI_96.1.1, hI_96.2, by have := hI_12.1.2.2.2.1; omega, fun h => by omega⟩, by first | exact ai_z1 p2 cI_96 g_m_186 (fun z => cR_186 (by omega) z) (by omega) (by omega) h_m201 | exact ai_z0 p2 cI_96 g_m_186 (fun z => cR_186 (by omega) z) (by omega)⟩, by first | exact lI_96 | exact lI_96.trans (lf_gx hx_m201)⟩, by first | exact fun z => absurd z (by omega) | exact em_n p2 cI_96 dI_96 g_m_186 (fun z => cR_186 (by omega) z) (by omega)⟩⟩
                          · skip
                            refine CV.mono (ct_181   g_m_186.1 (by unfold rg; decide) (by omega) (by omega)) (by decide) ?_
                            rintro m201 ⟨hx_m201, h_m201⟩
                            have g_m201 : PX m0 m201 := PX.ft g_m_186 hx_m201
                            have ft201 := ft_go hx_m201 h_m201.2.2.1 h_m201.2.2.2
                            exact ⟨g_m201, by exact ⟨by exact ⟨by exact ⟨by first | exact ⟨exF_ft hI_96.1.1 ft201 (by omega) (by omega) (by omega), exI_ft hI_96.2 ft201 (by omega), by have := hI_96.1.1.2.2.1; have := hI_12.1.2.2.2.1; omega, fun h => by omega⟩ | exact ⟨hI_96.1.1, hI_96.2, by have := hI_12.1.2.2.2.1; omega, fun h => by omega⟩, by first | exact ai_z1 p2 cI_96 g_m_186 (fun z => cR_186 (by omega) z) (by omega) (by omega) h_m201 | exact ai_z0 p2 cI_96 g_m_186 (fun z => cR_186 (by omega) z) (by omega)⟩, by first | exact lI_96 | exact lI_96.trans (lf_gx hx_m201)⟩, by first | exact fun z => absurd z (by omega) | exact em_n p2 cI_96 dI_96 g_m_186 (fun z => cR_186 (by omega) z) (by omega)⟩⟩
                        · intro m_204  hR_204
                          obtain ⟨g_m_204, hR_204⟩ := hR_204
                          obtain ⟨hR_204, dR_204⟩ := hR_204
                          obtain ⟨hR_204, lR_204⟩ := hR_204
                          obtain ⟨hR_204, cR_204⟩ := hR_204
                          have xf204 : exF m m_204 := hR_204.1
                          refine CV.mono (mz_198   g_m_204 (by unfold rg; decide) hR_204.2.1) (by decide) ?_
                          rintro m206 ⟨g_m206, h_m206⟩
                          obtain ⟨h_m206, k_m206⟩ := h_m206
                          obtain ⟨h_m206, l_m206⟩ := h_m206
                          exact ⟨g_m206, by exact ⟨by exact ⟨by exact ⟨by first | exact exP_f hI_12.1.2 (by omega) | exact exP_f xf85 (by omega) | exact exP_e hR_204.1 hR_204.2.2.1 hR_204.2.2.2 g_m206.1 h_m206.1 h_m206.2, by first | exact ex_a1 cI_12 (by omega) | exact ex_a2 fm0 (ai_un p2 cI_23 g_m_23 (by omega) un ua) (by omega) | exact ex_a3 fm0 cR_204 h_m206.1⟩, by first | exact lI_12 | exact lI_23.trans l_m85 | exact lR_204.trans l_m206⟩, by first | exact fun z => absurd z (by omega) | exact em_e p2 (tyN := ty_284_11 g_m_204.1) dR_204 k_m206 h_m206.1 (ty_284_44 g_m.1)⟩⟩
              · skip
                exact ⟨g_m85, by exact ⟨by exact ⟨by exact ⟨by first | exact exP_f hI_12.1.2 (by omega) | exact exP_f xf85 (by omega) | exact exP_e hR_204.1 hR_204.2.2.1 hR_204.2.2.2 g_m206.1 h_m206.1 h_m206.2, by first | exact ex_a1 cI_12 (by omega) | exact ex_a2 fm0 (ai_un p2 cI_23 g_m_23 (by omega) un ua) (by omega) | exact ex_a3 fm0 cR_204 h_m206.1⟩, by first | exact lI_12 | exact lI_23.trans l_m85 | exact lR_204.trans l_m206⟩, by first | exact fun z => absurd z (by omega) | exact em_e p2 (tyN := ty_284_11 g_m_204.1) dR_204 k_m206 h_m206.1 (ty_284_44 g_m.1)⟩⟩
            · skip
              have t15 := ty_284_12 g_m_23.1
              refine ⟨fun m_46 => PX m0 m_46 ∧ (((ftRel m_23 m_46 ∧ rd m_46 284 11 = rd m_23 284 11 ∧ 0 ≤ rd m_46 284 13 ∧ (rd m_46 284 13 = 0 → ¬ rd m_23 284 12 = 6)) ∧ ((rd m_46 284 13 = 0 ∧ ¬ rd m_23 284 12 = 6) ∨ (rd m_23 284 12 = 6 ∧ rd m_46 284 13 = 2 ∧ rd m_46 284 14 = rd m_23 288 (Int.toNat (rd m_23 284 11))))) ∧ (lf m m_46)), ?_, ?_⟩
              · skip
                refine ⟨fun hq => ?_, fun hq => ?_⟩
                · skip
                  exact ⟨g_m_23, by exact ⟨by exact ⟨by first | exact ⟨fun _ _ _ => rfl, rfl, by omega, fun _ => by omega⟩ | exact ⟨ft_go hx_m43 h_m43.2.2.1 h_m43.2.2.2, h_m43.2.1, by omega, fun h => by omega⟩, by omega⟩, by first | exact lI_23 | exact lI_23.trans (lf_gx hx_m43)⟩⟩
                · skip
                  refine CV.mono (ct_181   g_m_23.1 (by unfold rg; decide) (by omega) (by omega)) (by decide) ?_
                  rintro m43 ⟨hx_m43, h_m43⟩
                  have g_m43 : PX m0 m43 := PX.ft g_m_23 hx_m43
                  exact ⟨g_m43, by exact ⟨by exact ⟨by first | exact ⟨fun _ _ _ => rfl, rfl, by omega, fun _ => by omega⟩ | exact ⟨ft_go hx_m43 h_m43.2.2.1 h_m43.2.2.2, h_m43.2.1, by omega, fun h => by omega⟩, by omega⟩, by first | exact lI_23 | exact lI_23.trans (lf_gx hx_m43)⟩⟩
              · intro m_46  hR_46
                obtain ⟨g_m_46, hR_46⟩ := hR_46
                obtain ⟨hR_46, lR_46⟩ := hR_46
                obtain ⟨hR_46, cR_46⟩ := hR_46
                have eb23 := exI_b (hI_23.2 (by omega))
                have o46 : rd m_46 284 12 = rd m_23 284 12 := hR_46.1 284 12 (by omega)
                have t16 := ty_284_12 g_m_46.1
                try have w17 : wr ((rd m_46 284 12) + 1) = (rd m_46 284 12) + 1 := wr_id (by omega) (by omega)
                intro m53 e_m53
                have g_m53 : PX m0 m53 := by rw [e_m53]; exact PX.wt g_m_46 (tw_284_12 g_m_46.1 ⟨by omega, by omega⟩) (inP_284 (by omega))
                have b53 : rd m53 284 13 = rd m_46 284 13 := by rw [e_m53, rd_wt, if_neg (by omega)]
                refine CV.mono (ct_183   g_m53.1 (by omega)) (by decide) ?_
                rintro m57 ⟨hx_m57, h_m57⟩
                have g_m57 : PX m0 m57 := PX.ft g_m53 hx_m57
                have ft57 := ft_go hx_m57 h_m57.2.1 h_m57.2.2
                have w57 : rd m57 284 48 = rd m_23 284 48 := by rw [ft57 284 48 (by omega), e_m53, rd_wt, if_neg (by omega), hR_46.1 284 48 (by omega)]
                have a53 : rd m53 284 11 = rd m_23 284 11 := by rw [e_m53, rd_wt, if_neg (by omega)]; exact hR_46.2.1
                have b53 : rd m53 284 13 = rd m_46 284 13 := by rw [e_m53, rd_wt, if_neg (by omega)]
                have t18 := ty_284_48 g_m57.1
                refine ⟨⟨by omega, by omega⟩, ?_⟩
                intro m70 e_m70
                have g_m70 : PX m0 m70 := by rw [e_m70]; exact PX.wt g_m57 (tw_316 g_m57.1 (by first | assumption | omega)) inP_316
                have w70 : rd m70 284 48 = rd m_23 284 48 := by rw [e_m70, rd_wt, if_neg (by omega)]; exact w57
                have t19 := ty_284_48 g_m70.1
                try have w20 : wr ((rd m70 284 48) + 1) = (rd m70 284 48) + 1 := wr_id (by omega) (by omega)
                intro m78 e_m78
                have g_m78 : PX m0 m78 := by rw [e_m78]; exact PX.wt g_m70 (tw_284_48 g_m70.1 ⟨by omega, by omega⟩) (inP_284 (by omega))
                have FR78 : ∀ i j : Nat, ¬ (i = 284 ∧ (j = 11 ∨ j = 12 ∨ j = 13 ∨ j = 14 ∨ j = 48)) → ¬ (i = 316 ∧ (j : Int) = rd m_23 284 48) → rd m78 i j = rd m_23 i j := fun i j h1 h2 => by
                  rw [e_m78, rd_wt, if_neg (by omega), e_m70, rd_wt, if_neg (by omega), ft57 i j (by omega), e_m53, rd_wt, if_neg (by omega), hR_46.1 i j (by omega)]
                have w78 : rd m78 284 48 = rd m_23 284 48 + 1 := by rw [e_m78, rd_wt, if_pos ⟨rfl, rfl⟩, w70, wr_i (wr_rg _), wr_id (by omega) (by omega)]
                have o78 : rd m78 284 12 = rd m_23 284 12 + 1 := by rw [e_m78, rd_wt, if_neg (by omega), e_m70, rd_wt, if_neg (by omega), ft57 284 12 (by omega), e_m53, rd_wt, if_pos ⟨rfl, rfl⟩, wr_i (wr_rg _), hR_46.1 284 12 (by omega), wr_id (by omega) (by omega)]
                have s78 : rd m78 316 (Int.toNat (rd m_23 284 48)) = 6 := by rw [e_m78, rd_wt, if_neg (by omega), e_m70, w57, rd_wt, if_pos ⟨rfl, rfl⟩]; rfl
                have t78 : rd m78 284 11 = rd m57 284 11 := by rw [e_m78, rd_wt, if_neg (by omega), e_m70, rd_wt, if_neg (by omega)]
                have f78 : rd m78 284 13 = rd m57 284 13 := by rw [e_m78, rd_wt, if_neg (by omega), e_m70, rd_wt, if_neg (by omega)]
                have r53 : ∀ j, rd m53 288 j = rd m_23 288 j := fun j => (g_m53.2.1 288 j (inP_no (by omega) (by omega))).trans (g_m_23.2.1 288 j (inP_no (by omega) (by omega))).symm
                have p53 : rd m53 284 14 = rd m_46 284 14 := by rw [e_m53, rd_wt, if_neg (by omega)]
                have p78 : rd m78 284 14 = rd m57 284 14 := by rw [e_m78, rd_wt, if_neg (by omega), e_m70, rd_wt, if_neg (by omega)]
                have q57 : rd m78 284 12 = rd m57 284 12 := by rw [e_m78, rd_wt, if_neg (by omega), e_m70, rd_wt, if_neg (by omega)]
                have o57 : rd m57 284 12 = rd m_23 284 12 + 1 := by omega
                have ai78 : auI m0 m m78 N 0 := ai_fr (ai_open p2 cI_23 g_m_23 (by omega) (by omega) cR_46 a53 b53 p53 r53 h_m57 o57) t78 (by omega) f78 p78
                have ey78 : emI (kC m0) (vC m0) m m78 0 := em_open p2 cI_23 dI_23 g_m_23 (by omega) (by omega) FR78 w78 o78 s78 (fun z => by omega) (ty_284_44 g_m.1)
                exact ⟨⟨g_m78, by exact ⟨by exact ⟨by exact ⟨by exact ⟨⟨exF_co hI_23.1.1 (fun i j h1 h2 h3 => FR78 i j (by omega) (by omega)) (by omega) (by omega) (by rw [FR78 284 44 (by omega) (by omega)]; exact Int.le_refl _) (by omega), by omega⟩, fun h => exI_open (hI_23.2 (by omega)) FR78 w78 o78 s78 (by omega) (by omega)⟩, by exact ai78⟩, by exact (((lR_46.trans (lf_wt e_m53)).trans (lf_gx hx_m57)).trans (lf_wt e_m70)).trans (lf_wt e_m78)⟩, by exact ey78⟩⟩, by (try dsimp only); omega⟩
    · intro   hR_272
      exact ⟨g_m_12, by exact ⟨by exact ⟨by exact ⟨by first | exact exP_f hI_12.1.2 (by omega) | exact exP_f xf85 (by omega) | exact exP_e hR_204.1 hR_204.2.2.1 hR_204.2.2.2 g_m206.1 h_m206.1 h_m206.2, by first | exact ex_a1 cI_12 (by omega) | exact ex_a2 fm0 (ai_un p2 cI_23 g_m_23 (by omega) un ua) (by omega) | exact ex_a3 fm0 cR_204 h_m206.1⟩, by first | exact lI_12 | exact lI_23.trans l_m85 | exact lR_204.trans l_m206⟩, by first | exact fun z => absurd z (by omega) | exact em_e p2 (tyN := ty_284_11 g_m_204.1) dR_204 k_m206 h_m206.1 (ty_284_44 g_m.1)⟩⟩
