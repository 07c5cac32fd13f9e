/-- laws in the half S, as far as they are written -/
def LMs (m : Mm) (S : Int) (E : Lw) : Prop := ∀ k : Int, 0 ≤ k → k < 4 → (rd m 307 (Int.toNat (4 * S + k)) = rd m 308 (Int.toNat (4 * S + k)) ∧ E k = dE k) ∨ (brL m (420 * S) (rd m 284 44) (rd m 307 (Int.toNat (4 * S + k))) (E k).1 (E k).2 (rd m 308 (Int.toNat (4 * S + k))) ∧ (130 * S ≤ rd m 307 (Int.toNat (4 * S + k)) ∧ rd m 308 (Int.toNat (4 * S + k)) ≤ rd m 284 38))
theorem lms_0 {m77 m85 m97 m109 : Mm} {S v w : Int} (pl : plP m77 m85 S) (hs : 0 ≤ S ∧ S ≤ 1) (e97 : m97 = wt m85 284 38 v) (e109 : m109 = wt m97 284 44 w) : LMs m109 S dE := fun k h1 h2 => by
  obtain ⟨-, -, -, -, -, p⟩ := pl
  have q := p k h1 h2
  exact Or.inl ⟨by rw [e109, rd_wt, if_neg (by omega), rd_wt, if_neg (by omega), e97, rd_wt, if_neg (by omega), rd_wt, if_neg (by omega), q.1, q.2], rfl⟩
theorem tsM_lo {m : Mm} {lo lo2 hi b : Int} {x : Rp × Rp × Rp} (h : tsM m lo hi b x) (l : lo2 ≤ lo) : tsM m lo2 hi b x := ⟨h.1, by have := h.2.1; omega, h.2.2⟩
theorem brL_lo {m : Mm} {lo lo2 hi : Int} {L : Rp} (l : lo2 ≤ lo) : ∀ {R : List (Rp × Rp × Rp)} {b e : Int}, brL m lo hi b R L e → brL m lo2 hi b R L e
  | [], b, e, h => ⟨h.1, h.2.1, by have := h.2.2.1; omega, h.2.2.2⟩
  | _ :: _, b, e, h => ⟨tsM_lo h.1 l, brL_lo l h.2⟩
theorem brL_hi {m : Mm} {lo hi : Int} {L : Rp} : ∀ {R : List (Rp × Rp × Rp)} {b e : Int}, brL m lo hi b R L e → lo ≤ hi
  | [], b, e, h => by
    obtain ⟨-, -, a, -, c, d⟩ := h
    omega
  | _ :: _, b, e, h => brL_hi h.2
theorem lm_s {m77 m m128 : Mm} {S : Int} {s2 : Ps} {E2 : Lw} (L : LMs m S E2) (l : lqM m77 m m128 S) (y : rd m128 284 13 = 0) (et : rd m 284 11 = s2 0 0) (I : rdI m S) (z : rd m 284 13 = 0) (hs : 0 ≤ S ∧ S ≤ 1) : LMs m128 S (qStep (tX m77) s2 E2) := by
  obtain ⟨-, i44, -, i38, -⟩ := I.2.2 z
  intro k h1 h2
  rcases l y with ⟨n, f⟩ | ⟨c, a, b, d, e, g⟩
  · have eq : qStep (tX m77) s2 E2 = E2 := by unfold qStep; rw [if_neg (by rw [← et]; exact n)]
    rw [eq, f 307 _ (Or.inl (by omega)), f 308 _ (Or.inl (by omega)), f 284 44 (Or.inr (by omega)), f 284 38 (Or.inr (by omega))]
    rcases L k h1 h2 with q | ⟨q, r⟩
    · exact Or.inl q
    · exact Or.inr ⟨brL_fr (by omega) (Int.le_refl _) (by omega) q (fun i j w => f i j (Or.inl (by omega))), r⟩
  · have eq : qStep (tX m77) s2 E2 = fun k => if k = tX m77 0 (rd m 284 11) - 4 then LT (tX m77 0) (tX m77 2) 4 (rd m 284 11 + 2) else E2 k := by unfold qStep; rw [← et, if_pos c]
    rw [eq]
    dsimp only
    by_cases q : k = tX m77 0 (rd m 284 11) - 4
    · subst q
      rw [if_pos rfl, a, b]
      exact Or.inr ⟨brL_lo i44 d, i38, Int.le_refl _⟩
    · rw [if_neg q, e 307 _ (Or.inl rfl) (by omega), e 308 _ (Or.inr rfl) (by omega)]
      have hh := brL_hi d
      have lt := brL_lt d
      rcases L k h1 h2 with w | ⟨w, r⟩
      · exact Or.inl w
      · exact Or.inr ⟨brL_fr (by omega) hh (by omega) w (fun i j v => g i j (by omega)), by omega⟩
def qmI (X : Tk) (N S : Int) (P : Ps) (Q : Lw) (m : Mm) : Prop := ∃ (k : Nat) (s2 : Ps) (E2 : Lw), RM X N S s2 m ∧ k ≤ 401 ∧ pRun X (401 - k) s2 = P ∧ (s2 0 1 = 0 → (k : Int) ≤ s2 0 0) ∧ qRun X (401 - k) s2 E2 = Q ∧ (rd m 284 13 = 0 → LMs m S E2)
section RNQ
variable {m77 m m128 : Mm} {N S : Int} {s2 P : Ps} {E2 Q : Lw} {k : Nat}
theorem rn_Q (ra : RM (tX m77) N S s2 m) (tk : tkN m77 N) (g : PX m77 m) (rk : k ≤ 401) (rb : pRun (tX m77) (401 - k) s2 = P) (rc : s2 0 1 = 0 → (k : Int) ≤ s2 0 0) (rq : qRun (tX m77) (401 - k) s2 E2 = Q) (rl : rd m 284 13 = 0 → LMs m S E2) (z : rd m 284 13 = 0) (ne : ¬ rd m 287 (Int.toNat (rd m 284 11)) = 0) (r : RM (tX m77) N S (pStep (tX m77) s2) m128) (pg : rd m128 284 13 = 0 → rd m 284 11 + 1 ≤ rd m128 284 11) (l : lqM m77 m m128 S) (I : rdI m S) (hs : 0 ≤ S ∧ S ≤ 1) : qmI (tX m77) N S P Q m128 := by
  have z0 : s2 0 1 = 0 := ra.1.1.symm.trans z
  have a := ra.2.1 z0
  have kk := rc z0
  have et := (ra.1.2.2 z0).1
  have n23 : ¬ tX m77 0 (s2 0 0) = 23 := fun w => by
    rw [← et] at w
    exact ne ((km_v (rm_k ra tk g z).1).2.2.2.2.2.2.2.2.1.mpr w)
  refine ⟨k + 1, pStep (tX m77) s2, qStep (tX m77) s2 E2, r, by omega, ?_, fun w => ?_, ?_, fun y => lm_s (rl z) l y et I z hs⟩
  · rw [← rb, show 401 - k = 401 - (k + 1) + 1 by omega]
    exact (run_st ⟨z0, n23⟩).symm
  · have y := pg (r.1.1.trans w)
    rw [(r.1.2.2 w).1] at y
    omega
  · rw [← rq, show 401 - k = 401 - (k + 1) + 1 by omega]
    exact (qrun_st ⟨z0, n23⟩).symm
theorem rn_L (ra : RM (tX m77) N S s2 m) (tk : tkN m77 N) (g : PX m77 m) (rq : qRun (tX m77) (401 - k) s2 E2 = Q) (rl : rd m 284 13 = 0 → LMs m S E2) (c : ¬ rd m 284 13 = 0 ∨ rd m 287 (Int.toNat (rd m 284 11)) = 0) : rd m 284 13 = 0 → LMs m S Q := fun z => by
  have n : ¬ (s2 0 1 = 0 ∧ ¬ tX m77 0 (s2 0 0) = 23) := fun w => by
    rcases c with c | c
    · exact c z
    · apply w.2
      rw [← (ra.1.2.2 w.1).1]
      exact (km_v (rm_k ra tk g z).1).2.2.2.2.2.2.2.2.1.mp c
  rw [qrun_no n] at rq
  rw [← rq]
  exact rl z
end RNQ
/-- what a text tells, in the half l -/
def dL (s : Ps) (l : Int) (m : Mm) : Prop := (rd m 293 (Int.toNat l) = s 0 5 ∧ rd m 294 (Int.toNat l) = s 0 6 ∧ rd m 306 (Int.toNat l) = s 0 7 ∧ rd m 295 (Int.toNat l) = s 0 8 ∧ rd m 298 (Int.toNat l) = s 0 9 ∧ rd m 302 (Int.toNat l) = s 0 10) ∧ (∀ j : Nat, (j : Int) < s 0 8 → rd m 296 (8 * Int.toNat l + j) = s 1 j ∧ rd m 297 (8 * Int.toNat l + j) = s 2 j) ∧ (∀ j : Nat, (j : Int) < s 0 9 → rd m 299 (10 * Int.toNat l + j) = s 3 j ∧ rd m 300 (10 * Int.toNat l + j) = s 4 j ∧ rd m 301 (10 * Int.toNat l + j) = s 5 j) ∧ (∀ j : Nat, (j : Int) < s 0 10 → rd m 303 (3 * Int.toNat l + j) = s 6 j ∧ rd m 304 (3 * Int.toNat l + j) = s 7 j) ∧ ∀ j : Nat, (j : Int) < 6 * s 0 10 → rd m 305 (18 * Int.toNat l + j) = s 8 j
theorem dL_of {s : Ps} {S : Int} {m : Mm} (h : dM s S m) : dL s S m := by
  obtain ⟨⟨a, b, c, d, e, f, -⟩, h2, h3, h4, h5⟩ := h
  exact ⟨⟨a, b, c, d, e, f⟩, h2, h3, fun j q => ⟨(h4 j q).1, (h4 j q).2.1⟩, h5⟩
theorem dL_fr {s : Ps} {l : Int} {m m2 : Mm} (h : dL s l m) (f : ∀ i j : Nat, (293 ≤ i ∧ i ≤ 306) → rd m2 i j = rd m i j) : dL s l m2 := by
  obtain ⟨⟨a, b, c, d, e, g⟩, h2, h3, h4, h5⟩ := h
  refine ⟨⟨by rw [f _ _ (by omega)]; exact a, by rw [f _ _ (by omega)]; exact b, by rw [f _ _ (by omega)]; exact c, by rw [f _ _ (by omega)]; exact d, by rw [f _ _ (by omega)]; exact e, by rw [f _ _ (by omega)]; exact g⟩, fun j q => ?_, fun j q => ?_, fun j q => ?_, fun j q => ?_⟩
  · rw [f _ _ (by omega), f _ _ (by omega)]; exact h2 j q
  · rw [f _ _ (by omega), f _ _ (by omega), f _ _ (by omega)]; exact h3 j q
  · rw [f _ _ (by omega), f _ _ (by omega)]; exact h4 j q
  · rw [f _ _ (by omega)]; exact h5 j q
/-- the laws of the half that lives -/
def LMq (m : Mm) (E : Lw) : Prop := ∀ k : Int, 0 ≤ k → k < 4 → (rd m 307 (Int.toNat (4 * rd m 284 18 + k)) = rd m 308 (Int.toNat (4 * rd m 284 18 + k)) ∧ E k = dE k) ∨ (brL m (420 * rd m 284 18) (420 * rd m 284 18 + 420) (rd m 307 (Int.toNat (4 * rd m 284 18 + k))) (E k).1 (E k).2 (rd m 308 (Int.toNat (4 * rd m 284 18 + k))) ∧ (130 * rd m 284 18 ≤ rd m 307 (Int.toNat (4 * rd m 284 18 + k)) ∧ rd m 308 (Int.toNat (4 * rd m 284 18 + k)) ≤ 130 * rd m 284 18 + 130))
theorem LM_of {m : Mm} {E : Lw} (h : LMq m E) (w : ∀ k : Int, 0 ≤ k → k < 4 → wfE (E k)) : LM m E := fun k h1 h2 => ⟨w k h1 h2, h k h1 h2⟩
theorem LMq_fr {m m2 : Mm} {E : Lw} (h : LMq m E) (l : 0 ≤ rd m 284 18) (e : rd m2 284 18 = rd m 284 18) (f : ∀ i j : Nat, (307 ≤ i ∧ i ≤ 315) → rd m2 i j = rd m i j) : LMq m2 E := fun k h1 h2 => by
  rw [e, f 307 _ (by omega), f 308 _ (by omega)]
  rcases h k h1 h2 with q | ⟨q, r⟩
  · exact Or.inl q
  · exact Or.inr ⟨brL_fr (by omega) (Int.le_refl _) (by omega) q (fun i j w => f i j (by omega)), r⟩
def pdM (m : Mm) (s : Ps) (E : Lw) : Prop := dL s (rd m 284 18) m ∧ LMq m E ∧ rd m 284 59 = shL m (Int.toNat (rd m 295 (Int.toNat (rd m 284 18)))) ∧ rd m 284 58 = rd m 306 (Int.toNat (rd m 284 18))
/-- the row of now is the one that the plan begins with; none was undone -/
def rwM (m : Mm) : Prop := (∀ j : Nat, j < 51 → rd m 323 j = r0L m (Int.toNat (rd m 302 (Int.toNat (rd m 284 18)))) j) ∧ (∀ j : Nat, j < 51 → rd m 322 j = rd m 323 j) ∧ rd m 284 60 = 0
theorem shL_fr {m m2 : Mm} (e : rd m2 284 18 = rd m 284 18) (f : ∀ i j : Nat, (293 ≤ i ∧ i ≤ 306) → rd m2 i j = rd m i j) : shL m2 = shL m := by
  unfold shL
  rw [e, f 293 _ (by omega), show (fun k => rd m2 296 (8 * Int.toNat (rd m 284 18) + k)) = (fun k => rd m 296 (8 * Int.toNat (rd m 284 18) + k)) from funext fun k => f 296 _ (by omega), show (fun k => rd m2 297 (8 * Int.toNat (rd m 284 18) + k)) = (fun k => rd m 297 (8 * Int.toNat (rd m 284 18) + k)) from funext fun k => f 297 _ (by omega)]
theorem r0L_fr {m m2 : Mm} (e : rd m2 284 18 = rd m 284 18) (f : ∀ i j : Nat, (293 ≤ i ∧ i ≤ 306) → rd m2 i j = rd m i j) : r0L m2 = r0L m := by
  have F : ∀ i n : Nat, (293 ≤ i ∧ i ≤ 306) → (fun k => rd m2 i (n + k)) = (fun k => rd m i (n + k)) := fun i n h => funext fun k => f i _ h
  funext n
  unfold r0L
  rw [e, f 293 _ (by omega), f 298 _ (by omega), F 299 _ (by omega), F 300 _ (by omega), F 301 _ (by omega), F 303 _ (by omega), F 304 _ (by omega), F 305 _ (by omega)]
theorem pd_220 {m m188 m220 : Mm} {S v : Int} {s : Ps} {E : Lw} (h : dL s S m ∧ LMs m S E) (T : Ty m) (I : rdI m S) (hs : 0 ≤ S ∧ S ≤ 1) (e188 : m188 = wt m 284 17 v) (s188 : rd m188 284 19 = S) (e220 : m220 = wt m188 284 18 (rd m188 284 19)) (z : rd m 284 13 = 0) : dL s (rd m220 284 18) m220 ∧ LMq m220 E := by
  have F : ∀ i j : Nat, ¬ i = 284 → rd m220 i j = rd m i j := fun i j q => by rw [e220, rd_wt, if_neg (by omega), e188, rd_wt, if_neg (by omega)]
  have e18 : rd m220 284 18 = S := by rw [e220, rd_wt, if_pos ⟨rfl, rfl⟩, wr_i (rd_rg _ _ _), s188]
  obtain ⟨-, i44, j44, i38, j38, -⟩ := I.2.2 z
  have t11 := ty_284_11 T
  refine ⟨by rw [e18]; exact dL_fr h.1 (fun i j q => F i j (by omega)), fun k h1 h2 => ?_⟩
  rw [e18, F 307 _ (by omega), F 308 _ (by omega)]
  rcases h.2 k h1 h2 with q | ⟨q, r⟩
  · exact Or.inl q
  · exact Or.inr ⟨brL_fr (by omega) (by omega) (by omega) q (fun i j w => F i j (by omega)), by omega⟩
theorem pd_238 {m220 m224 m228 m233 m238 : Mm} {s : Ps} {E : Lw} (h : dL s (rd m220 284 18) m220 ∧ LMq m220 E) (b : bgM m220 m224) (g : GX sBg m220 m224) (k : (∀ i j : Nat, ¬ i = 322 → rd m228 i j = rd m224 i j) ∧ ∀ j : Nat, j < 51 → rd m228 322 j = rd m224 323 j) (g2 : GX sMd m224 m228) (e233 : m233 = wt m228 284 60 0) (e238 : m238 = wt m233 284 72 0) (l : 0 ≤ rd m220 284 18 := by omega) : pdM m238 s E ∧ rwM m238 := by
  have F2 : ∀ i j : Nat, ¬ (i = 284 ∧ (j = 60 ∨ j = 72)) → rd m238 i j = rd m228 i j := fun i j q => by rw [e238, rd_wt, if_neg (by omega), e233, rd_wt, if_neg (by omega)]
  have F : ∀ i j : Nat, ¬ i = 322 → ¬ (i = 284 ∧ (j = 60 ∨ j = 72)) → rd m238 i j = rd m224 i j := fun i j q p => (F2 i j p).trans (k.1 i j q)
  have G : ∀ i j : Nat, (293 ≤ i ∧ i ≤ 315) → rd m238 i j = rd m220 i j := fun i j q => (F i j (by omega) (by omega)).trans (g.2.1 i j (sBg_no (by omega)))
  have e18 : rd m238 284 18 = rd m220 284 18 := (F 284 18 (by omega) (by omega)).trans (g.2.1 284 18 rfl)
  obtain ⟨b1, b2, b3⟩ := b
  refine ⟨⟨by rw [e18]; exact dL_fr h.1 (fun i j q => G i j (by omega)), LMq_fr h.2 l e18 (fun i j q => G i j (by omega)), ?_, ?_⟩, fun j hj => ?_, fun j hj => ?_, ?_⟩
  · rw [F 284 59 (by omega) (by omega), b1, shL_fr e18 (fun i j q => G i j (by omega)), e18, G 295 _ (by omega)]
  · rw [F 284 58 (by omega) (by omega), b3, e18, G 306 _ (by omega)]
  · rw [F 323 j (by omega) (by omega), b2 j hj, r0L_fr e18 (fun i j q => G i j (by omega)), e18, G 302 _ (by omega)]
  · rw [F2 322 j (by omega), k.2 j hj, F 323 j (by omega) (by omega)]
  · rw [e238, rd_wt, if_neg (by omega), e233, rd_wt, if_pos ⟨rfl, rfl⟩]; rfl
theorem pd_254 {m m2 : Mm} {s : Ps} {E : Lw} {x v : Int} (h : pdM m s E ∧ rwM m) (e : m2 = wt m 339 (Int.toNat x) v) (l : 0 ≤ rd m 284 18 := by omega) : pdM m2 s E ∧ rwM m2 := by
  have F : ∀ i j : Nat, ¬ i = 339 → rd m2 i j = rd m i j := fun i j q => by rw [e, rd_wt, if_neg (by omega)]
  obtain ⟨⟨a, b, c, d⟩, r1, r2, r3⟩ := h
  refine ⟨⟨by rw [F 284 18 (by omega)]; exact dL_fr a (fun i j q => F i j (by omega)), LMq_fr b l (F 284 18 (by omega)) (fun i j q => F i j (by omega)), ?_, ?_⟩, fun j hj => ?_, fun j hj => ?_, ?_⟩
  · rw [F 284 59 (by omega), c, shL_fr (F 284 18 (by omega)) (fun i j q => F i j (by omega)), F 284 18 (by omega), F 295 _ (by omega)]
  · rw [F 284 58 (by omega), d, F 284 18 (by omega), F 306 _ (by omega)]
  · rw [F 323 j (by omega), r1 j hj, r0L_fr (F 284 18 (by omega)) (fun i j q => F i j (by omega)), F 284 18 (by omega), F 302 _ (by omega)]
  · rw [F 322 j (by omega), F 323 j (by omega)]; exact r2 j hj
  · rw [F 284 60 (by omega)]; exact r3
/-- what stays until a half is made the other -/
def kf (m m2 : Mm) : Prop := ∀ i j : Nat, (i = 284 ∧ (j = 18 ∨ j = 58 ∨ j = 59 ∨ j = 60)) ∨ 293 ≤ i → rd m2 i j = rd m i j
theorem kf_r (m : Mm) : kf m m := fun _ _ _ => rfl
theorem kf.wt {m m1 m2 : Mm} {i j : Nat} {v : Int} (h : kf m m1) (hi : i < 293 ∧ ¬ (i = 284 ∧ (j = 18 ∨ j = 58 ∨ j = 59 ∨ j = 60))) (e : m2 = wt m1 i j v) : kf m m2 := fun a b q => by
  rw [e, rd_wt, if_neg (by omega)]; exact h a b q
theorem kf.dx {m m1 m2 : Mm} (h : kf m m1) (g : DX m1 m2) : kf m m2 := fun a b q => by
  rcases q with ⟨rfl, rfl | rfl | rfl | rfl⟩ | q
  · exact (g.2.1 284 18 rfl).trans (h _ _ (Or.inl ⟨rfl, by decide⟩))
  · exact (g.2.1 284 58 rfl).trans (h _ _ (Or.inl ⟨rfl, by decide⟩))
  · exact (g.2.1 284 59 rfl).trans (h _ _ (Or.inl ⟨rfl, by decide⟩))
  · exact (g.2.1 284 60 rfl).trans (h _ _ (Or.inl ⟨rfl, by decide⟩))
  · refine (g.2.1 a b ?_).trans (h a b (Or.inr q))
    unfold sDt
    rw [nb_ne (by omega : ¬ a = 287), nb_ne (by omega : ¬ a = 288), nb_ne (by omega : ¬ a = 289), nb_ne (by omega : ¬ a = 284)]
    rfl
/-- what a text that is refused leaves -/
def kfM (m m2 : Mm) : Prop := (∀ i j : Nat, (i = 284 ∧ (j = 18 ∨ j = 58 ∨ j = 59 ∨ j = 60)) ∨ 317 ≤ i → rd m2 i j = rd m i j) ∧ ∀ i j : Nat, (293 ≤ i ∧ i ≤ 315) → ¬ inP (1 - rd m 284 18) i j → rd m2 i j = rd m i j
theorem kf_px {m m77 m158 m188 : Mm} {v : Int} (h : kf m m77) (g : PX m77 m158) (s77 : rd m77 284 19 = 1 - rd m 284 18) (_l : 0 ≤ rd m 284 18 ∧ rd m 284 18 ≤ 1) (e : m188 = wt m158 284 17 v) : kfM m m188 := by
  refine ⟨fun i j q => ?_, fun i j q p => ?_⟩
  · rw [e, rd_wt, if_neg (by omega), g.2.1 i j (inP_no (by omega) (by omega))]
    exact h i j (by omega)
  · rw [e, rd_wt, if_neg (by omega), g.2.1 i j (by rw [s77]; exact p)]
    exact h i j (by omega)
-- TippedCratesModel.read()I
set_option maxRecDepth 20000 in
set_option maxHeartbeats 4000000 in
theorem mz_186 {m0 m : Mm}  {b w : Nat → Int} {n : Int} (g_m : MB m0 m)  (p0 : MI m) (p1 : tksC b n w m) (p2 : rd m 284 2 = n) (p3 : ∀ j : Nat, (j : Int) < n → uB m 285 j = b j) (p4 : ∀ q : Nat, q < 21 → ld m 291 q = w q) (p5 : ∀ p q : Nat, p < 21 → q < 21 → w p = w q → p = q) : CK 8 186 [.ref 284] m (fun m2 v => MB m0 m2 ∧ (((MI m2 ∧ rd m2 284 2 = 0) ∧ (rdM m m2 n v)) ∧ ((v = 0 → pdM m2 (pRun (tX m2) 401 ps_0) (qRun (tX m2) 401 ps_0 dE) ∧ rwM m2) ∧ (¬ v = 0 → kfM m m2)))) := by
  refine br_186  ?_
  unfold P_186
  have t2 := ty_284_2 g_m.1
  have tl := ty_284_18 g_m.1
  have t1 := ty_284_2 g_m.1
  intro m5 e_m5
  have g_m5 : MB m0 m5 := by rw [e_m5]; exact MB.wt g_m (tw_284_4 g_m.1 ⟨by omega, by omega⟩) (by decide)
  have lv5 : lvFr m m5 := lv_wt (lv_refl m) (by omega) e_m5
  have f5 : rd m5 284 4 = n := by rw [e_m5, rd_wt, if_pos ⟨rfl, rfl⟩, wr_i (rd_rg _ _ _)]; exact p2
  have kf5 : kf m m5 := (kf_r m).wt (by omega) e_m5
  refine ⟨fun x1_10 m_10 => MB m0 m_10 ∧ ((((0 ≤ x1_10 ∧ x1_10 ≤ 2000) ∧ lvFr m m_10) ∧ ((rd m_10 284 4 = n ∧ x1_10 ≤ n) ∧ (∀ j : Nat, (j : Int) < x1_10 → rd m_10 286 j = rd m 285 j) ∧ cpF m m_10)) ∧ (kf m m_10)), fun x1_10 m_10 => Int.toNat (2000 - x1_10), ?_, ?_⟩
  · exact ⟨g_m5, by exact ⟨by exact ⟨by exact ⟨by omega, lv5⟩, by exact ⟨⟨f5, by omega⟩, fun j hj => by omega, cpf_0 e_m5⟩⟩, by exact kf5⟩⟩
  · intro x1_10 m_10 r_x1_10 hI_10
    obtain ⟨g_m_10, hI_10⟩ := hI_10
    obtain ⟨hI_10, dI_10⟩ := hI_10
    obtain ⟨hI_10, cI_10⟩ := hI_10
    have t10 := ty_284_4 g_m_10.1
    have t2 := ty_284_4 g_m_10.1
    refine ⟨fun hq => ?_, fun hq => ?_⟩
    · skip
      intro m38 e_m38
      have g_m38 : MB m0 m38 := by rw [e_m38]; exact MB.wt g_m_10 (tw_284_2 g_m_10.1 ⟨by omega, by omega⟩) (by decide)
      have lv38 : lvFr m m38 := lv_wt hI_10.2 (by omega) e_m38
      have z38 : rd m38 284 2 = 0 := by rw [e_m38, rd_wt, if_pos ⟨rfl, rfl⟩]; rfl
      have c38 : cpF m m38 := cI_10.2.2.wt (Or.inr (by omega)) e_m38
      have k38 : rd m38 284 4 = n := by rw [e_m38, rd_wt, if_neg (by omega)]; exact cI_10.1.1
      have x38 : ∀ j : Nat, (j : Int) < n → rd m38 286 j = rd m 285 j := fun j hj => by rw [e_m38, rd_wt, if_neg (by omega)]; exact cI_10.2.1 j (by omega)
      have tk38 : tksC b n w m38 := tks_fr p1 (fun _ => rfl) rfl (fun _ => rfl) (fun j => c38.2.1 2 j (by omega)) (fun j => c38.2.1 3 j (by omega)) (fun j => c38.2.2 4 j)
      have kf38 : kf m m38 := dI_10.wt (by omega) e_m38
      refine CV.mono (mx_178   (DX_refl g_m38.1) tk38 k38 (fun j hj => by have q := p3 j hj; unfold uB at q ⊢; rw [x38 j hj]; exact q) (fun q hq => (c38.2.2 291 q).trans (p4 q hq)) p5) (by decide) ?_
      rintro m42 ⟨hc_m42, h_m42⟩
      have g_m42 : MB m0 m42 := MB.dx g_m38 hc_m42
      have lv42 : lvFr m m42 := lv_dx lv38 hc_m42
      have z42 : rd m42 284 2 = 0 := by rw [hc_m42.2.1 284 2 rfl]; exact z38
      obtain ⟨N, tkm⟩ := h_m42
      have kf42 : kf m m42 := kf38.dx hc_m42
      intro m47 e_m47
      have g_m47 : MB m0 m47 := by rw [e_m47]; exact MB.wt g_m42 (tw_284_11 g_m42.1 ⟨by omega, by omega⟩) (by decide)
      have lv47 : lvFr m m47 := lv_wt lv42 (by omega) e_m47
      intro m52 e_m52
      have g_m52 : MB m0 m52 := by rw [e_m52]; exact MB.wt g_m47 (tw_284_12 g_m47.1 ⟨by omega, by omega⟩) (by decide)
      have lv52 : lvFr m m52 := lv_wt lv47 (by omega) e_m52
      intro m57 e_m57
      have g_m57 : MB m0 m57 := by rw [e_m57]; exact MB.wt g_m52 (tw_284_13 g_m52.1 (by first | assumption | omega)) (by decide)
      have lv57 : lvFr m m57 := lv_wt lv52 (by omega) e_m57
      intro m62 e_m62
      have g_m62 : MB m0 m62 := by rw [e_m62]; exact MB.wt g_m57 (tw_284_15 g_m57.1 (by first | assumption | omega)) (by decide)
      have lv62 : lvFr m m62 := lv_wt lv57 (by omega) e_m62
      have l62 : rd m62 284 18 = rd m 284 18 := lv62.1
      have t3 := ty_284_18 g_m62.1
      try have w4 : wr (1 - (rd m62 284 18)) = 1 - (rd m62 284 18) := wr_id (by omega) (by omega)
      intro m72 e_m72
      have g_m72 : MB m0 m72 := by rw [e_m72]; exact MB.wt g_m62 (tw_284_19 g_m62.1 ⟨by omega, by omega⟩) (by decide)
      have lv72 : lvFr m m72 := lv_wt lv62 (by omega) e_m72
      intro m77 e_m77
      have g_m77 : MB m0 m77 := by rw [e_m77]; exact MB.wt g_m72 (tw_284_20 g_m72.1 ⟨by omega, by omega⟩) (by decide)
      have lv77 : lvFr m m77 := lv_wt lv72 (by omega) e_m77
      have s77 : rd m77 284 19 = 1 - rd m 284 18 := by rw [e_m77, rd_wt, if_neg (by omega), e_m72, rd_wt, if_pos ⟨rfl, rfl⟩, wr_i (wr_rg _), l62, wr_id (by omega) (by omega)]
      have z77 : rd m77 284 2 = 0 := by rw [e_m77, rd_wt, if_neg (by omega), e_m72, rd_wt, if_neg (by omega), e_m62, rd_wt, if_neg (by omega), e_m57, rd_wt, if_neg (by omega), e_m52, rd_wt, if_neg (by omega), e_m47, rd_wt, if_neg (by omega)]; exact z42
      have n77_20 : rd m77 284 20 = 0 := by rw [e_m77, rd_wt, if_pos ⟨rfl, rfl⟩]; rfl
      have n77_15 : rd m77 284 15 = 0 := by rw [e_m77, rd_wt, if_neg (by omega), e_m72, rd_wt, if_neg (by omega), e_m62, rd_wt, if_pos ⟨rfl, rfl⟩]; rfl
      have n77_13 : rd m77 284 13 = 0 := by rw [e_m77, rd_wt, if_neg (by omega), e_m72, rd_wt, if_neg (by omega), e_m62, rd_wt, if_neg (by omega), e_m57, rd_wt, if_pos ⟨rfl, rfl⟩]; rfl
      have n77_12 : rd m77 284 12 = 0 := by rw [e_m77, rd_wt, if_neg (by omega), e_m72, rd_wt, if_neg (by omega), e_m62, rd_wt, if_neg (by omega), e_m57, rd_wt, if_neg (by omega), e_m52, rd_wt, if_pos ⟨rfl, rfl⟩]; rfl
      have n77_11 : rd m77 284 11 = 0 := by rw [e_m77, rd_wt, if_neg (by omega), e_m72, rd_wt, if_neg (by omega), e_m62, rd_wt, if_neg (by omega), e_m57, rd_wt, if_neg (by omega), e_m52, rd_wt, if_neg (by omega), e_m47, rd_wt, if_pos ⟨rfl, rfl⟩]; rfl
      have d77 : ∀ i j : Nat, ¬ i = 284 → rd m77 i j = rd m42 i j := fun i j q => by rw [e_m77, rd_wt, if_neg (by omega), e_m72, rd_wt, if_neg (by omega), e_m62, rd_wt, if_neg (by omega), e_m57, rd_wt, if_neg (by omega), e_m52, rd_wt, if_neg (by omega), e_m47, rd_wt, if_neg (by omega)]
      have l77 : ∀ i j : Nat, ld m77 i j = ld m42 i j := fun i j => by rw [e_m77, e_m72, e_m62, e_m57, e_m52, e_m47]; rfl
      have tk77 : tkN m77 N := tkn_of tkm hc_m42 d77 l77
      have ts77 : tksC b n w m77 := tks_fr tk38 (fun _ => rfl) rfl (fun _ => rfl) (fun j => by rw [d77 2 j (by omega)]; exact hc_m42.2.1 2 j rfl) (fun j => by rw [d77 3 j (by omega)]; exact hc_m42.2.1 3 j rfl) (fun j => by rw [l77]; exact hc_m42.2.2 4 j (by decide))
      have rf77 : rfE m m77 := rfe_a c38 hc_m42 (by rw [e_m38, rd_wt, if_neg (by omega)]; exact cI_10.2.2.2.1 284 72 (by omega)) d77 l77 (by rw [e_m77, rd_wt, if_neg (by omega), e_m72, rd_wt, if_neg (by omega), e_m62, rd_wt, if_neg (by omega), e_m57, rd_wt, if_neg (by omega), e_m52, rd_wt, if_neg (by omega), e_m47, rd_wt, if_neg (by omega)])
      have kf77 : kf m m77 := (((((kf42.wt (by omega) e_m47).wt (by omega) e_m52).wt (by omega) e_m57).wt (by omega) e_m62).wt (by omega) e_m72).wt (by omega) e_m77
      have t5 := ty_284_19 g_m77.1
      refine CV.mono (mx_185   (PX.refl g_m77.1) (rd_rg _ _ _) rfl) (by decide) ?_
      rintro m85 ⟨hc_m85, h_m85⟩
      have g_m85 : MB m0 m85 := MB.px g_m77 hc_m85
      obtain ⟨h_m85, pz⟩ := h_m85
      have pl := h_m85
      have s85 : rd m85 284 19 = rd m77 284 19 := (PX.s hc_m85).1
      have t6 := ty_284_19 g_m85.1
      try have w7 : wr (130 * (rd m85 284 19)) = 130 * (rd m85 284 19) := wr_id (by omega) (by omega)
      intro m97 e_m97
      have g_m97 : MB m0 m97 := by rw [e_m97]; exact MB.wt g_m85 (tw_284_38 g_m85.1 ⟨by omega, by omega⟩) (by decide)
      have s97 : rd m97 284 19 = rd m77 284 19 := by rw [e_m97, rd_wt, if_neg (by omega)]; exact s85
      have px97 : PX m77 m97 := by rw [e_m97]; exact PX.wt hc_m85 (tw_284_38 hc_m85.1 ⟨by omega, by omega⟩) (inP_284 (by omega))
      have t8 := ty_284_19 g_m97.1
      try have w9 : wr (420 * (rd m97 284 19)) = 420 * (rd m97 284 19) := wr_id (by omega) (by omega)
      intro m109 e_m109
      have g_m109 : MB m0 m109 := by rw [e_m109]; exact MB.wt g_m97 (tw_284_44 g_m97.1 ⟨by omega, by omega⟩) (by decide)
      have px109 : PX m77 m109 := by rw [e_m109]; exact PX.wt px97 (tw_284_44 px97.1 ⟨by omega, by omega⟩) (inP_284 (by omega))
      have ri : rdI m109 (rd m77 284 19) := rd_0 (by omega) pl n77_11 n77_12 n77_13 n77_15 n77_20 (v := wr (130 * rd m85 284 19)) (w := wr (420 * rd m97 284 19)) (by omega) (by omega) e_m97 e_m109
      have rm109 : RM (tX m77) N (rd m77 284 19) (ps_0) m109 := rz_0 tk77 pl pz (by omega) n77_11 n77_13 n77_15 n77_20 e_m97 e_m109
      refine ⟨fun m_112 => MB m0 m_112 ∧ ((PX m77 m_112 ∧ rdI m_112 (rd m77 284 19)) ∧ (qmI (tX m77) N (rd m77 284 19) (pRun (tX m77) 401 ps_0) (qRun (tX m77) 401 ps_0 dE) m_112)), fun m_112 => Int.toNat (10000 - rd m_112 284 11 - 1000 * rd m_112 284 13), ?_, ?_⟩
      · exact ⟨g_m109, by exact ⟨by exact ⟨px109, ri⟩, by exact ⟨0, ps_0, dE, rm109, by omega, rfl, fun _ => Int.le_refl _, rfl, fun _ => lms_0 pl (by omega) e_m97 e_m109⟩⟩⟩
      · intro m_112  hI_112
        obtain ⟨g_m_112, hI_112⟩ := hI_112
        obtain ⟨hI_112, cI_112⟩ := hI_112
        have f112 := hI_112.2.1
        have t112 := ty_284_11 hI_112.1.1
        obtain ⟨k, s2, E2, ra, rk, rb, rc, rq, rl⟩ := cI_112
        refine ⟨fun m_134 => MB m0 m_134 ∧ (((PX m77 m_134 ∧ rdI m_134 (rd m77 284 19)) ∧ (RM (tX m77) N (rd m77 284 19) ((pRun (tX m77) 401 ps_0)) m_134 ∧ (rd m_134 284 13 = 0 → rd m_134 287 (Int.toNat (rd m_134 284 11)) = 0))) ∧ (rd m_134 284 13 = 0 → LMs m_134 (rd m77 284 19) (qRun (tX m77) 401 ps_0 dE))), ?_, ?_⟩
        · skip
          refine ⟨fun hq => ?_, fun hq => ?_⟩
          · skip
            exact ⟨g_m_112, by exact ⟨by exact ⟨by exact hI_112, by exact rn_R ra tk77 hI_112.1 rb (by omega)⟩, by exact rn_L ra tk77 hI_112.1 rq rl (by omega)⟩⟩
          · skip
            refine CK.mono (ct_180   g_m_112.1 (by unfold rg; decide)) (by decide) ?_
            rintro m121 v121 r_v121 ⟨e_m121, h_m121⟩
            replace e_m121 := e_m121.symm
            subst e_m121
            refine ⟨fun hq => ?_, fun hq => ?_⟩
            · skip
              exact ⟨g_m_112, by exact ⟨by exact ⟨by exact hI_112, by exact rn_R ra tk77 hI_112.1 rb (by omega)⟩, by exact rn_L ra tk77 hI_112.1 rq rl (by omega)⟩⟩
            · skip
              refine CV.mono (mz_192   hI_112.1 hI_112.2 (by omega) tk77 ra) (by decide) ?_
              rintro m128 ⟨hc_m128, h_m128⟩
              have g_m128 : MB m0 m128 := MB.px g_m77 hc_m128
              obtain ⟨h_m128, q_m128⟩ := h_m128
              obtain ⟨h_m128, r_m128⟩ := h_m128
              have q112 : rd m_112 284 13 = 0 := by omega
              have t128 := ty_284_11 hc_m128.1
              have b128 := h_m128.1.1
              have c128 := h_m128.2
              exact ⟨⟨g_m128, by exact ⟨by exact ⟨hc_m128, h_m128.1⟩, by exact rn_Q ra tk77 hI_112.1 rk rb rc rq rl q112 (by omega) r_m128 h_m128.2 q_m128 hI_112.2 (by omega)⟩⟩, by (try dsimp only); omega⟩
        · intro m_134  hR_134
          obtain ⟨g_m_134, hR_134⟩ := hR_134
          obtain ⟨hR_134, dR_134⟩ := hR_134
          obtain ⟨hR_134, cR_134⟩ := hR_134
          have w134 := hR_134.2.2.1
          have s134 : rd m_134 284 19 = rd m77 284 19 := (PX.s hR_134.1).1
          refine ⟨fun m_158 => MB m0 m_158 ∧ (((PX m77 m_158 ∧ rdI m_158 (rd m77 284 19) ∧ (rd m_158 284 13 = 0 → rd m_158 284 15 = 0 → bdOk m_158 (rd m77 284 19))) ∧ (aM (pRun (tX m77) 401 ps_0) n m_158)) ∧ (rd m_158 284 13 = 0 → rd m_158 284 15 = 0 → dL (pRun (tX m77) 401 ps_0) (rd m77 284 19) m_158 ∧ LMs m_158 (rd m77 284 19) (qRun (tX m77) 401 ps_0 dE))), ?_, ?_⟩
          · skip
            refine ⟨fun hq => ?_, fun hq => ?_⟩
            · skip
              exact ⟨g_m_134, by exact ⟨by exact ⟨by first | exact ⟨hR_134.1, hR_134.2, fun h1 h2 => absurd h1 (by omega)⟩ | exact ⟨hR_134.1, hR_134.2, fun h1 h2 => bd_of s134 (h_m142.resolve_right (by omega))⟩ | exact ⟨PX.ft hR_134.1 hx_m155, rd_wrong hR_134.2 hx_m155 (by omega) (by omega) (by omega) (by omega), fun h1 h2 => by omega⟩, by first | exact am_b cR_134.1 cR_134.2 tk77 ts77 hR_134.1 (by omega) b_m142 (by omega) s134 w_m155 (by omega) | exact am_n cR_134.1 (by omega) b_m142 (by omega) s134 | exact am_f cR_134.1 hq⟩, by first | (have z := hx_m155; exact fun h1 h2 => by omega) | (have z := b_m142; exact fun h1 h2 => ⟨dL_of (cR_134.1.2.2 (cR_134.1.1.1.symm.trans h1)), dR_134 h1⟩) | exact fun h1 h2 => absurd h1 hq⟩⟩
            · skip
              refine CK.mono (mx_190   g_m_134.1) (by decide) ?_
              rintro m142 v142 r_v142 ⟨e_m142, h_m142⟩
              replace e_m142 := e_m142.symm
              subst e_m142
              obtain ⟨h_m142, b_m142⟩ := h_m142
              refine ⟨fun hq => ?_, fun hq => ?_⟩
              · skip
                exact ⟨g_m_134, by exact ⟨by exact ⟨by first | exact ⟨hR_134.1, hR_134.2, fun h1 h2 => absurd h1 (by omega)⟩ | exact ⟨hR_134.1, hR_134.2, fun h1 h2 => bd_of s134 (h_m142.resolve_right (by omega))⟩ | exact ⟨PX.ft hR_134.1 hx_m155, rd_wrong hR_134.2 hx_m155 (by omega) (by omega) (by omega) (by omega), fun h1 h2 => by omega⟩, by first | exact am_b cR_134.1 cR_134.2 tk77 ts77 hR_134.1 (by omega) b_m142 (by omega) s134 w_m155 (by omega) | exact am_n cR_134.1 (by omega) b_m142 (by omega) s134 | exact am_f cR_134.1 hq⟩, by first | (have z := hx_m155; exact fun h1 h2 => by omega) | (have z := b_m142; exact fun h1 h2 => ⟨dL_of (cR_134.1.2.2 (cR_134.1.1.1.symm.trans h1)), dR_134 h1⟩) | exact fun h1 h2 => absurd h1 hq⟩⟩
              · skip
                have t12 := ty_284_11 g_m_134.1
                refine CV.mono (mx_182   g_m_134.1 (by unfold rg; decide) (rd_rg _ _ _) (by omega) (by omega) (by omega)) (by decide) ?_
                rintro m155 ⟨hx_m155, h_m155⟩
                have g_m155 : MB m0 m155 := MB.ft g_m_134 hx_m155
                obtain ⟨h_m155, w_m155⟩ := h_m155
                exact ⟨g_m155, by exact ⟨by exact ⟨by first | exact ⟨hR_134.1, hR_134.2, fun h1 h2 => absurd h1 (by omega)⟩ | exact ⟨hR_134.1, hR_134.2, fun h1 h2 => bd_of s134 (h_m142.resolve_right (by omega))⟩ | exact ⟨PX.ft hR_134.1 hx_m155, rd_wrong hR_134.2 hx_m155 (by omega) (by omega) (by omega) (by omega), fun h1 h2 => by omega⟩, by first | exact am_b cR_134.1 cR_134.2 tk77 ts77 hR_134.1 (by omega) b_m142 (by omega) s134 w_m155 (by omega) | exact am_n cR_134.1 (by omega) b_m142 (by omega) s134 | exact am_f cR_134.1 hq⟩, by first | (have z := hx_m155; exact fun h1 h2 => by omega) | (have z := b_m142; exact fun h1 h2 => ⟨dL_of (cR_134.1.2.2 (cR_134.1.1.1.symm.trans h1)), dR_134 h1⟩) | exact fun h1 h2 => absurd h1 hq⟩⟩
          · intro m_158  hR_158
            obtain ⟨g_m_158, hR_158⟩ := hR_158
            obtain ⟨hR_158, dR_158⟩ := hR_158
            obtain ⟨hR_158, cR_158⟩ := hR_158
            have f158 := hR_158.2.1.1
            have w158 := hR_158.2.1.2.1
            refine ⟨fun s1_188 => s1_188 = if 0 < rd m_158 284 13 then rd m_158 284 14 else if 0 < rd m_158 284 15 then rd m_158 284 16 else -1, ?_, ?_⟩
            · skip
              refine ⟨fun hq => ?_, fun hq => ?_⟩
              · skip
                refine ⟨fun hq => ?_, fun hq => ?_⟩
                · skip
                  (first | (rw [if_neg (by omega), if_neg (by omega)]) | (rw [if_neg (by omega), if_pos (by omega)]) | (rw [if_pos (by omega)]))
                · skip
                  (first | (rw [if_neg (by omega), if_neg (by omega)]) | (rw [if_neg (by omega), if_pos (by omega)]) | (rw [if_pos (by omega)]))
              · skip
                (first | (rw [if_neg (by omega), if_neg (by omega)]) | (rw [if_neg (by omega), if_pos (by omega)]) | (rw [if_pos (by omega)]))
            · intro s1_188 r_s1_188 hR_188
              have cR_188 := hR_188
              intro m188 e_m188
              have g_m188 : MB m0 m188 := by rw [e_m188]; exact MB.wt g_m_158 (tw_284_17 g_m_158.1 (by first | assumption | omega)) (by decide)
              have f188 : rd m188 284 13 = rd m_158 284 13 := by rw [e_m188, rd_wt, if_neg (by omega)]
              have w188 : rd m188 284 15 = rd m_158 284 15 := by rw [e_m188, rd_wt, if_neg (by omega)]
              have z188 : rd m188 284 2 = 0 := by rw [e_m188, rd_wt, if_neg (by omega), hR_158.1.2.1 284 2 (inP_no (by omega) (by omega))]; exact z77
              have mi188 : MI m188 := MI_px p0 lv77 (by omega) s77 hR_158.1 g_m188.1 e_m188
              have s188 : rd m188 284 19 = rd m77 284 19 := by rw [e_m188, rd_wt, if_neg (by omega)]; exact (PX.s hR_158.1).1
              have a188 := an_m cR_158 f158 w158 e_m188 cR_188
              have rf188 : rfE m m188 := rfe_b rf77 hR_158.1 e_m188
              have x188 : tX m188 = tX m77 := tx_b hR_158.1 e_m188
              have kf188 : kfM m m188 := kf_px kf77 hR_158.1 s77 (by omega) e_m188
              refine ⟨fun hq => ?_, fun hq => ?_⟩
              · skip
                refine ⟨fun hq => ?_, fun hq => ?_⟩
                · skip
                  have t19 := ty_284_19 g_m188.1
                  intro m220 e_m220
                  have g_m220 : MB m0 m220 := by rw [e_m220]; exact MB.wt g_m188 (tw_284_18 g_m188.1 ⟨by omega, by omega⟩) (by decide)
                  have ok220 := rd_ok (by omega) hR_158.1.1 hR_158.2.1 hR_158.2.2 (by omega) (by omega) e_m188 s188 e_m220
                  have mi220 : MI m220 := ⟨g_m220.1, ok220.1, ok220.2.1⟩
                  have z220 : rd m220 284 2 = 0 := by rw [e_m220, rd_wt, if_neg (by omega)]; exact z188
                  have rx220 : rfX m188 m220 := (rfx_r _).wt (by omega) e_m220
                  have d220 := pd_220 (dR_158 (by omega) (by omega)) hR_158.1.1 hR_158.2.1 (by omega) e_m188 s188 e_m220 (by omega)
                  refine CV.mono (mz_214   g_m220.1 ok220.1 ok220.2.2) (by decide) ?_
                  rintro m224 ⟨hx_m224, h_m224⟩
                  have g_m224 : MB m0 m224 := MB.bg g_m220 hx_m224
                  have b_m224 := h_m224.2
                  have mi224 : MI m224 := MI_fr mi220 hx_m224.1 (hx_m224.2.1 284 18 rfl) (fun i j h => hx_m224.2.1 i j (sBg_no (by omega)))
                  have z224 : rd m224 284 2 = 0 := (hx_m224.2.1 284 2 rfl).trans z220
                  have rx224 : rfX m188 m224 := rx220.gx hx_m224 (fun _ => rfl) rfl (fun _ => rfl) (fun _ => rfl)
                  refine CV.mono (mz_215   g_m224.1) (by decide) ?_
                  rintro m228 ⟨hx_m228, h_m228⟩
                  have g_m228 : MB m0 m228 := MB.md g_m224 hx_m228
                  have b_m228 := h_m228.2
                  have mi228 : MI m228 := MI_fr mi224 hx_m228.1 (hx_m228.2.1 284 18 rfl) (fun i j h => hx_m228.2.1 i j (sMd_no (by omega)))
                  have z228 : rd m228 284 2 = 0 := (hx_m228.2.1 284 2 rfl).trans z224
                  have rx228 : rfX m188 m228 := rx224.gx hx_m228 (fun _ => rfl) rfl (fun _ => rfl) (fun _ => rfl)
                  intro m233 e_m233
                  have g_m233 : MB m0 m233 := by rw [e_m233]; exact MB.wt g_m228 (tw_284_60 g_m228.1 ⟨by omega, by omega⟩) (by decide)
                  have mi233 : MI m233 := MI_wt mi228 g_m233.1 (by omega) e_m233
                  have z233 : rd m233 284 2 = 0 := by rw [e_m233, rd_wt, if_neg (by omega)]; exact z228
                  have rx233 : rfX m188 m233 := rx228.wt (by omega) e_m233
                  intro m238 e_m238
                  have g_m238 : MB m0 m238 := by rw [e_m238]; exact MB.wt g_m233 (tw_284_72 g_m233.1 ⟨by omega, by omega⟩) (by decide)
                  have mi238 : MI m238 := MI_wt mi233 g_m238.1 (by omega) e_m238
                  have z238 : rd m238 284 2 = 0 := by rw [e_m238, rd_wt, if_neg (by omega)]; exact z233
                  have rx238 : rfX m188 m238 := rx233.wt (by omega) e_m238
                  have rz238 : rd m238 284 72 = 0 := by rw [e_m238, rd_wt, if_pos ⟨rfl, rfl⟩]; rfl
                  have d238 : pdM m238 (pRun (tX m77) 401 ps_0) (qRun (tX m77) 401 ps_0 dE) ∧ rwM m238 := pd_238 d220 b_m224 hx_m224 b_m228 hx_m228 e_m233 e_m238 (ty_284_18 g_m220.1).1
                  refine ⟨fun x1_243 m_243 => MB m0 m_243 ∧ ((((0 ≤ x1_243 ∧ x1_243 ≤ 3) ∧ MI m_243 ∧ rd m_243 284 2 = 0) ∧ (x1_243 ≤ 3 ∧ rfX m188 m_243 ∧ (rd m_243 284 72 = 0) ∧ ∀ j : Nat, (j : Int) < x1_243 → rd m_243 339 j = 0)) ∧ (pdM m_243 (pRun (tX m77) 401 ps_0) (qRun (tX m77) 401 ps_0 dE) ∧ rwM m_243)), fun x1_243 m_243 => Int.toNat (3 - x1_243), ?_, ?_⟩
                  · exact ⟨g_m238, by exact ⟨by exact ⟨by exact ⟨by omega, mi238, z238⟩, by exact ⟨by omega, rx238, rz238, fun j hj => by omega⟩⟩, by exact d238⟩⟩
                  · intro x1_243 m_243 r_x1_243 hI_243
                    obtain ⟨g_m_243, hI_243⟩ := hI_243
                    obtain ⟨hI_243, dI_243⟩ := hI_243
                    obtain ⟨hI_243, cI_243⟩ := hI_243
                    refine ⟨fun hq => ?_, fun hq => ?_⟩
                    · skip
                      exact ⟨g_m_243, by exact ⟨by exact ⟨by first | exact hI_243.2 | exact ⟨mi188, z188⟩, by first | exact rdm_0 a188 x188 (by omega) (by omega) rf188 cI_243.2.1 cI_243.2.2.1 (fun j hj => cI_243.2.2.2 j (by omega)) | exact rdm_x a188 x188 rf188 (by omega)⟩, by first | exact ⟨fun _ => by rw [cI_243.2.1.2.2.1.trans x188]; exact dI_243, fun w => absurd rfl w⟩ | exact ⟨fun w => by omega, fun _ => kf188⟩⟩⟩
                    · skip
                      refine ⟨⟨by omega, by omega⟩, ?_⟩
                      intro m254 e_m254
                      have g_m254 : MB m0 m254 := by rw [e_m254]; exact MB.wt g_m_243 (tw_339 g_m_243.1 (nz_rg _)) (by decide)
                      have mi254 : MI m254 := MI_wt hI_243.2.1 g_m254.1 (by omega) e_m254
                      have z254 : rd m254 284 2 = 0 := by rw [e_m254, rd_wt, if_neg (by omega)]; exact hI_243.2.2
                      have r254 : rfX m188 m254 := cI_243.2.1.wt (by omega) e_m254
                      have d254 : pdM m254 (pRun (tX m77) 401 ps_0) (qRun (tX m77) 401 ps_0 dE) ∧ rwM m254 := pd_254 dI_243 e_m254 (ty_284_18 g_m_243.1).1
                      try have w20 : wr (x1_243 + 1) = x1_243 + 1 := wr_id (by omega) (by omega)
                      intro z1_255 e_z1_255
                      have r_z1_255 : rg z1_255 := by rw [e_z1_255]; exact wr_rg _
                      exact ⟨⟨g_m254, by exact ⟨by exact ⟨by exact ⟨by omega, mi254, z254⟩, by exact ⟨by omega, r254, by rw [e_m254, rd_wt, if_neg (by omega)]; exact cI_243.2.2.1, fun j hj => by rw [e_m254, rd_wt]; split; exact nz0; exact cI_243.2.2.2 j (by omega)⟩⟩, by exact d254⟩⟩, by (try dsimp only); omega⟩
                · skip
                  exact ⟨g_m188, by exact ⟨by exact ⟨by first | exact hI_243.2 | exact ⟨mi188, z188⟩, by first | exact rdm_0 a188 x188 (by omega) (by omega) rf188 cI_243.2.1 cI_243.2.2.1 (fun j hj => cI_243.2.2.2 j (by omega)) | exact rdm_x a188 x188 rf188 (by omega)⟩, by first | exact ⟨fun _ => by rw [cI_243.2.1.2.2.1.trans x188]; exact dI_243, fun w => absurd rfl w⟩ | exact ⟨fun w => by omega, fun _ => kf188⟩⟩⟩
              · skip
                exact ⟨g_m188, by exact ⟨by exact ⟨by first | exact hI_243.2 | exact ⟨mi188, z188⟩, by first | exact rdm_0 a188 x188 (by omega) (by omega) rf188 cI_243.2.1 cI_243.2.2.1 (fun j hj => cI_243.2.2.2 j (by omega)) | exact rdm_x a188 x188 rf188 (by omega)⟩, by first | exact ⟨fun _ => by rw [cI_243.2.1.2.2.1.trans x188]; exact dI_243, fun w => absurd rfl w⟩ | exact ⟨fun w => by omega, fun _ => kf188⟩⟩⟩
    · skip
      refine ⟨⟨by omega, by omega⟩, ?_⟩
      refine ⟨⟨by omega, by omega⟩, ?_⟩
      have t21 := ty_285 g_m_10.1 (Int.toNat x1_10)
      have nbf22 := nb_bd (rd m_10 285 (Int.toNat x1_10))
      intro m29 e_m29
      have g_m29 : MB m0 m29 := by rw [e_m29]; exact MB.wt g_m_10 (tw_286 g_m_10.1 ⟨by omega, by omega⟩) (by decide)
      have lv29 : lvFr m m29 := lv_wt hI_10.2 (by omega) e_m29
      have c29 : cpF m m29 := cI_10.2.2.wt (Or.inl rfl) e_m29
      have k29 : rd m29 284 4 = n := by rw [e_m29, rd_wt, if_neg (by omega)]; exact cI_10.1.1
      have t29 : ∀ j : Nat, (j : Int) < x1_10 + 1 → rd m29 286 j = rd m 285 j := cp_s cI_10.2.1 (by omega) cI_10.2.2.1 (ty_285 g_m_10.1 _) e_m29
      have kf29 : kf m m29 := dI_10.wt (by omega) e_m29
      try have w23 : wr (x1_10 + 1) = x1_10 + 1 := wr_id (by omega) (by omega)
      intro z1_30 e_z1_30
      have r_z1_30 : rg z1_30 := by rw [e_z1_30]; exact wr_rg _
      exact ⟨⟨g_m29, by exact ⟨by exact ⟨by exact ⟨by omega, lv29⟩, by exact ⟨⟨k29, by omega⟩, fun j hj => t29 j (by omega), c29⟩⟩, by exact kf29⟩⟩, by (try dsimp only); omega⟩
