def shM (m : Mm) (S : Nat) (x y : Int) (k : Nat) : Prop := rd m 296 (8 * S + k) = x ∧ rd m 297 (8 * S + k) = y
def ofM (m : Mm) (a b S w : Nat) (k : Nat) : Prop := rd m 293 S ≤ rd m a (w * S + k) ∨ rd m 294 S ≤ rd m b (w * S + k)
def cpM (m : Mm) (S c : Nat) (k : Nat) : Prop := rd m 303 (3 * S + k) = rd m 303 (3 * S + c) ∧ rd m 304 (3 * S + k) = rd m 304 (3 * S + c)
def crM (m : Mm) (S : Nat) (c : Nat) : Prop := ofM m 303 304 S 3 c ∨ exB (shM m S (rd m 303 (3 * S + c)) (rd m 304 (3 * S + c))) (rd m 295 S) ∨ exB (cpM m S c) c
def bydM (m : Mm) : Prop := exB (ofM m 296 297 (Int.toNat (rd m 284 19)) 8) (rd m 295 (Int.toNat (rd m 284 19))) ∨ exB (ofM m 299 300 (Int.toNat (rd m 284 19)) 10) (rd m 298 (Int.toNat (rd m 284 19))) ∨ exB (crM m (Int.toNat (rd m 284 19))) (rd m 302 (Int.toNat (rd m 284 19)))
theorem cr_no {m : Mm} {S c : Nat} (h1 : ¬ ofM m 303 304 S 3 c) (h2 : ¬ exB (shM m S (rd m 303 (3 * S + c)) (rd m 304 (3 * S + c))) (rd m 295 S)) (h3 : ¬ exB (cpM m S c) c) : ¬ crM m S c := by
  rintro (q | q | q)
  · exact h1 q
  · exact h2 q
  · exact h3 q
theorem by_c {m : Mm} {k : Nat} (hk : (k : Int) < rd m 302 (Int.toNat (rd m 284 19))) (h : crM m (Int.toNat (rd m 284 19)) k) : bydM m := Or.inr (Or.inr ⟨k, hk, h⟩)
theorem byd_m {s : Ps} {m : Mm} {S : Int} (e : rd m 284 19 = S) (d : dM s S m) : bydM m ↔ bydP s := by
  subst e
  obtain ⟨⟨e5, e6, -, e8, e9, e10, -⟩, h2, h3, h4, -⟩ := d
  unfold bydM bydP
  rw [e8, e9, e10]
  refine or_congr (ex_c fun k hk => ?_) (or_congr (ex_c fun k hk => ?_) (ex_c fun c hc => ?_))
  · have q := h2 k hk
    unfold ofM offP
    rw [q.1, q.2, e5, e6]
  · have q := h3 k hk
    unfold ofM offP
    rw [q.1, q.2.1, e5, e6]
  · have q := h4 c hc
    unfold crM
    rw [e8, q.1, q.2.1]
    refine or_congr ?_ (or_congr (ex_c fun k hk => ?_) (ex_c fun k hk => ?_))
    · unfold ofM offP
      rw [q.1, q.2.1, e5, e6]
    · have r := h2 k hk
      unfold shM
      rw [r.1, r.2]
    · have r := h4 k (by omega)
      unfold cpM
      rw [r.1, r.2.1, q.1, q.2.1]
/-- the tape as it is copied -/
def cpF (m m2 : Mm) : Prop := (∀ j, rd m2 285 j = rd m 285 j) ∧ (∀ i j : Nat, (i < 284 ∨ (i = 284 ∧ j = 72) ∨ i = 339) → rd m2 i j = rd m i j) ∧ ∀ i j : Nat, ld m2 i j = ld m i j
theorem cpF.wt {m m1 m2 : Mm} {i j : Nat} {v : Int} (h : cpF m m1) (hi : i = 286 ∨ (i = 284 ∧ ¬ j = 72)) (e : m2 = wt m1 i j v) : cpF m m2 := by
  have F : ∀ a b : Nat, ¬ (a = i ∧ b = j) → rd m2 a b = rd m1 a b := fun a b q => by rw [e, rd_wt, if_neg q]
  exact ⟨fun q => (F 285 q (by omega)).trans (h.1 q), fun a b q => (F a b (by omega)).trans (h.2.1 a b q), fun a b => by rw [e]; exact h.2.2 a b⟩
theorem cpf_0 {m m5 : Mm} {v : Int} (e : m5 = wt m 284 4 v) : cpF m m5 := by
  have z : cpF m m := ⟨fun _ => rfl, fun _ _ _ => rfl, fun _ _ => rfl⟩
  exact cpF.wt z (Or.inr (by omega)) e
theorem cp_s {m m1 m29 : Mm} {x : Int} (h : ∀ j : Nat, (j : Int) < x → rd m1 286 j = rd m 285 j) (x0 : 0 ≤ x) (f : ∀ j, rd m1 285 j = rd m 285 j) (r : -128 ≤ rd m1 285 (Int.toNat x) ∧ rd m1 285 (Int.toNat x) ≤ 127) (e : m29 = wt m1 286 (Int.toNat x) (nb (rd m1 285 (Int.toNat x)))) : ∀ j : Nat, (j : Int) < x + 1 → rd m29 286 j = rd m 285 j := by
  intro j hj
  by_cases q : j = Int.toNat x
  · subst q
    rw [e, rd_wt, if_pos ⟨rfl, rfl⟩, nb_eqv, wr_id (by omega) (by omega), ← f]
    omega
  · rw [e, rd_wt, if_neg (fun w => q w.2)]
    exact h j (by omega)
theorem tkn_of {m38 m42 m77 : Mm} {N : Int} (h : (0 ≤ N ∧ N ≤ 401) ∧ (∀ j : Nat, (j : Int) < N → mat m38 m42 j ∧ ¬ rd m38 2 j = 23) ∧ (N ≤ 400 → mat m38 m42 (Int.toNat N) ∧ rd m38 2 (Int.toNat N) = 23) ∧ ∀ j : Nat, (j : Int) < N → j + 1 ≤ 400 → rd m38 3 j < rd m38 3 (j + 1)) (g : DX m38 m42) (d : ∀ i j : Nat, ¬ i = 284 → rd m77 i j = rd m42 i j) (l : ∀ i j : Nat, ld m77 i j = ld m42 i j) : tkN m77 N := by
  have e2 : ∀ j, rd m77 2 j = rd m38 2 j := fun j => (d 2 j (by omega)).trans (g.2.1 2 j rfl)
  have e3 : ∀ j, rd m77 3 j = rd m38 3 j := fun j => (d 3 j (by omega)).trans (g.2.1 3 j rfl)
  have e4 : ∀ j, ld m77 4 j = ld m38 4 j := fun j => (l 4 j).trans (g.2.2 4 j (by decide))
  have M : ∀ j, mat m38 m42 j → mat m77 m77 j := fun j q => by
    unfold mat at q ⊢
    rw [d 288 j (by omega), d 287 j (by omega), d 289 j (by omega), l 290 j, e2, e3, e4]
    exact q
  refine ⟨h.1, fun j hj => ⟨M j (h.2.1 j hj).1, ?_⟩, fun hN => ⟨M _ (h.2.2.1 hN).1, ?_⟩, fun j hj h4 => ?_⟩
  · rw [e2]; exact (h.2.1 j hj).2
  · rw [e2]; exact (h.2.2.1 hN).2
  · rw [e3, e3]; exact h.2.2.2 j hj h4
/-- what a text read leaves as it was -/
def rfE (m m2 : Mm) : Prop := rd m2 284 72 = rd m 284 72 ∧ (∀ j, rd m2 339 j = rd m 339 j) ∧ (∀ j, rd m2 285 j = rd m 285 j) ∧ (∀ j, ld m2 291 j = ld m 291 j) ∧ tX m2 = tX m
def rfX (m m2 : Mm) : Prop := (∀ j, rd m2 285 j = rd m 285 j) ∧ (∀ j, ld m2 291 j = ld m 291 j) ∧ tX m2 = tX m ∧ rd m2 284 17 = rd m 284 17
theorem rfx_r (m : Mm) : rfX m m := ⟨fun _ => rfl, fun _ => rfl, rfl, rfl⟩
theorem rfX.wt {m m1 m2 : Mm} {i j : Nat} {v : Int} (h : rfX m m1) (hi : 284 ≤ i ∧ ¬ i = 285 ∧ ¬ (i = 284 ∧ j = 17)) (e : m2 = wt m1 i j v) : rfX m m2 := by
  have F : ∀ a b : Nat, ¬ (a = i ∧ b = j) → rd m2 a b = rd m1 a b := fun a b q => by rw [e, rd_wt, if_neg q]
  exact ⟨fun q => (F 285 q (by omega)).trans (h.1 q), fun q => by rw [e]; exact h.2.1 q, (tX_eq (fun q => F 2 q (by omega)) (fun q => F 3 q (by omega)) (fun q => by rw [e]; rfl)).trans h.2.2.1, (F 284 17 (by omega)).trans h.2.2.2⟩
theorem rfX.gx {S : Nat → Nat → Bool} {m m1 m2 : Mm} (h : rfX m m1) (g : GX S m1 m2) (h285 : ∀ j, S 285 j = false) (h17 : S 284 17 = false) (h2 : ∀ j, S 2 j = false) (h3 : ∀ j, S 3 j = false) : rfX m m2 :=
  ⟨fun q => (g.2.1 285 q (h285 q)).trans (h.1 q), fun q => (g.2.2 291 q).trans (h.2.1 q), (tX_eq (fun q => g.2.1 2 q (h2 q)) (fun q => g.2.1 3 q (h3 q)) (fun q => g.2.2 4 q)).trans h.2.2.1, (g.2.1 284 17 h17).trans h.2.2.2⟩
theorem rfe_a {m m38 m42 m77 : Mm} (c : cpF m m38) (g : DX m38 m42) (e38 : rd m38 284 72 = rd m 284 72) (d : ∀ i j : Nat, ¬ i = 284 → rd m77 i j = rd m42 i j) (l : ∀ i j : Nat, ld m77 i j = ld m42 i j) (e77 : rd m77 284 72 = rd m42 284 72) : rfE m m77 := by
  refine ⟨e77.trans ((g.2.1 284 72 rfl).trans e38), fun j => ?_, fun j => ?_, fun j => ?_, ?_⟩
  · exact (d 339 j (by omega)).trans ((g.2.1 339 j rfl).trans (c.2.1 339 j (by omega)))
  · exact (d 285 j (by omega)).trans ((g.2.1 285 j rfl).trans (c.1 j))
  · exact (l 291 j).trans ((g.2.2 291 j (by decide)).trans (c.2.2 291 j))
  · exact tX_eq (fun j => (d 2 j (by omega)).trans ((g.2.1 2 j rfl).trans (c.2.1 2 j (by omega)))) (fun j => (d 3 j (by omega)).trans ((g.2.1 3 j rfl).trans (c.2.1 3 j (by omega)))) (fun j => (l 4 j).trans ((g.2.2 4 j (by decide)).trans (c.2.2 4 j)))
theorem tx_b {m77 m158 m188 : Mm} {v : Int} (g : PX m77 m158) (e : m188 = wt m158 284 17 v) : tX m188 = tX m77 :=
  tX_eq (fun j => by rw [e, rd_wt, if_neg (by omega)]; exact g.2.1 2 j (inP_no (by omega) (by omega))) (fun j => by rw [e, rd_wt, if_neg (by omega)]; exact g.2.1 3 j (inP_no (by omega) (by omega))) (fun j => by rw [e]; exact g.2.2 4 j (by decide))
theorem rfe_b {m m77 m158 m188 : Mm} {v : Int} (h : rfE m m77) (g : PX m77 m158) (e : m188 = wt m158 284 17 v) : rfE m m188 := by
  have F : ∀ a b : Nat, ¬ (a = 284 ∧ b = 17) → rd m188 a b = rd m158 a b := fun a b q => by rw [e, rd_wt, if_neg q]
  refine ⟨?_, fun j => ?_, fun j => ?_, fun j => ?_, (tx_b g e).trans h.2.2.2.2⟩
  · exact (F 284 72 (by omega)).trans ((g.2.1 284 72 (inP_no (by omega) (by omega))).trans h.1)
  · exact (F 339 j (by omega)).trans ((g.2.1 339 j (inP_no (by omega) (by omega))).trans (h.2.1 j))
  · exact (F 285 j (by omega)).trans ((g.2.1 285 j (inP_no (by omega) (by omega))).trans (h.2.2.1 j))
  · rw [e]
    exact (g.2.2 291 j (by decide)).trans (h.2.2.2.1 j)
theorem rz_0 {m77 m85 m97 m109 : Mm} {N S v w : Int} (tk : tkN m77 N) (pl : plP m77 m85 S) (pz : (rd m85 295 (Int.toNat S) = 0 ∧ rd m85 306 (Int.toNat S) = 0) ∧ lf m77 m85) (hs : 0 ≤ S ∧ S ≤ 1) (n11 : rd m77 284 11 = 0) (n13 : rd m77 284 13 = 0) (n15 : rd m77 284 15 = 0) (n20 : rd m77 284 20 = 0) (e97 : m97 = wt m85 284 38 v) (e109 : m109 = wt m97 284 44 w) : RM (tX m77) N S ps_0 m109 := by
  have F : ∀ i j : Nat, ¬ (i = 284 ∧ (j = 38 ∨ j = 44)) → rd m109 i j = rd m85 i j := fun i j q => by rw [e109, rd_wt, if_neg (by omega), e97, rd_wt, if_neg (by omega)]
  obtain ⟨p1, p2, p3, p4, p5, -⟩ := pl
  have E : ∀ j : Nat, rd m85 284 j = rd m77 284 j := fun j => p1 284 j (by omega) (by omega)
  have n0 : ∀ j : Nat, ¬ (j : Int) < 0 := fun j h => by omega
  have N0 := tk.1
  refine ⟨⟨?_, fun q => absurd rfl q, fun _ => ⟨?_, ?_, fun q => absurd rfl q⟩⟩, fun _ => ⟨Int.le_refl 0, N0.1, by decide, fun q => absurd rfl q⟩, fun _ => ⟨⟨?_, ?_, ?_, ?_, ?_, ?_, ?_⟩, fun j h => absurd h (n0 j), fun j h => absurd h (n0 j), fun j h => absurd h (n0 j), fun j h => absurd (show (j : Int) < 6 * 0 from h) (by omega)⟩⟩
  · rw [F 284 13 (by omega), E]; exact n13
  · rw [F 284 11 (by omega), E]; exact n11
  · rw [F 284 15 (by omega), E]; exact n15
  · rw [F 293 _ (by omega)]; exact p2
  · rw [F 294 _ (by omega)]; exact p3
  · rw [F 306 _ (by omega)]; exact pz.1.2
  · rw [F 295 _ (by omega)]; exact pz.1.1
  · rw [F 298 _ (by omega)]; exact p4
  · rw [F 302 _ (by omega)]; exact p5
  · rw [F 284 20 (by omega), E]; exact n20
section RNS
variable {m77 m m128 : Mm} {N S : Int} {s2 P : Ps} {k : Nat}
theorem rn_B (ra : RM (tX m77) N S s2 m) (tk : tkN m77 N) (g : PX m77 m) (rk : k ≤ 401) (rb : pRun (tX m77) (401 - k) s2 = P) (rc : s2 0 1 = 0 → (k : Int) ≤ s2 0 0) (z : rd m 284 13 = 0) (ne : ¬ rd m 287 (Int.toNat (rd m 284 11)) = 0) (r : RM (tX m77) N S (pStep (tX m77) s2) m128) (pg : rd m128 284 13 = 0 → rd m 284 11 + 1 ≤ rd m128 284 11) : ∃ (k : Nat) (s2 : Ps), RM (tX m77) N S s2 m128 ∧ k ≤ 401 ∧ pRun (tX m77) (401 - k) s2 = P ∧ (s2 0 1 = 0 → (k : Int) ≤ s2 0 0) := by
  have z0 : s2 0 1 = 0 := ra.1.1.symm.trans z
  have a := ra.2.1 z0
  have kk := rc z0
  have et := (ra.1.2.2 z0).1
  have n23 : ¬ tX m77 0 (s2 0 0) = 23 := fun w => by
    rw [← et] at w
    exact ne ((km_v (rm_k ra tk g z).1).2.2.2.2.2.2.2.2.1.mpr w)
  refine ⟨k + 1, pStep (tX m77) s2, r, by omega, ?_, fun w => ?_⟩
  · rw [← rb, show 401 - k = 401 - (k + 1) + 1 by omega]
    exact (run_st ⟨z0, n23⟩).symm
  · have y := pg (r.1.1.trans w)
    rw [(r.1.2.2 w).1] at y
    omega
theorem rn_R (ra : RM (tX m77) N S s2 m) (tk : tkN m77 N) (g : PX m77 m) (rb : pRun (tX m77) (401 - k) s2 = P) (c : ¬ rd m 284 13 = 0 ∨ rd m 287 (Int.toNat (rd m 284 11)) = 0) : RM (tX m77) N S P m ∧ (rd m 284 13 = 0 → rd m 287 (Int.toNat (rd m 284 11)) = 0) := by
  have n : ¬ (s2 0 1 = 0 ∧ ¬ tX m77 0 (s2 0 0) = 23) := fun w => by
    have z : rd m 284 13 = 0 := ra.1.1.trans w.1
    rcases c with c | c
    · exact c z
    · apply w.2
      rw [← (ra.1.2.2 w.1).1]
      exact (km_v (rm_k ra tk g z).1).2.2.2.2.2.2.2.2.1.mp c
  rw [run_no n] at rb
  subst rb
  exact ⟨ra, fun z => c.resolve_left (fun w => w z)⟩
/-- the END's place is the tape's size -/
theorem end_n {b w : Nat → Int} {n t : Int} (ts : tksC b n w m77) (tk : tkN m77 N) (h0 : 0 ≤ t) (h1 : t ≤ N) (h4 : t ≤ 400) (k : tX m77 0 t = 23) : tX m77 1 t = n := by
  obtain ⟨M, E, hM, hT, hE⟩ := ts
  have kk : rd m77 2 (Int.toNat t) = 23 := k
  have lt : M ≤ t := by
    by_cases q : t < M
    · exact absurd kk (tk_inc hM hT hE (Int.toNat t) (by omega)).1
    · omega
  have e : M = t := by
    by_cases q : M < t
    · have y := (hE (by omega)).2.2
      exact absurd y (tk.2.1 (Int.toNat M) (by omega)).2
    · omega
  subst e
  exact (hE h4).2.1
end RNS
/-- behind the sentences, for the model -/
def aM (s : Ps) (n : Int) (m : Mm) : Prop := (¬ s 0 1 = 0 ∧ rd m 284 13 = s 0 1 ∧ rd m 284 14 = s 0 2) ∨ (s 0 1 = 0 ∧ rd m 284 13 = 0 ∧ ((¬ s 0 3 = 0 ∧ rd m 284 15 = s 0 3 ∧ rd m 284 16 = s 0 4) ∨ (s 0 3 = 0 ∧ bydP s ∧ rd m 284 15 = 6 ∧ rd m 284 16 = n) ∨ (s 0 3 = 0 ∧ ¬ bydP s ∧ rd m 284 15 = 0)))
section AMS
variable {m77 m m155 : Mm} {N S n v : Int} {s : Ps}
theorem am_f {X : Tk} (r : RM X N S s m) (z : ¬ rd m 284 13 = 0) : aM s n m := by
  have z0 : ¬ s 0 1 = 0 := fun w => z (r.1.1.trans w)
  exact Or.inl ⟨z0, r.1.1, r.1.2.1 z0⟩
theorem am_n {X : Tk} (r : RM X N S s m) (z : rd m 284 13 = 0) (b : (v = 1 ∧ bydM m) ∨ (v = 0 ∧ ¬ bydM m)) (hv : v = 0) (es : rd m 284 19 = S) : aM s n m := by
  have z0 : s 0 1 = 0 := r.1.1.symm.trans z
  have c := r.1.2.2 z0
  have nb : ¬ bydP s := by
    rcases b with q | q
    · omega
    · exact fun w => q.2 ((byd_m es (r.2.2 z0)).mpr w)
  refine Or.inr ⟨z0, z, ?_⟩
  by_cases w : s 0 3 = 0
  · exact Or.inr (Or.inr ⟨w, nb, c.2.1.trans w⟩)
  · exact Or.inl ⟨w, c.2.1, c.2.2 w⟩
theorem am_b {b w : Nat → Int} (r : RM (tX m77) N S s m) (e0 : rd m 284 13 = 0 → rd m 287 (Int.toNat (rd m 284 11)) = 0) (tk : tkN m77 N) (ts : tksC b n w m77) (g : PX m77 m) (z : rd m 284 13 = 0) (bb : (v = 1 ∧ bydM m) ∨ (v = 0 ∧ ¬ bydM m)) (hv : ¬ v = 0) (es : rd m 284 19 = S) (wg : wgP m m155 6 (rd m 288 (Int.toNat (rd m 284 11)))) (fr : rd m155 284 13 = 0) : aM s n m155 := by
  have z0 : s 0 1 = 0 := r.1.1.symm.trans z
  have c := r.1.2.2 z0
  have a := r.2.1 z0
  have k := rm_k r tk g z
  have k23 := (km_v k.1).2.2.2.2.2.2.2.2.1.mp (e0 z)
  have bd : bydP s := by
    rcases bb with q | q
    · exact (byd_m es (r.2.2 z0)).mp q.2
    · exact absurd q.1 hv
  have en : tX m77 1 (rd m 284 11) = n := end_n ts tk (by omega) (by omega) (by omega) k23
  rw [k.2.1, en] at wg
  refine Or.inr ⟨z0, fr, ?_⟩
  by_cases q : s 0 3 = 0
  · have w0 : rd m 284 15 = 0 := c.2.1.trans q
    rcases wg with ⟨g1, g2, -, -⟩ | ⟨-, -, g3⟩
    · exact Or.inr (Or.inl ⟨q, bd, g1, g2⟩)
    · omega
  · have w0 : ¬ rd m 284 15 = 0 := fun y => q (c.2.1.symm.trans y)
    have lt : rd m 284 16 < n := by
      rw [c.2.2 q, ← en, c.1]
      exact a.2.2.2 q
    rcases wg with ⟨-, -, -, g4⟩ | ⟨g1, g2, -⟩
    · omega
    · exact Or.inl ⟨q, g1.trans c.2.1, g2.trans (c.2.2 q)⟩
/-- the answer, by the faults -/
def anM (X : Tk) (n : Int) (m : Mm) : Prop := (0 < rd m 284 13 ∧ ansP X n (rd m 284 13) (rd m 284 17)) ∨ (rd m 284 13 ≤ 0 ∧ 0 < rd m 284 15 ∧ ansP X n (rd m 284 15) (rd m 284 17)) ∨ (rd m 284 13 ≤ 0 ∧ rd m 284 15 ≤ 0 ∧ ansP X n 0 (rd m 284 17))
theorem an_m {X : Tk} {m188 : Mm} {s1 : Int} (h : aM (pRun X 401 ps_0) n m) (f0 : 0 ≤ rd m 284 13) (w0 : 0 ≤ rd m 284 15) (e : m188 = wt m 284 17 s1) (es : s1 = if 0 < rd m 284 13 then rd m 284 14 else if 0 < rd m 284 15 then rd m 284 16 else -1) (r : rg s1 := by assumption) : anM X n m188 := by
  have F : ∀ j : Nat, ¬ j = 17 → rd m188 284 j = rd m 284 j := fun j q => by rw [e, rd_wt, if_neg (fun y => q y.2)]
  have p : rd m188 284 17 = s1 := by rw [e, rd_wt, if_pos ⟨rfl, rfl⟩, wr_i r]
  unfold anM
  rw [F 13 (by omega), F 15 (by omega), p]
  rcases h with ⟨a1, a2, a3⟩ | ⟨a1, a2, a3⟩
  · have lt : 0 < rd m 284 13 := by omega
    rw [if_pos lt] at es
    exact Or.inl ⟨lt, Or.inl ⟨a1, a2, es.trans a3⟩⟩
  · rw [if_neg (by omega)] at es
    refine Or.inr ?_
    rcases a3 with ⟨b1, b2, b3⟩ | ⟨b1, b2, b3, b4⟩ | ⟨b1, b2, b3⟩
    · have lt : 0 < rd m 284 15 := by omega
      rw [if_pos lt] at es
      exact Or.inl ⟨by omega, lt, Or.inr (Or.inl ⟨a1, b1, b2, es.trans b3⟩)⟩
    · have lt : 0 < rd m 284 15 := by omega
      rw [if_pos lt] at es
      exact Or.inl ⟨by omega, lt, Or.inr (Or.inr (Or.inl ⟨a1, b1, b2, b3, es.trans b4⟩))⟩
    · rw [if_neg (by omega)] at es
      exact Or.inr ⟨by omega, by omega, Or.inr (Or.inr (Or.inr ⟨a1, b1, b2, rfl, es⟩))⟩
/-- what read does, for the model -/
def rdM (m m2 : Mm) (n v : Int) : Prop := ansP (tX m2) n v (rd m2 284 17) ∧ tX m2 = tX m ∧ (∀ j, rd m2 285 j = rd m 285 j) ∧ (∀ j, ld m2 291 j = ld m 291 j) ∧ (v = 0 → rd m2 284 72 = 0 ∧ ∀ s : Nat, s < 3 → rd m2 339 s = 0) ∧ (¬ v = 0 → rd m2 284 72 = rd m 284 72 ∧ ∀ s, rd m2 339 s = rd m 339 s)
theorem rdm_f {m188 : Mm} (a : anM (tX m77) n m188) (x : tX m188 = tX m77) (f : rfE m m188) (z : 0 < rd m188 284 13) : rdM m m188 n (rd m188 284 13) := by
  rw [← x] at a
  refine ⟨?_, f.2.2.2.2, f.2.2.1, f.2.2.2.1, fun w => by omega, fun _ => ⟨f.1, f.2.1⟩⟩
  rcases a with q | q | q
  · exact q.2
  · omega
  · omega
theorem rdm_w {m188 : Mm} (a : anM (tX m77) n m188) (x : tX m188 = tX m77) (f : rfE m m188) (z : rd m188 284 13 ≤ 0) (w : 0 < rd m188 284 15) : rdM m m188 n (rd m188 284 15) := by
  rw [← x] at a
  refine ⟨?_, f.2.2.2.2, f.2.2.1, f.2.2.2.1, fun w => by omega, fun _ => ⟨f.1, f.2.1⟩⟩
  rcases a with q | q | q
  · omega
  · exact q.2.2
  · omega
theorem rdm_x {m188 : Mm} (a : anM (tX m77) n m188) (x : tX m188 = tX m77) (f : rfE m m188) (c : (0 < rd m188 284 13 ∧ v = rd m188 284 13) ∨ (rd m188 284 13 ≤ 0 ∧ 0 < rd m188 284 15 ∧ v = rd m188 284 15)) : rdM m m188 n v := by
  rcases c with ⟨c1, c2⟩ | ⟨c1, c2, c3⟩
  · subst c2; exact rdm_f a x f c1
  · subst c3; exact rdm_w a x f c1 c2
theorem rdm_0 {m188 m243 : Mm} (a : anM (tX m77) n m188) (x : tX m188 = tX m77) (z : rd m188 284 13 ≤ 0) (w : rd m188 284 15 ≤ 0) (f : rfE m m188) (h : rfX m188 m243) (t : rd m243 284 72 = 0) (hh : ∀ j : Nat, j < 3 → rd m243 339 j = 0) : rdM m m243 n 0 := by
  rw [← x, ← h.2.2.1] at a
  refine ⟨?_, h.2.2.1.trans f.2.2.2.2, fun j => (h.1 j).trans (f.2.2.1 j), fun j => (h.2.1 j).trans (f.2.2.2.1 j), fun _ => ⟨t, hh⟩, fun y => absurd rfl y⟩
  rw [h.2.2.2]
  rcases a with q | q | q
  · omega
  · omega
  · exact q.2.2
end AMS
-- TippedCratesModel.isShutTold(II)Z
set_option maxRecDepth 20000 in
theorem mx_189 {m : Mm} {x1 : Int} {x2 : Int}  (T_m : Ty m) (r_x1 : rg x1) (r_x2 : rg x2)  : CK 1 189 [.ref 284, iv x1, iv x2] m (fun m2 v => m2 = m ∧ ((v = 0 ∨ v = 1) ∧ ((v = 1 ∧ exB (shM m (Int.toNat (rd m 284 19)) x1 x2) (rd m 295 (Int.toNat (rd m 284 19)))) ∨ (v = 0 ∧ ¬ exB (shM m (Int.toNat (rd m 284 19)) x1 x2) (rd m 295 (Int.toNat (rd m 284 19))))))) := by
  refine br_189 r_x1 r_x2 ?_
  unfold P_189
  have tsd := ty_284_19 T_m
  have t295 := ty_295 T_m (Int.toNat (rd m 284 19))
  have t1 := ty_284_19 T_m
  try have w2 : wr (8 * (rd m 284 19)) = 8 * (rd m 284 19) := wr_id (by omega) (by omega)
  intro z3_7 e_z3_7
  have r_z3_7 : rg z3_7 := by rw [e_z3_7]; exact (wr_rg _)
  refine ⟨fun x3_8 => (8 * rd m 284 19 ≤ x3_8 ∧ x3_8 ≤ 8 * rd m 284 19 + rd m 295 (Int.toNat (rd m 284 19))) ∧ (¬ exB (shM m (Int.toNat (rd m 284 19)) x1 x2) (x3_8 - 8 * rd m 284 19)), fun x3_8 => Int.toNat (16 - x3_8), ?_, ?_⟩
  · (exact ⟨by first | omega | (refine ⟨?_, ?_⟩ <;> omega) | trivial, by (rw [show z3_7 - 8 * rd m 284 19 = 0 by omega]; exact ex_0)⟩)
  · intro x3_8 r_x3_8 hI_8
    obtain ⟨hI_8, cI_8⟩ := hI_8
    refine ⟨⟨by omega, by omega⟩, ?_⟩
    have t3 := ty_295 T_m (Int.toNat (rd m 284 19))
    try have w4 : wr ((wr (8 * (rd m 284 19))) + (rd m 295 (Int.toNat (rd m 284 19)))) = (wr (8 * (rd m 284 19))) + (rd m 295 (Int.toNat (rd m 284 19))) := wr_id (by omega) (by omega)
    refine ⟨fun hq => ?_, fun hq => ?_⟩
    · skip
      exact ⟨rfl, by exact ⟨by first | trivial | omega | (refine ⟨?_, ?_⟩ <;> omega), by first | exact Or.inr ⟨rfl, fun w => cI_8 (ex_m w (by omega))⟩ | exact Or.inl ⟨rfl, ex_i (k := Int.toNat (x3_8 - 8 * rd m 284 19)) (by omega) ⟨by rw [show 8 * (Int.toNat (rd m 284 19)) + Int.toNat (x3_8 - 8 * rd m 284 19) = Int.toNat x3_8 by omega]; assumption, by rw [show 8 * (Int.toNat (rd m 284 19)) + Int.toNat (x3_8 - 8 * rd m 284 19) = Int.toNat x3_8 by omega]; assumption⟩⟩⟩⟩
    · skip
      refine ⟨⟨by omega, by omega⟩, ?_⟩
      have t5 := ty_296 T_m (Int.toNat x3_8)
      refine ⟨¬ shM m (Int.toNat (rd m 284 19)) x1 x2 (Int.toNat (x3_8 - 8 * rd m 284 19)), ?_, ?_⟩
      · skip
        refine ⟨fun hq => ?_, fun hq => ?_⟩
        · skip
          (first | exact fun w => hq (by have q := w.1; rw [show 8 * (Int.toNat (rd m 284 19)) + Int.toNat (x3_8 - 8 * rd m 284 19) = Int.toNat x3_8 by omega] at q; exact q) | exact fun w => hq (by have q := w.2; rw [show 8 * (Int.toNat (rd m 284 19)) + Int.toNat (x3_8 - 8 * rd m 284 19) = Int.toNat x3_8 by omega] at q; exact q))
        · skip
          refine ⟨⟨by omega, by omega⟩, ?_⟩
          have t6 := ty_297 T_m (Int.toNat x3_8)
          refine ⟨fun hq => ?_, fun hq => ?_⟩
          · skip
            (first | exact fun w => hq (by have q := w.1; rw [show 8 * (Int.toNat (rd m 284 19)) + Int.toNat (x3_8 - 8 * rd m 284 19) = Int.toNat x3_8 by omega] at q; exact q) | exact fun w => hq (by have q := w.2; rw [show 8 * (Int.toNat (rd m 284 19)) + Int.toNat (x3_8 - 8 * rd m 284 19) = Int.toNat x3_8 by omega] at q; exact q))
          · skip
            exact ⟨rfl, by exact ⟨by first | trivial | omega | (refine ⟨?_, ?_⟩ <;> omega), by first | exact Or.inr ⟨rfl, fun w => cI_8 (ex_m w (by omega))⟩ | exact Or.inl ⟨rfl, ex_i (k := Int.toNat (x3_8 - 8 * rd m 284 19)) (by omega) ⟨by rw [show 8 * (Int.toNat (rd m 284 19)) + Int.toNat (x3_8 - 8 * rd m 284 19) = Int.toNat x3_8 by omega]; assumption, by rw [show 8 * (Int.toNat (rd m 284 19)) + Int.toNat (x3_8 - 8 * rd m 284 19) = Int.toNat x3_8 by omega]; assumption⟩⟩⟩⟩
      · intro   hR_51
        try have w7 : wr (x3_8 + 1) = x3_8 + 1 := wr_id (by omega) (by omega)
        intro z3_51 e_z3_51
        have r_z3_51 : rg z3_51 := by rw [e_z3_51]; exact wr_rg _
        exact ⟨by exact ⟨by first | omega | (refine ⟨?_, ?_⟩ <;> omega) | trivial, by exact ex_n (x := x3_8 - 8 * rd m 284 19) (by omega) cI_8 hR_51 (by omega)⟩, by (try dsimp only); omega⟩
-- TippedCratesModel.isBeyond()Z
set_option maxRecDepth 20000 in
theorem mx_190 {m : Mm}   (T_m : Ty m)   : CK 2 190 [.ref 284] m (fun m2 v => m2 = m ∧ (((v = 0 ∧ (∀ k : Nat, 10 * rd m 284 19 ≤ k → (k : Int) < 10 * rd m 284 19 + rd m 298 (Int.toNat (rd m 284 19)) → rd m 299 k < rd m 293 (Int.toNat (rd m 284 19)) ∧ rd m 300 k < rd m 294 (Int.toNat (rd m 284 19))) ∧ (∀ k : Nat, 3 * rd m 284 19 ≤ k → (k : Int) < 3 * rd m 284 19 + rd m 302 (Int.toNat (rd m 284 19)) → rd m 303 k < rd m 293 (Int.toNat (rd m 284 19)) ∧ rd m 304 k < rd m 294 (Int.toNat (rd m 284 19)))) ∨ v = 1) ∧ ((v = 1 ∧ bydM m) ∨ (v = 0 ∧ ¬ bydM m)))) := by
  refine br_190  ?_
  unfold P_190
  have tsd := ty_284_19 T_m
  have t295 := ty_295 T_m (Int.toNat (rd m 284 19))
  have t298 := ty_298 T_m (Int.toNat (rd m 284 19))
  have t302 := ty_302 T_m (Int.toNat (rd m 284 19))
  have t1 := ty_284_19 T_m
  try have w2 : wr (8 * (rd m 284 19)) = 8 * (rd m 284 19) := wr_id (by omega) (by omega)
  intro z1_7 e_z1_7
  have r_z1_7 : rg z1_7 := by rw [e_z1_7]; exact (wr_rg _)
  refine ⟨fun x1_8 m_8 => m_8 = m ∧ ((8 * rd m 284 19 ≤ x1_8 ∧ x1_8 ≤ 8 * rd m 284 19 + rd m 295 (Int.toNat (rd m 284 19))) ∧ (¬ exB (ofM m 296 297 (Int.toNat (rd m 284 19)) 8) (x1_8 - 8 * rd m 284 19))), fun x1_8 m_8 => Int.toNat (16 - x1_8), ?_, ?_⟩
  · exact ⟨rfl, by exact ⟨by first | omega | (refine ⟨?_, ?_⟩ <;> omega) | trivial, by (rw [show z1_7 - 8 * rd m 284 19 = 0 by omega]; exact ex_0)⟩⟩
  · intro x1_8 m_8 r_x1_8 hI_8
    obtain ⟨e_m_8, hI_8⟩ := hI_8
    replace e_m_8 := e_m_8.symm
    subst e_m_8
    obtain ⟨hI_8, cI_8⟩ := hI_8
    refine ⟨⟨by omega, by omega⟩, ?_⟩
    have t3 := ty_295 T_m (Int.toNat (rd m 284 19))
    try have w4 : wr ((wr (8 * (rd m 284 19))) + (rd m 295 (Int.toNat (rd m 284 19)))) = (wr (8 * (rd m 284 19))) + (rd m 295 (Int.toNat (rd m 284 19))) := wr_id (by omega) (by omega)
    refine ⟨fun hq => ?_, fun hq => ?_⟩
    · skip
      try have w5 : wr (10 * (rd m 284 19)) = 10 * (rd m 284 19) := wr_id (by omega) (by omega)
      intro z1_63 e_z1_63
      have r_z1_63 : rg z1_63 := by rw [e_z1_63]; exact (wr_rg _)
      refine ⟨fun x1_64 m_64 => m_64 = m ∧ (((10 * rd m 284 19 ≤ x1_64 ∧ x1_64 ≤ 10 * rd m 284 19 + rd m 298 (Int.toNat (rd m 284 19))) ∧ ∀ k : Nat, 10 * rd m 284 19 ≤ k → (k : Int) < x1_64 → rd m 299 k < rd m 293 (Int.toNat (rd m 284 19)) ∧ rd m 300 k < rd m 294 (Int.toNat (rd m 284 19))) ∧ (¬ exB (ofM m 296 297 (Int.toNat (rd m 284 19)) 8) (rd m 295 (Int.toNat (rd m 284 19))) ∧ ¬ exB (ofM m 299 300 (Int.toNat (rd m 284 19)) 10) (x1_64 - 10 * rd m 284 19))), fun x1_64 m_64 => Int.toNat (20 - x1_64), ?_, ?_⟩
      · exact ⟨rfl, by exact ⟨by exact ⟨by omega, fun k a b => by omega⟩, by (rw [show z1_63 - 10 * rd m 284 19 = 0 by omega]; exact ⟨fun w => cI_8 (ex_m w (by omega)), ex_0⟩)⟩⟩
      · intro x1_64 m_64 r_x1_64 hI_64
        obtain ⟨e_m_64, hI_64⟩ := hI_64
        replace e_m_64 := e_m_64.symm
        subst e_m_64
        obtain ⟨hI_64, cI_64⟩ := hI_64
        refine ⟨⟨by omega, by omega⟩, ?_⟩
        have t6 := ty_298 T_m (Int.toNat (rd m 284 19))
        try have w7 : wr ((wr (10 * (rd m 284 19))) + (rd m 298 (Int.toNat (rd m 284 19)))) = (wr (10 * (rd m 284 19))) + (rd m 298 (Int.toNat (rd m 284 19))) := wr_id (by omega) (by omega)
        refine ⟨fun hq => ?_, fun hq => ?_⟩
        · skip
          try have w8 : wr (3 * (rd m 284 19)) = 3 * (rd m 284 19) := wr_id (by omega) (by omega)
          intro z1_118 e_z1_118
          have r_z1_118 : rg z1_118 := by rw [e_z1_118]; exact (wr_rg _)
          refine ⟨fun x1_119 m_119 => m_119 = m ∧ (((3 * rd m 284 19 ≤ x1_119 ∧ x1_119 ≤ 3 * rd m 284 19 + rd m 302 (Int.toNat (rd m 284 19))) ∧ ∀ k : Nat, 3 * rd m 284 19 ≤ k → (k : Int) < x1_119 → rd m 303 k < rd m 293 (Int.toNat (rd m 284 19)) ∧ rd m 304 k < rd m 294 (Int.toNat (rd m 284 19))) ∧ ((¬ exB (ofM m 296 297 (Int.toNat (rd m 284 19)) 8) (rd m 295 (Int.toNat (rd m 284 19))) ∧ ¬ exB (ofM m 299 300 (Int.toNat (rd m 284 19)) 10) (rd m 298 (Int.toNat (rd m 284 19)))) ∧ ¬ exB (crM m (Int.toNat (rd m 284 19))) (x1_119 - 3 * rd m 284 19))), fun x1_119 m_119 => Int.toNat (6 - x1_119), ?_, ?_⟩
          · exact ⟨rfl, by exact ⟨by exact ⟨by omega, fun k a b => by omega⟩, by (rw [show z1_118 - 3 * rd m 284 19 = 0 by omega]; exact ⟨⟨cI_64.1, fun w => cI_64.2 (ex_m w (by omega))⟩, ex_0⟩)⟩⟩
          · intro x1_119 m_119 r_x1_119 hI_119
            obtain ⟨e_m_119, hI_119⟩ := hI_119
            replace e_m_119 := e_m_119.symm
            subst e_m_119
            obtain ⟨hI_119, cI_119⟩ := hI_119
            refine ⟨⟨by omega, by omega⟩, ?_⟩
            have t9 := ty_302 T_m (Int.toNat (rd m 284 19))
            try have w10 : wr ((wr (3 * (rd m 284 19))) + (rd m 302 (Int.toNat (rd m 284 19)))) = (wr (3 * (rd m 284 19))) + (rd m 302 (Int.toNat (rd m 284 19))) := wr_id (by omega) (by omega)
            refine ⟨fun hq => ?_, fun hq => ?_⟩
            · skip
              exact ⟨rfl, by exact ⟨by first | omega | exact Or.inr rfl | exact Or.inl ⟨rfl, fun k a b => hI_64.2 k a (by omega), fun k a b => hI_119.2 k a (by omega)⟩, by first | exact Or.inl ⟨rfl, cR_177⟩ | exact Or.inr ⟨rfl, fun w => w.elim cI_119.1.1 (fun w => w.elim cI_119.1.2 (fun w => cI_119.2 (ex_m w (by omega))))⟩ | exact Or.inl ⟨rfl, Or.inl (ex_i (k := Int.toNat (x1_8 - 8 * rd m 284 19)) (by omega) (by unfold ofM; rw [show 8 * (Int.toNat (rd m 284 19)) + Int.toNat (x1_8 - 8 * rd m 284 19) = Int.toNat x1_8 by omega]; omega))⟩ | exact Or.inl ⟨rfl, Or.inr (Or.inl (ex_i (k := Int.toNat (x1_64 - 10 * rd m 284 19)) (by omega) (by unfold ofM; rw [show 10 * (Int.toNat (rd m 284 19)) + Int.toNat (x1_64 - 10 * rd m 284 19) = Int.toNat x1_64 by omega]; omega)))⟩ | exact Or.inl ⟨rfl, by_c (k := Int.toNat (x1_119 - 3 * rd m 284 19)) (by omega) (Or.inr (Or.inr (ex_i (k := Int.toNat (x2_186 - 3 * rd m 284 19)) (by omega) ⟨by rw [show 3 * (Int.toNat (rd m 284 19)) + Int.toNat (x2_186 - 3 * rd m 284 19) = Int.toNat x2_186 by omega, show 3 * (Int.toNat (rd m 284 19)) + Int.toNat (x1_119 - 3 * rd m 284 19) = Int.toNat x1_119 by omega]; assumption, by rw [show 3 * (Int.toNat (rd m 284 19)) + Int.toNat (x2_186 - 3 * rd m 284 19) = Int.toNat x2_186 by omega, show 3 * (Int.toNat (rd m 284 19)) + Int.toNat (x1_119 - 3 * rd m 284 19) = Int.toNat x1_119 by omega]; assumption⟩)))⟩⟩⟩
            · skip
              refine ⟨⟨by omega, by omega⟩, ?_⟩
              refine ⟨⟨by omega, by omega⟩, ?_⟩
              have t11 := ty_303 T_m (Int.toNat x1_119)
              have t12 := ty_304 T_m (Int.toNat x1_119)
              refine CK.mono (ct_188   T_m (rd_rg _ _ _) (rd_rg _ _ _)) (by decide) ?_
              rintro m152 v152 r_v152 ⟨e_m152, h_m152⟩
              replace e_m152 := e_m152.symm
              subst e_m152
              refine ⟨fun m_177 => m_177 = m ∧ ((True) ∧ (bydM m)), ?_, ?_⟩
              · skip
                refine ⟨fun hq => ?_, fun hq => ?_⟩
                · skip
                  exact ⟨rfl, by exact ⟨by first | trivial | omega | (refine ⟨?_, ?_⟩ <;> omega), by first | exact by_c (k := Int.toNat (x1_119 - 3 * rd m 284 19)) (by omega) (Or.inl (by unfold ofM; rw [show 3 * (Int.toNat (rd m 284 19)) + Int.toNat (x1_119 - 3 * rd m 284 19) = Int.toNat x1_119 by omega]; omega)) | exact by_c (k := Int.toNat (x1_119 - 3 * rd m 284 19)) (by omega) (Or.inr (Or.inl (by rw [show 3 * (Int.toNat (rd m 284 19)) + Int.toNat (x1_119 - 3 * rd m 284 19) = Int.toNat x1_119 by omega]; exact ex_v e_m171x (by omega))))⟩⟩
                · skip
                  refine ⟨⟨by omega, by omega⟩, ?_⟩
                  refine ⟨⟨by omega, by omega⟩, ?_⟩
                  refine CK.mono (mx_189   T_m (rd_rg _ _ _) (rd_rg _ _ _)) (by decide) ?_
                  rintro m171 v171 r_v171 ⟨e_m171, h_m171⟩
                  replace e_m171 := e_m171.symm
                  subst e_m171
                  obtain ⟨h_m171, e_m171x⟩ := h_m171
                  refine ⟨fun hq => ?_, fun hq => ?_⟩
                  · skip
                    intro z2_185 e_z2_185
                    have r_z2_185 : rg z2_185 := by rw [e_z2_185]; exact (wr_rg _)
                    refine ⟨fun x2_186 => (3 * rd m 284 19 ≤ x2_186 ∧ x2_186 ≤ x1_119) ∧ (¬ exB (cpM m (Int.toNat (rd m 284 19)) (Int.toNat (x1_119 - 3 * rd m 284 19))) (x2_186 - 3 * rd m 284 19)), fun x2_186 => Int.toNat (x1_119 - x2_186), ?_, ?_⟩
                    · (exact ⟨by first | omega | (refine ⟨?_, ?_⟩ <;> omega) | trivial, by (rw [show z2_185 - 3 * rd m 284 19 = 0 by omega]; exact ex_0)⟩)
                    · intro x2_186 r_x2_186 hI_186
                      obtain ⟨hI_186, cI_186⟩ := hI_186
                      refine ⟨fun hq => ?_, fun hq => ?_⟩
                      · skip
                        try have w13 : wr (x1_119 + 1) = x1_119 + 1 := wr_id (by omega) (by omega)
                        intro z1_229 e_z1_229
                        have r_z1_229 : rg z1_229 := by rw [e_z1_229]; exact wr_rg _
                        have e119 : ∀ k : Nat, 3 * rd m 284 19 ≤ k → (k : Int) < x1_119 + 1 → rd m 303 k < rd m 293 (Int.toNat (rd m 284 19)) ∧ rd m 304 k < rd m 294 (Int.toNat (rd m 284 19)) := fun k a b => by
                          by_cases q : (k : Int) < x1_119
                          · exact hI_119.2 k a q
                          · have : k = Int.toNat x1_119 := by omega
                            subst this
                            omega
                        exact ⟨⟨rfl, by exact ⟨by exact ⟨by omega, fun k a b => e119 k a (by omega)⟩, by exact ⟨cI_119.1, ex_n (x := x1_119 - 3 * rd m 284 19) (by omega) cI_119.2 (cr_no (by unfold ofM; rw [show 3 * (Int.toNat (rd m 284 19)) + Int.toNat (x1_119 - 3 * rd m 284 19) = Int.toNat x1_119 by omega]; omega) (by rw [show 3 * (Int.toNat (rd m 284 19)) + Int.toNat (x1_119 - 3 * rd m 284 19) = Int.toNat x1_119 by omega]; exact ex_w e_m171x (by omega)) (fun w => cI_186 (ex_m w (by omega)))) (by omega)⟩⟩⟩, by (try dsimp only); omega⟩
                      · skip
                        refine ⟨⟨by omega, by omega⟩, ?_⟩
                        refine ⟨⟨by omega, by omega⟩, ?_⟩
                        have t14 := ty_303 T_m (Int.toNat x2_186)
                        refine ⟨¬ cpM m (Int.toNat (rd m 284 19)) (Int.toNat (x1_119 - 3 * rd m 284 19)) (Int.toNat (x2_186 - 3 * rd m 284 19)), ?_, ?_⟩
                        · skip
                          refine ⟨fun hq => ?_, fun hq => ?_⟩
                          · skip
                            (first | exact fun w => hq (by have q := w.1; rw [show 3 * (Int.toNat (rd m 284 19)) + Int.toNat (x2_186 - 3 * rd m 284 19) = Int.toNat x2_186 by omega, show 3 * (Int.toNat (rd m 284 19)) + Int.toNat (x1_119 - 3 * rd m 284 19) = Int.toNat x1_119 by omega] at q; exact q) | exact fun w => hq (by have q := w.2; rw [show 3 * (Int.toNat (rd m 284 19)) + Int.toNat (x2_186 - 3 * rd m 284 19) = Int.toNat x2_186 by omega, show 3 * (Int.toNat (rd m 284 19)) + Int.toNat (x1_119 - 3 * rd m 284 19) = Int.toNat x1_119 by omega] at q; exact q))
                          · skip
                            refine ⟨⟨by omega, by omega⟩, ?_⟩
                            refine ⟨⟨by omega, by omega⟩, ?_⟩
                            have t15 := ty_304 T_m (Int.toNat x2_186)
                            refine ⟨fun hq => ?_, fun hq => ?_⟩
                            · skip
                              (first | exact fun w => hq (by have q := w.1; rw [show 3 * (Int.toNat (rd m 284 19)) + Int.toNat (x2_186 - 3 * rd m 284 19) = Int.toNat x2_186 by omega, show 3 * (Int.toNat (rd m 284 19)) + Int.toNat (x1_119 - 3 * rd m 284 19) = Int.toNat x1_119 by omega] at q; exact q) | exact fun w => hq (by have q := w.2; rw [show 3 * (Int.toNat (rd m 284 19)) + Int.toNat (x2_186 - 3 * rd m 284 19) = Int.toNat x2_186 by omega, show 3 * (Int.toNat (rd m 284 19)) + Int.toNat (x1_119 - 3 * rd m 284 19) = Int.toNat x1_119 by omega] at q; exact q))
                            · skip
                              exact ⟨rfl, by exact ⟨by first | omega | exact Or.inr rfl | exact Or.inl ⟨rfl, fun k a b => hI_64.2 k a (by omega), fun k a b => hI_119.2 k a (by omega)⟩, by first | exact Or.inl ⟨rfl, cR_177⟩ | exact Or.inr ⟨rfl, fun w => w.elim cI_119.1.1 (fun w => w.elim cI_119.1.2 (fun w => cI_119.2 (ex_m w (by omega))))⟩ | exact Or.inl ⟨rfl, Or.inl (ex_i (k := Int.toNat (x1_8 - 8 * rd m 284 19)) (by omega) (by unfold ofM; rw [show 8 * (Int.toNat (rd m 284 19)) + Int.toNat (x1_8 - 8 * rd m 284 19) = Int.toNat x1_8 by omega]; omega))⟩ | exact Or.inl ⟨rfl, Or.inr (Or.inl (ex_i (k := Int.toNat (x1_64 - 10 * rd m 284 19)) (by omega) (by unfold ofM; rw [show 10 * (Int.toNat (rd m 284 19)) + Int.toNat (x1_64 - 10 * rd m 284 19) = Int.toNat x1_64 by omega]; omega)))⟩ | exact Or.inl ⟨rfl, by_c (k := Int.toNat (x1_119 - 3 * rd m 284 19)) (by omega) (Or.inr (Or.inr (ex_i (k := Int.toNat (x2_186 - 3 * rd m 284 19)) (by omega) ⟨by rw [show 3 * (Int.toNat (rd m 284 19)) + Int.toNat (x2_186 - 3 * rd m 284 19) = Int.toNat x2_186 by omega, show 3 * (Int.toNat (rd m 284 19)) + Int.toNat (x1_119 - 3 * rd m 284 19) = Int.toNat x1_119 by omega]; assumption, by rw [show 3 * (Int.toNat (rd m 284 19)) + Int.toNat (x2_186 - 3 * rd m 284 19) = Int.toNat x2_186 by omega, show 3 * (Int.toNat (rd m 284 19)) + Int.toNat (x1_119 - 3 * rd m 284 19) = Int.toNat x1_119 by omega]; assumption⟩)))⟩⟩⟩
                        · intro   hR_223
                          try have w16 : wr (x2_186 + 1) = x2_186 + 1 := wr_id (by omega) (by omega)
                          intro z2_223 e_z2_223
                          have r_z2_223 : rg z2_223 := by rw [e_z2_223]; exact wr_rg _
                          exact ⟨by exact ⟨by first | omega | (refine ⟨?_, ?_⟩ <;> omega) | trivial, by exact ex_n (x := x2_186 - 3 * rd m 284 19) (by omega) cI_186 hR_223 (by omega)⟩, by (try dsimp only); omega⟩
                  · skip
                    exact ⟨rfl, by exact ⟨by first | trivial | omega | (refine ⟨?_, ?_⟩ <;> omega), by first | exact by_c (k := Int.toNat (x1_119 - 3 * rd m 284 19)) (by omega) (Or.inl (by unfold ofM; rw [show 3 * (Int.toNat (rd m 284 19)) + Int.toNat (x1_119 - 3 * rd m 284 19) = Int.toNat x1_119 by omega]; omega)) | exact by_c (k := Int.toNat (x1_119 - 3 * rd m 284 19)) (by omega) (Or.inr (Or.inl (by rw [show 3 * (Int.toNat (rd m 284 19)) + Int.toNat (x1_119 - 3 * rd m 284 19) = Int.toNat x1_119 by omega]; exact ex_v e_m171x (by omega))))⟩⟩
              · intro m_177  hR_177
                obtain ⟨e_m_177, hR_177⟩ := hR_177
                replace e_m_177 := e_m_177.symm
                subst e_m_177
                obtain ⟨hR_177, cR_177⟩ := hR_177
                exact ⟨rfl, by exact ⟨by first | omega | exact Or.inr rfl | exact Or.inl ⟨rfl, fun k a b => hI_64.2 k a (by omega), fun k a b => hI_119.2 k a (by omega)⟩, by first | exact Or.inl ⟨rfl, cR_177⟩ | exact Or.inr ⟨rfl, fun w => w.elim cI_119.1.1 (fun w => w.elim cI_119.1.2 (fun w => cI_119.2 (ex_m w (by omega))))⟩ | exact Or.inl ⟨rfl, Or.inl (ex_i (k := Int.toNat (x1_8 - 8 * rd m 284 19)) (by omega) (by unfold ofM; rw [show 8 * (Int.toNat (rd m 284 19)) + Int.toNat (x1_8 - 8 * rd m 284 19) = Int.toNat x1_8 by omega]; omega))⟩ | exact Or.inl ⟨rfl, Or.inr (Or.inl (ex_i (k := Int.toNat (x1_64 - 10 * rd m 284 19)) (by omega) (by unfold ofM; rw [show 10 * (Int.toNat (rd m 284 19)) + Int.toNat (x1_64 - 10 * rd m 284 19) = Int.toNat x1_64 by omega]; omega)))⟩ | exact Or.inl ⟨rfl, by_c (k := Int.toNat (x1_119 - 3 * rd m 284 19)) (by omega) (Or.inr (Or.inr (ex_i (k := Int.toNat (x2_186 - 3 * rd m 284 19)) (by omega) ⟨by rw [show 3 * (Int.toNat (rd m 284 19)) + Int.toNat (x2_186 - 3 * rd m 284 19) = Int.toNat x2_186 by omega, show 3 * (Int.toNat (rd m 284 19)) + Int.toNat (x1_119 - 3 * rd m 284 19) = Int.toNat x1_119 by omega]; assumption, by rw [show 3 * (Int.toNat (rd m 284 19)) + Int.toNat (x2_186 - 3 * rd m 284 19) = Int.toNat x2_186 by omega, show 3 * (Int.toNat (rd m 284 19)) + Int.toNat (x1_119 - 3 * rd m 284 19) = Int.toNat x1_119 by omega]; assumption⟩)))⟩⟩⟩
        · skip
          refine ⟨⟨by omega, by omega⟩, ?_⟩
          refine ⟨⟨by omega, by omega⟩, ?_⟩
          have t17 := ty_299 T_m (Int.toNat x1_64)
          have t18 := ty_300 T_m (Int.toNat x1_64)
          refine CK.mono (ct_188   T_m (rd_rg _ _ _) (rd_rg _ _ _)) (by decide) ?_
          rintro m98 v98 r_v98 ⟨e_m98, h_m98⟩
          replace e_m98 := e_m98.symm
          subst e_m98
          refine ⟨fun hq => ?_, fun hq => ?_⟩
          · skip
            try have w19 : wr (x1_64 + 1) = x1_64 + 1 := wr_id (by omega) (by omega)
            intro z1_106 e_z1_106
            have r_z1_106 : rg z1_106 := by rw [e_z1_106]; exact wr_rg _
            have e64 : ∀ k : Nat, 10 * rd m 284 19 ≤ k → (k : Int) < x1_64 + 1 → rd m 299 k < rd m 293 (Int.toNat (rd m 284 19)) ∧ rd m 300 k < rd m 294 (Int.toNat (rd m 284 19)) := fun k a b => by
              by_cases q : (k : Int) < x1_64
              · exact hI_64.2 k a q
              · have : k = Int.toNat x1_64 := by omega
                subst this
                omega
            exact ⟨⟨rfl, by exact ⟨by exact ⟨by omega, fun k a b => e64 k a (by omega)⟩, by exact ⟨cI_64.1, ex_n (x := x1_64 - 10 * rd m 284 19) (by omega) cI_64.2 (by unfold ofM; rw [show 10 * (Int.toNat (rd m 284 19)) + Int.toNat (x1_64 - 10 * rd m 284 19) = Int.toNat x1_64 by omega]; omega) (by omega)⟩⟩⟩, by (try dsimp only); omega⟩
          · skip
            exact ⟨rfl, by exact ⟨by first | omega | exact Or.inr rfl | exact Or.inl ⟨rfl, fun k a b => hI_64.2 k a (by omega), fun k a b => hI_119.2 k a (by omega)⟩, by first | exact Or.inl ⟨rfl, cR_177⟩ | exact Or.inr ⟨rfl, fun w => w.elim cI_119.1.1 (fun w => w.elim cI_119.1.2 (fun w => cI_119.2 (ex_m w (by omega))))⟩ | exact Or.inl ⟨rfl, Or.inl (ex_i (k := Int.toNat (x1_8 - 8 * rd m 284 19)) (by omega) (by unfold ofM; rw [show 8 * (Int.toNat (rd m 284 19)) + Int.toNat (x1_8 - 8 * rd m 284 19) = Int.toNat x1_8 by omega]; omega))⟩ | exact Or.inl ⟨rfl, Or.inr (Or.inl (ex_i (k := Int.toNat (x1_64 - 10 * rd m 284 19)) (by omega) (by unfold ofM; rw [show 10 * (Int.toNat (rd m 284 19)) + Int.toNat (x1_64 - 10 * rd m 284 19) = Int.toNat x1_64 by omega]; omega)))⟩ | exact Or.inl ⟨rfl, by_c (k := Int.toNat (x1_119 - 3 * rd m 284 19)) (by omega) (Or.inr (Or.inr (ex_i (k := Int.toNat (x2_186 - 3 * rd m 284 19)) (by omega) ⟨by rw [show 3 * (Int.toNat (rd m 284 19)) + Int.toNat (x2_186 - 3 * rd m 284 19) = Int.toNat x2_186 by omega, show 3 * (Int.toNat (rd m 284 19)) + Int.toNat (x1_119 - 3 * rd m 284 19) = Int.toNat x1_119 by omega]; assumption, by rw [show 3 * (Int.toNat (rd m 284 19)) + Int.toNat (x2_186 - 3 * rd m 284 19) = Int.toNat x2_186 by omega, show 3 * (Int.toNat (rd m 284 19)) + Int.toNat (x1_119 - 3 * rd m 284 19) = Int.toNat x1_119 by omega]; assumption⟩)))⟩⟩⟩
    · skip
      refine ⟨⟨by omega, by omega⟩, ?_⟩
      refine ⟨⟨by omega, by omega⟩, ?_⟩
      have t20 := ty_296 T_m (Int.toNat x1_8)
      have t21 := ty_297 T_m (Int.toNat x1_8)
      refine CK.mono (ct_188   T_m (rd_rg _ _ _) (rd_rg _ _ _)) (by decide) ?_
      rintro m42 v42 r_v42 ⟨e_m42, h_m42⟩
      replace e_m42 := e_m42.symm
      subst e_m42
      refine ⟨fun hq => ?_, fun hq => ?_⟩
      · skip
        try have w22 : wr (x1_8 + 1) = x1_8 + 1 := wr_id (by omega) (by omega)
        intro z1_50 e_z1_50
        have r_z1_50 : rg z1_50 := by rw [e_z1_50]; exact wr_rg _
        exact ⟨⟨rfl, by exact ⟨by first | omega | (refine ⟨?_, ?_⟩ <;> omega) | trivial, by exact ex_n (x := x1_8 - 8 * rd m 284 19) (by omega) cI_8 (by unfold ofM; rw [show 8 * (Int.toNat (rd m 284 19)) + Int.toNat (x1_8 - 8 * rd m 284 19) = Int.toNat x1_8 by omega]; omega) (by omega)⟩⟩, by (try dsimp only); omega⟩
      · skip
        exact ⟨rfl, by exact ⟨by first | omega | exact Or.inr rfl | exact Or.inl ⟨rfl, fun k a b => hI_64.2 k a (by omega), fun k a b => hI_119.2 k a (by omega)⟩, by first | exact Or.inl ⟨rfl, cR_177⟩ | exact Or.inr ⟨rfl, fun w => w.elim cI_119.1.1 (fun w => w.elim cI_119.1.2 (fun w => cI_119.2 (ex_m w (by omega))))⟩ | exact Or.inl ⟨rfl, Or.inl (ex_i (k := Int.toNat (x1_8 - 8 * rd m 284 19)) (by omega) (by unfold ofM; rw [show 8 * (Int.toNat (rd m 284 19)) + Int.toNat (x1_8 - 8 * rd m 284 19) = Int.toNat x1_8 by omega]; omega))⟩ | exact Or.inl ⟨rfl, Or.inr (Or.inl (ex_i (k := Int.toNat (x1_64 - 10 * rd m 284 19)) (by omega) (by unfold ofM; rw [show 10 * (Int.toNat (rd m 284 19)) + Int.toNat (x1_64 - 10 * rd m 284 19) = Int.toNat x1_64 by omega]; omega)))⟩ | exact Or.inl ⟨rfl, by_c (k := Int.toNat (x1_119 - 3 * rd m 284 19)) (by omega) (Or.inr (Or.inr (ex_i (k := Int.toNat (x2_186 - 3 * rd m 284 19)) (by omega) ⟨by rw [show 3 * (Int.toNat (rd m 284 19)) + Int.toNat (x2_186 - 3 * rd m 284 19) = Int.toNat x2_186 by omega, show 3 * (Int.toNat (rd m 284 19)) + Int.toNat (x1_119 - 3 * rd m 284 19) = Int.toNat x1_119 by omega]; assumption, by rw [show 3 * (Int.toNat (rd m 284 19)) + Int.toNat (x2_186 - 3 * rd m 284 19) = Int.toNat x2_186 by omega, show 3 * (Int.toNat (rd m 284 19)) + Int.toNat (x1_119 - 3 * rd m 284 19) = Int.toNat x1_119 by omega]; assumption⟩)))⟩⟩⟩
-- TippedCratesModel.plain(I)V
set_option maxRecDepth 20000 in
theorem mx_185 {m0 m : Mm} {x1 : Int}  (g_m : PX m0 m) (r_x1 : rg x1) (p0 : x1 = rd m0 284 19) : CV 1 185 [.ref 284, iv x1] m (fun m2 => PX m0 m2 ∧ ((plP m m2 (rd m0 284 19)) ∧ ((rd m2 295 (Int.toNat (rd m0 284 19)) = 0 ∧ rd m2 306 (Int.toNat (rd m0 284 19)) = 0) ∧ lf m m2))) := by
  refine br_185 r_x1 ?_
  unfold P_185
  have hs := PX.s g_m
  refine ⟨⟨by omega, by omega⟩, ?_⟩
  intro m6 e_m6
  have g_m6 : PX m0 m6 := by rw [e_m6]; exact PX.wt g_m (tw_293 g_m.1 ⟨by omega, by omega⟩) (inP_s (by omega) (by omega))
  refine ⟨⟨by omega, by omega⟩, ?_⟩
  intro m13 e_m13
  have g_m13 : PX m0 m13 := by rw [e_m13]; exact PX.wt g_m6 (tw_294 g_m6.1 ⟨by omega, by omega⟩) (inP_s (by omega) (by omega))
  refine ⟨⟨by omega, by omega⟩, ?_⟩
  intro m20 e_m20
  have g_m20 : PX m0 m20 := by rw [e_m20]; exact PX.wt g_m13 (tw_295 g_m13.1 ⟨by omega, by omega⟩) (inP_s (by omega) (by omega))
  refine ⟨⟨by omega, by omega⟩, ?_⟩
  intro m27 e_m27
  have g_m27 : PX m0 m27 := by rw [e_m27]; exact PX.wt g_m20 (tw_298 g_m20.1 ⟨by omega, by omega⟩) (inP_s (by omega) (by omega))
  refine ⟨⟨by omega, by omega⟩, ?_⟩
  intro m34 e_m34
  have g_m34 : PX m0 m34 := by rw [e_m34]; exact PX.wt g_m27 (tw_302 g_m27.1 ⟨by omega, by omega⟩) (inP_s (by omega) (by omega))
  refine ⟨⟨by omega, by omega⟩, ?_⟩
  intro m41 e_m41
  have g_m41 : PX m0 m41 := by rw [e_m41]; exact PX.wt g_m34 (tw_306 g_m34.1 ⟨by omega, by omega⟩) (inP_s (by omega) (by omega))
  refine ⟨fun x2_44 m_44 => PX m0 m_44 ∧ (((0 ≤ x2_44 ∧ x2_44 ≤ 4) ∧ plI m m_44 (rd m0 284 19) x2_44) ∧ ((rd m_44 295 (Int.toNat (rd m0 284 19)) = 0 ∧ rd m_44 306 (Int.toNat (rd m0 284 19)) = 0) ∧ lf m m_44)), fun x2_44 m_44 => Int.toNat (4 - x2_44), ?_, ?_⟩
  · exact ⟨g_m41, by exact ⟨by exact ⟨by omega, pl_0 (by omega) p0 e_m6 e_m13 e_m20 e_m27 e_m34 e_m41⟩, by exact ⟨⟨by rw [← p0, e_m41, rd_wt, if_neg (by omega), e_m34, rd_wt, if_neg (by omega), e_m27, rd_wt, if_neg (by omega), e_m20, rd_wt, if_pos ⟨rfl, rfl⟩]; rfl, by rw [← p0, e_m41, rd_wt, if_pos ⟨rfl, rfl⟩]; rfl⟩, fun j => by rw [e_m41, e_m34, e_m27, e_m20, e_m13, e_m6]; rfl⟩⟩⟩
  · intro x2_44 m_44 r_x2_44 hI_44
    obtain ⟨g_m_44, hI_44⟩ := hI_44
    obtain ⟨hI_44, cI_44⟩ := hI_44
    refine ⟨fun hq => ?_, fun hq => ?_⟩
    · skip
      exact ⟨g_m_44, by exact ⟨by exact pl_e hI_44.2 (by omega), by exact cI_44⟩⟩
    · skip
      try have w1 : wr (4 * x1) = 4 * x1 := wr_id (by omega) (by omega)
      try have w2 : wr ((wr (4 * x1)) + x2_44) = (wr (4 * x1)) + x2_44 := wr_id (by omega) (by omega)
      refine ⟨⟨by omega, by omega⟩, ?_⟩
      intro m59 e_m59
      have g_m59 : PX m0 m59 := by rw [e_m59]; exact PX.wt g_m_44 (tw_307 g_m_44.1 ⟨by omega, by omega⟩) (inP_4 (by omega) (by omega))
      refine ⟨⟨by omega, by omega⟩, ?_⟩
      intro m70 e_m70
      have g_m70 : PX m0 m70 := by rw [e_m70]; exact PX.wt g_m59 (tw_308 g_m59.1 ⟨by omega, by omega⟩) (inP_4 (by omega) (by omega))
      have pl := pl_s hI_44.2 (by omega) (by omega) p0 e_m59 e_m70
      try have w3 : wr (x2_44 + 1) = x2_44 + 1 := wr_id (by omega) (by omega)
      intro z2_71 e_z2_71
      have r_z2_71 : rg z2_71 := by rw [e_z2_71]; exact wr_rg _
      exact ⟨⟨g_m70, by exact ⟨by exact ⟨by omega, by rw [e_z2_71, wr_id (by omega) (by omega)]; exact pl⟩, by exact ⟨⟨by rw [e_m70, rd_wt, if_neg (by omega), e_m59, rd_wt, if_neg (by omega)]; exact cI_44.1.1, by rw [e_m70, rd_wt, if_neg (by omega), e_m59, rd_wt, if_neg (by omega)]; exact cI_44.1.2⟩, (cI_44.2.trans (lf_wt e_m59)).trans (lf_wt e_m70)⟩⟩⟩, by (try dsimp only); omega⟩
-- TippedCratesModel.read()I
set_option maxRecDepth 20000 in
set_option maxHeartbeats 4000000 in
theorem mx_186 {m0 m : Mm}  {b w : Nat → Int} {n : Int} (g_m : MB m0 m)  (p0 : MI m) (p1 : tksC b n w m) (p2 : rd m 284 2 = n) (p3 : ∀ j : Nat, (j : Int) < n → uB m 285 j = b j) (p4 : ∀ q : Nat, q < 21 → ld m 291 q = w q) (p5 : ∀ p q : Nat, p < 21 → q < 21 → w p = w q → p = q) : CK 8 186 [.ref 284] m (fun m2 v => MB m0 m2 ∧ ((MI m2 ∧ rd m2 284 2 = 0) ∧ (rdM m m2 n v))) := by
  refine br_186  ?_
  unfold P_186
  have t2 := ty_284_2 g_m.1
  have tl := ty_284_18 g_m.1
  have t1 := ty_284_2 g_m.1
  intro m5 e_m5
  have g_m5 : MB m0 m5 := by rw [e_m5]; exact MB.wt g_m (tw_284_4 g_m.1 ⟨by omega, by omega⟩) (by decide)
  have lv5 : lvFr m m5 := lv_wt (lv_refl m) (by omega) e_m5
  have f5 : rd m5 284 4 = n := by rw [e_m5, rd_wt, if_pos ⟨rfl, rfl⟩, wr_i (rd_rg _ _ _)]; exact p2
  refine ⟨fun x1_10 m_10 => MB m0 m_10 ∧ (((0 ≤ x1_10 ∧ x1_10 ≤ 2000) ∧ lvFr m m_10) ∧ ((rd m_10 284 4 = n ∧ x1_10 ≤ n) ∧ (∀ j : Nat, (j : Int) < x1_10 → rd m_10 286 j = rd m 285 j) ∧ cpF m m_10)), fun x1_10 m_10 => Int.toNat (2000 - x1_10), ?_, ?_⟩
  · exact ⟨g_m5, by exact ⟨by exact ⟨by omega, lv5⟩, by exact ⟨⟨f5, by omega⟩, fun j hj => by omega, cpf_0 e_m5⟩⟩⟩
  · intro x1_10 m_10 r_x1_10 hI_10
    obtain ⟨g_m_10, hI_10⟩ := hI_10
    obtain ⟨hI_10, cI_10⟩ := hI_10
    have t10 := ty_284_4 g_m_10.1
    have t2 := ty_284_4 g_m_10.1
    refine ⟨fun hq => ?_, fun hq => ?_⟩
    · skip
      intro m38 e_m38
      have g_m38 : MB m0 m38 := by rw [e_m38]; exact MB.wt g_m_10 (tw_284_2 g_m_10.1 ⟨by omega, by omega⟩) (by decide)
      have lv38 : lvFr m m38 := lv_wt hI_10.2 (by omega) e_m38
      have z38 : rd m38 284 2 = 0 := by rw [e_m38, rd_wt, if_pos ⟨rfl, rfl⟩]; rfl
      have c38 : cpF m m38 := cI_10.2.2.wt (Or.inr (by omega)) e_m38
      have k38 : rd m38 284 4 = n := by rw [e_m38, rd_wt, if_neg (by omega)]; exact cI_10.1.1
      have x38 : ∀ j : Nat, (j : Int) < n → rd m38 286 j = rd m 285 j := fun j hj => by rw [e_m38, rd_wt, if_neg (by omega)]; exact cI_10.2.1 j (by omega)
      have tk38 : tksC b n w m38 := tks_fr p1 (fun _ => rfl) rfl (fun _ => rfl) (fun j => c38.2.1 2 j (by omega)) (fun j => c38.2.1 3 j (by omega)) (fun j => c38.2.2 4 j)
      refine CV.mono (mx_178   (DX_refl g_m38.1) tk38 k38 (fun j hj => by have q := p3 j hj; unfold uB at q ⊢; rw [x38 j hj]; exact q) (fun q hq => (c38.2.2 291 q).trans (p4 q hq)) p5) (by decide) ?_
      rintro m42 ⟨hc_m42, h_m42⟩
      have g_m42 : MB m0 m42 := MB.dx g_m38 hc_m42
      have lv42 : lvFr m m42 := lv_dx lv38 hc_m42
      have z42 : rd m42 284 2 = 0 := by rw [hc_m42.2.1 284 2 rfl]; exact z38
      obtain ⟨N, tkm⟩ := h_m42
      intro m47 e_m47
      have g_m47 : MB m0 m47 := by rw [e_m47]; exact MB.wt g_m42 (tw_284_11 g_m42.1 ⟨by omega, by omega⟩) (by decide)
      have lv47 : lvFr m m47 := lv_wt lv42 (by omega) e_m47
      intro m52 e_m52
      have g_m52 : MB m0 m52 := by rw [e_m52]; exact MB.wt g_m47 (tw_284_12 g_m47.1 ⟨by omega, by omega⟩) (by decide)
      have lv52 : lvFr m m52 := lv_wt lv47 (by omega) e_m52
      intro m57 e_m57
      have g_m57 : MB m0 m57 := by rw [e_m57]; exact MB.wt g_m52 (tw_284_13 g_m52.1 (by first | assumption | omega)) (by decide)
      have lv57 : lvFr m m57 := lv_wt lv52 (by omega) e_m57
      intro m62 e_m62
      have g_m62 : MB m0 m62 := by rw [e_m62]; exact MB.wt g_m57 (tw_284_15 g_m57.1 (by first | assumption | omega)) (by decide)
      have lv62 : lvFr m m62 := lv_wt lv57 (by omega) e_m62
      have l62 : rd m62 284 18 = rd m 284 18 := lv62.1
      have t3 := ty_284_18 g_m62.1
      try have w4 : wr (1 - (rd m62 284 18)) = 1 - (rd m62 284 18) := wr_id (by omega) (by omega)
      intro m72 e_m72
      have g_m72 : MB m0 m72 := by rw [e_m72]; exact MB.wt g_m62 (tw_284_19 g_m62.1 ⟨by omega, by omega⟩) (by decide)
      have lv72 : lvFr m m72 := lv_wt lv62 (by omega) e_m72
      intro m77 e_m77
      have g_m77 : MB m0 m77 := by rw [e_m77]; exact MB.wt g_m72 (tw_284_20 g_m72.1 ⟨by omega, by omega⟩) (by decide)
      have lv77 : lvFr m m77 := lv_wt lv72 (by omega) e_m77
      have s77 : rd m77 284 19 = 1 - rd m 284 18 := by rw [e_m77, rd_wt, if_neg (by omega), e_m72, rd_wt, if_pos ⟨rfl, rfl⟩, wr_i (wr_rg _), l62, wr_id (by omega) (by omega)]
      have z77 : rd m77 284 2 = 0 := by rw [e_m77, rd_wt, if_neg (by omega), e_m72, rd_wt, if_neg (by omega), e_m62, rd_wt, if_neg (by omega), e_m57, rd_wt, if_neg (by omega), e_m52, rd_wt, if_neg (by omega), e_m47, rd_wt, if_neg (by omega)]; exact z42
      have n77_20 : rd m77 284 20 = 0 := by rw [e_m77, rd_wt, if_pos ⟨rfl, rfl⟩]; rfl
      have n77_15 : rd m77 284 15 = 0 := by rw [e_m77, rd_wt, if_neg (by omega), e_m72, rd_wt, if_neg (by omega), e_m62, rd_wt, if_pos ⟨rfl, rfl⟩]; rfl
      have n77_13 : rd m77 284 13 = 0 := by rw [e_m77, rd_wt, if_neg (by omega), e_m72, rd_wt, if_neg (by omega), e_m62, rd_wt, if_neg (by omega), e_m57, rd_wt, if_pos ⟨rfl, rfl⟩]; rfl
      have n77_12 : rd m77 284 12 = 0 := by rw [e_m77, rd_wt, if_neg (by omega), e_m72, rd_wt, if_neg (by omega), e_m62, rd_wt, if_neg (by omega), e_m57, rd_wt, if_neg (by omega), e_m52, rd_wt, if_pos ⟨rfl, rfl⟩]; rfl
      have n77_11 : rd m77 284 11 = 0 := by rw [e_m77, rd_wt, if_neg (by omega), e_m72, rd_wt, if_neg (by omega), e_m62, rd_wt, if_neg (by omega), e_m57, rd_wt, if_neg (by omega), e_m52, rd_wt, if_neg (by omega), e_m47, rd_wt, if_pos ⟨rfl, rfl⟩]; rfl
      have d77 : ∀ i j : Nat, ¬ i = 284 → rd m77 i j = rd m42 i j := fun i j q => by rw [e_m77, rd_wt, if_neg (by omega), e_m72, rd_wt, if_neg (by omega), e_m62, rd_wt, if_neg (by omega), e_m57, rd_wt, if_neg (by omega), e_m52, rd_wt, if_neg (by omega), e_m47, rd_wt, if_neg (by omega)]
      have l77 : ∀ i j : Nat, ld m77 i j = ld m42 i j := fun i j => by rw [e_m77, e_m72, e_m62, e_m57, e_m52, e_m47]; rfl
      have tk77 : tkN m77 N := tkn_of tkm hc_m42 d77 l77
      have ts77 : tksC b n w m77 := tks_fr tk38 (fun _ => rfl) rfl (fun _ => rfl) (fun j => by rw [d77 2 j (by omega)]; exact hc_m42.2.1 2 j rfl) (fun j => by rw [d77 3 j (by omega)]; exact hc_m42.2.1 3 j rfl) (fun j => by rw [l77]; exact hc_m42.2.2 4 j (by decide))
      have rf77 : rfE m m77 := rfe_a c38 hc_m42 (by rw [e_m38, rd_wt, if_neg (by omega)]; exact cI_10.2.2.2.1 284 72 (by omega)) d77 l77 (by rw [e_m77, rd_wt, if_neg (by omega), e_m72, rd_wt, if_neg (by omega), e_m62, rd_wt, if_neg (by omega), e_m57, rd_wt, if_neg (by omega), e_m52, rd_wt, if_neg (by omega), e_m47, rd_wt, if_neg (by omega)])
      have t5 := ty_284_19 g_m77.1
      refine CV.mono (mx_185   (PX.refl g_m77.1) (rd_rg _ _ _) rfl) (by decide) ?_
      rintro m85 ⟨hc_m85, h_m85⟩
      have g_m85 : MB m0 m85 := MB.px g_m77 hc_m85
      obtain ⟨h_m85, pz⟩ := h_m85
      have pl := h_m85
      have s85 : rd m85 284 19 = rd m77 284 19 := (PX.s hc_m85).1
      have t6 := ty_284_19 g_m85.1
      try have w7 : wr (130 * (rd m85 284 19)) = 130 * (rd m85 284 19) := wr_id (by omega) (by omega)
      intro m97 e_m97
      have g_m97 : MB m0 m97 := by rw [e_m97]; exact MB.wt g_m85 (tw_284_38 g_m85.1 ⟨by omega, by omega⟩) (by decide)
      have s97 : rd m97 284 19 = rd m77 284 19 := by rw [e_m97, rd_wt, if_neg (by omega)]; exact s85
      have px97 : PX m77 m97 := by rw [e_m97]; exact PX.wt hc_m85 (tw_284_38 hc_m85.1 ⟨by omega, by omega⟩) (inP_284 (by omega))
      have t8 := ty_284_19 g_m97.1
      try have w9 : wr (420 * (rd m97 284 19)) = 420 * (rd m97 284 19) := wr_id (by omega) (by omega)
      intro m109 e_m109
      have g_m109 : MB m0 m109 := by rw [e_m109]; exact MB.wt g_m97 (tw_284_44 g_m97.1 ⟨by omega, by omega⟩) (by decide)
      have px109 : PX m77 m109 := by rw [e_m109]; exact PX.wt px97 (tw_284_44 px97.1 ⟨by omega, by omega⟩) (inP_284 (by omega))
      have ri : rdI m109 (rd m77 284 19) := rd_0 (by omega) pl n77_11 n77_12 n77_13 n77_15 n77_20 (v := wr (130 * rd m85 284 19)) (w := wr (420 * rd m97 284 19)) (by omega) (by omega) e_m97 e_m109
      have rm109 : RM (tX m77) N (rd m77 284 19) (ps_0) m109 := rz_0 tk77 pl pz (by omega) n77_11 n77_13 n77_15 n77_20 e_m97 e_m109
      refine ⟨fun m_112 => MB m0 m_112 ∧ ((PX m77 m_112 ∧ rdI m_112 (rd m77 284 19)) ∧ (∃ (k : Nat) (s2 : Ps), RM (tX m77) N (rd m77 284 19) (s2) m_112 ∧ k ≤ 401 ∧ pRun (tX m77) (401 - k) s2 = (pRun (tX m77) 401 ps_0) ∧ (s2 0 1 = 0 → (k : Int) ≤ s2 0 0))), fun m_112 => Int.toNat (10000 - rd m_112 284 11 - 1000 * rd m_112 284 13), ?_, ?_⟩
      · exact ⟨g_m109, by exact ⟨by exact ⟨px109, ri⟩, by exact ⟨0, ps_0, rm109, by omega, rfl, fun _ => Int.le_refl _⟩⟩⟩
      · intro m_112  hI_112
        obtain ⟨g_m_112, hI_112⟩ := hI_112
        obtain ⟨hI_112, cI_112⟩ := hI_112
        have f112 := hI_112.2.1
        have t112 := ty_284_11 hI_112.1.1
        obtain ⟨k, s2, ra, rk, rb, rc⟩ := cI_112
        refine ⟨fun m_134 => MB m0 m_134 ∧ ((PX m77 m_134 ∧ rdI m_134 (rd m77 284 19)) ∧ (RM (tX m77) N (rd m77 284 19) ((pRun (tX m77) 401 ps_0)) m_134 ∧ (rd m_134 284 13 = 0 → rd m_134 287 (Int.toNat (rd m_134 284 11)) = 0))), ?_, ?_⟩
        · skip
          refine ⟨fun hq => ?_, fun hq => ?_⟩
          · skip
            exact ⟨g_m_112, by exact ⟨by exact hI_112, by exact rn_R ra tk77 hI_112.1 rb (by omega)⟩⟩
          · skip
            refine CK.mono (ct_180   g_m_112.1 (by unfold rg; decide)) (by decide) ?_
            rintro m121 v121 r_v121 ⟨e_m121, h_m121⟩
            replace e_m121 := e_m121.symm
            subst e_m121
            refine ⟨fun hq => ?_, fun hq => ?_⟩
            · skip
              exact ⟨g_m_112, by exact ⟨by exact hI_112, by exact rn_R ra tk77 hI_112.1 rb (by omega)⟩⟩
            · skip
              refine CV.mono (mx_192   hI_112.1 hI_112.2 (by omega) tk77 ra) (by decide) ?_
              rintro m128 ⟨hc_m128, h_m128⟩
              have g_m128 : MB m0 m128 := MB.px g_m77 hc_m128
              obtain ⟨h_m128, r_m128⟩ := h_m128
              have q112 : rd m_112 284 13 = 0 := by omega
              have t128 := ty_284_11 hc_m128.1
              have b128 := h_m128.1.1
              have c128 := h_m128.2
              exact ⟨⟨g_m128, by exact ⟨by exact ⟨hc_m128, h_m128.1⟩, by exact rn_B ra tk77 hI_112.1 rk rb rc q112 (by omega) r_m128 h_m128.2⟩⟩, by (try dsimp only); omega⟩
        · intro m_134  hR_134
          obtain ⟨g_m_134, hR_134⟩ := hR_134
          obtain ⟨hR_134, cR_134⟩ := hR_134
          have w134 := hR_134.2.2.1
          have s134 : rd m_134 284 19 = rd m77 284 19 := (PX.s hR_134.1).1
          refine ⟨fun m_158 => MB m0 m_158 ∧ ((PX m77 m_158 ∧ rdI m_158 (rd m77 284 19) ∧ (rd m_158 284 13 = 0 → rd m_158 284 15 = 0 → bdOk m_158 (rd m77 284 19))) ∧ (aM (pRun (tX m77) 401 ps_0) n m_158)), ?_, ?_⟩
          · skip
            refine ⟨fun hq => ?_, fun hq => ?_⟩
            · skip
              exact ⟨g_m_134, by exact ⟨by first | exact ⟨hR_134.1, hR_134.2, fun h1 h2 => absurd h1 (by omega)⟩ | exact ⟨hR_134.1, hR_134.2, fun h1 h2 => bd_of s134 (h_m142.resolve_right (by omega))⟩ | exact ⟨PX.ft hR_134.1 hx_m155, rd_wrong hR_134.2 hx_m155 (by omega) (by omega) (by omega) (by omega), fun h1 h2 => by omega⟩, by first | exact am_b cR_134.1 cR_134.2 tk77 ts77 hR_134.1 (by omega) b_m142 (by omega) s134 w_m155 (by omega) | exact am_n cR_134.1 (by omega) b_m142 (by omega) s134 | exact am_f cR_134.1 hq⟩⟩
            · skip
              refine CK.mono (mx_190   g_m_134.1) (by decide) ?_
              rintro m142 v142 r_v142 ⟨e_m142, h_m142⟩
              replace e_m142 := e_m142.symm
              subst e_m142
              obtain ⟨h_m142, b_m142⟩ := h_m142
              refine ⟨fun hq => ?_, fun hq => ?_⟩
              · skip
                exact ⟨g_m_134, by exact ⟨by first | exact ⟨hR_134.1, hR_134.2, fun h1 h2 => absurd h1 (by omega)⟩ | exact ⟨hR_134.1, hR_134.2, fun h1 h2 => bd_of s134 (h_m142.resolve_right (by omega))⟩ | exact ⟨PX.ft hR_134.1 hx_m155, rd_wrong hR_134.2 hx_m155 (by omega) (by omega) (by omega) (by omega), fun h1 h2 => by omega⟩, by first | exact am_b cR_134.1 cR_134.2 tk77 ts77 hR_134.1 (by omega) b_m142 (by omega) s134 w_m155 (by omega) | exact am_n cR_134.1 (by omega) b_m142 (by omega) s134 | exact am_f cR_134.1 hq⟩⟩
              · skip
                have t12 := ty_284_11 g_m_134.1
                refine CV.mono (mx_182   g_m_134.1 (by unfold rg; decide) (rd_rg _ _ _) (by omega) (by omega) (by omega)) (by decide) ?_
                rintro m155 ⟨hx_m155, h_m155⟩
                have g_m155 : MB m0 m155 := MB.ft g_m_134 hx_m155
                obtain ⟨h_m155, w_m155⟩ := h_m155
                exact ⟨g_m155, by exact ⟨by first | exact ⟨hR_134.1, hR_134.2, fun h1 h2 => absurd h1 (by omega)⟩ | exact ⟨hR_134.1, hR_134.2, fun h1 h2 => bd_of s134 (h_m142.resolve_right (by omega))⟩ | exact ⟨PX.ft hR_134.1 hx_m155, rd_wrong hR_134.2 hx_m155 (by omega) (by omega) (by omega) (by omega), fun h1 h2 => by omega⟩, by first | exact am_b cR_134.1 cR_134.2 tk77 ts77 hR_134.1 (by omega) b_m142 (by omega) s134 w_m155 (by omega) | exact am_n cR_134.1 (by omega) b_m142 (by omega) s134 | exact am_f cR_134.1 hq⟩⟩
          · intro m_158  hR_158
            obtain ⟨g_m_158, hR_158⟩ := hR_158
            obtain ⟨hR_158, cR_158⟩ := hR_158
            have f158 := hR_158.2.1.1
            have w158 := hR_158.2.1.2.1
            refine ⟨fun s1_188 => s1_188 = if 0 < rd m_158 284 13 then rd m_158 284 14 else if 0 < rd m_158 284 15 then rd m_158 284 16 else -1, ?_, ?_⟩
            · skip
              refine ⟨fun hq => ?_, fun hq => ?_⟩
              · skip
                refine ⟨fun hq => ?_, fun hq => ?_⟩
                · skip
                  (first | (rw [if_neg (by omega), if_neg (by omega)]) | (rw [if_neg (by omega), if_pos (by omega)]) | (rw [if_pos (by omega)]))
                · skip
                  (first | (rw [if_neg (by omega), if_neg (by omega)]) | (rw [if_neg (by omega), if_pos (by omega)]) | (rw [if_pos (by omega)]))
              · skip
                (first | (rw [if_neg (by omega), if_neg (by omega)]) | (rw [if_neg (by omega), if_pos (by omega)]) | (rw [if_pos (by omega)]))
            · intro s1_188 r_s1_188 hR_188
              have cR_188 := hR_188
              intro m188 e_m188
              have g_m188 : MB m0 m188 := by rw [e_m188]; exact MB.wt g_m_158 (tw_284_17 g_m_158.1 (by first | assumption | omega)) (by decide)
              have f188 : rd m188 284 13 = rd m_158 284 13 := by rw [e_m188, rd_wt, if_neg (by omega)]
              have w188 : rd m188 284 15 = rd m_158 284 15 := by rw [e_m188, rd_wt, if_neg (by omega)]
              have z188 : rd m188 284 2 = 0 := by rw [e_m188, rd_wt, if_neg (by omega), hR_158.1.2.1 284 2 (inP_no (by omega) (by omega))]; exact z77
              have mi188 : MI m188 := MI_px p0 lv77 (by omega) s77 hR_158.1 g_m188.1 e_m188
              have s188 : rd m188 284 19 = rd m77 284 19 := by rw [e_m188, rd_wt, if_neg (by omega)]; exact (PX.s hR_158.1).1
              have a188 := an_m cR_158 f158 w158 e_m188 cR_188
              have rf188 : rfE m m188 := rfe_b rf77 hR_158.1 e_m188
              have x188 : tX m188 = tX m77 := tx_b hR_158.1 e_m188
              refine ⟨fun hq => ?_, fun hq => ?_⟩
              · skip
                refine ⟨fun hq => ?_, fun hq => ?_⟩
                · skip
                  have t19 := ty_284_19 g_m188.1
                  intro m220 e_m220
                  have g_m220 : MB m0 m220 := by rw [e_m220]; exact MB.wt g_m188 (tw_284_18 g_m188.1 ⟨by omega, by omega⟩) (by decide)
                  have ok220 := rd_ok (by omega) hR_158.1.1 hR_158.2.1 hR_158.2.2 (by omega) (by omega) e_m188 s188 e_m220
                  have mi220 : MI m220 := ⟨g_m220.1, ok220.1, ok220.2.1⟩
                  have z220 : rd m220 284 2 = 0 := by rw [e_m220, rd_wt, if_neg (by omega)]; exact z188
                  have rx220 : rfX m188 m220 := (rfx_r _).wt (by omega) e_m220
                  refine CV.mono (ct_214   g_m220.1 ok220.1 ok220.2.2) (by decide) ?_
                  rintro m224 ⟨hx_m224, h_m224⟩
                  have g_m224 : MB m0 m224 := MB.bg g_m220 hx_m224
                  have mi224 : MI m224 := MI_fr mi220 hx_m224.1 (hx_m224.2.1 284 18 rfl) (fun i j h => hx_m224.2.1 i j (sBg_no (by omega)))
                  have z224 : rd m224 284 2 = 0 := (hx_m224.2.1 284 2 rfl).trans z220
                  have rx224 : rfX m188 m224 := rx220.gx hx_m224 (fun _ => rfl) rfl (fun _ => rfl) (fun _ => rfl)
                  refine CV.mono (ct_215   g_m224.1) (by decide) ?_
                  rintro m228 ⟨hx_m228, h_m228⟩
                  have g_m228 : MB m0 m228 := MB.md g_m224 hx_m228
                  have mi228 : MI m228 := MI_fr mi224 hx_m228.1 (hx_m228.2.1 284 18 rfl) (fun i j h => hx_m228.2.1 i j (sMd_no (by omega)))
                  have z228 : rd m228 284 2 = 0 := (hx_m228.2.1 284 2 rfl).trans z224
                  have rx228 : rfX m188 m228 := rx224.gx hx_m228 (fun _ => rfl) rfl (fun _ => rfl) (fun _ => rfl)
                  intro m233 e_m233
                  have g_m233 : MB m0 m233 := by rw [e_m233]; exact MB.wt g_m228 (tw_284_60 g_m228.1 ⟨by omega, by omega⟩) (by decide)
                  have mi233 : MI m233 := MI_wt mi228 g_m233.1 (by omega) e_m233
                  have z233 : rd m233 284 2 = 0 := by rw [e_m233, rd_wt, if_neg (by omega)]; exact z228
                  have rx233 : rfX m188 m233 := rx228.wt (by omega) e_m233
                  intro m238 e_m238
                  have g_m238 : MB m0 m238 := by rw [e_m238]; exact MB.wt g_m233 (tw_284_72 g_m233.1 ⟨by omega, by omega⟩) (by decide)
                  have mi238 : MI m238 := MI_wt mi233 g_m238.1 (by omega) e_m238
                  have z238 : rd m238 284 2 = 0 := by rw [e_m238, rd_wt, if_neg (by omega)]; exact z233
                  have rx238 : rfX m188 m238 := rx233.wt (by omega) e_m238
                  have rz238 : rd m238 284 72 = 0 := by rw [e_m238, rd_wt, if_pos ⟨rfl, rfl⟩]; rfl
                  refine ⟨fun x1_243 m_243 => MB m0 m_243 ∧ (((0 ≤ x1_243 ∧ x1_243 ≤ 3) ∧ MI m_243 ∧ rd m_243 284 2 = 0) ∧ (x1_243 ≤ 3 ∧ rfX m188 m_243 ∧ (rd m_243 284 72 = 0) ∧ ∀ j : Nat, (j : Int) < x1_243 → rd m_243 339 j = 0)), fun x1_243 m_243 => Int.toNat (3 - x1_243), ?_, ?_⟩
                  · exact ⟨g_m238, by exact ⟨by exact ⟨by omega, mi238, z238⟩, by exact ⟨by omega, rx238, rz238, fun j hj => by omega⟩⟩⟩
                  · intro x1_243 m_243 r_x1_243 hI_243
                    obtain ⟨g_m_243, hI_243⟩ := hI_243
                    obtain ⟨hI_243, cI_243⟩ := hI_243
                    refine ⟨fun hq => ?_, fun hq => ?_⟩
                    · skip
                      exact ⟨g_m_243, by exact ⟨by first | exact hI_243.2 | exact ⟨mi188, z188⟩, by first | exact rdm_0 a188 x188 (by omega) (by omega) rf188 cI_243.2.1 cI_243.2.2.1 (fun j hj => cI_243.2.2.2 j (by omega)) | exact rdm_x a188 x188 rf188 (by omega)⟩⟩
                    · skip
                      refine ⟨⟨by omega, by omega⟩, ?_⟩
                      intro m254 e_m254
                      have g_m254 : MB m0 m254 := by rw [e_m254]; exact MB.wt g_m_243 (tw_339 g_m_243.1 (nz_rg _)) (by decide)
                      have mi254 : MI m254 := MI_wt hI_243.2.1 g_m254.1 (by omega) e_m254
                      have z254 : rd m254 284 2 = 0 := by rw [e_m254, rd_wt, if_neg (by omega)]; exact hI_243.2.2
                      have r254 : rfX m188 m254 := cI_243.2.1.wt (by omega) e_m254
                      try have w20 : wr (x1_243 + 1) = x1_243 + 1 := wr_id (by omega) (by omega)
                      intro z1_255 e_z1_255
                      have r_z1_255 : rg z1_255 := by rw [e_z1_255]; exact wr_rg _
                      exact ⟨⟨g_m254, by exact ⟨by exact ⟨by omega, mi254, z254⟩, by exact ⟨by omega, r254, by rw [e_m254, rd_wt, if_neg (by omega)]; exact cI_243.2.2.1, fun j hj => by rw [e_m254, rd_wt]; split; exact nz0; exact cI_243.2.2.2 j (by omega)⟩⟩⟩, by (try dsimp only); omega⟩
                · skip
                  exact ⟨g_m188, by exact ⟨by first | exact hI_243.2 | exact ⟨mi188, z188⟩, by first | exact rdm_0 a188 x188 (by omega) (by omega) rf188 cI_243.2.1 cI_243.2.2.1 (fun j hj => cI_243.2.2.2 j (by omega)) | exact rdm_x a188 x188 rf188 (by omega)⟩⟩
              · skip
                exact ⟨g_m188, by exact ⟨by first | exact hI_243.2 | exact ⟨mi188, z188⟩, by first | exact rdm_0 a188 x188 (by omega) (by omega) rf188 cI_243.2.1 cI_243.2.2.1 (fun j hj => cI_243.2.2.2 j (by omega)) | exact rdm_x a188 x188 rf188 (by omega)⟩⟩
    · skip
      refine ⟨⟨by omega, by omega⟩, ?_⟩
      refine ⟨⟨by omega, by omega⟩, ?_⟩
      have t21 := ty_285 g_m_10.1 (Int.toNat x1_10)
      have nbf22 := nb_bd (rd m_10 285 (Int.toNat x1_10))
      intro m29 e_m29
      have g_m29 : MB m0 m29 := by rw [e_m29]; exact MB.wt g_m_10 (tw_286 g_m_10.1 ⟨by omega, by omega⟩) (by decide)
      have lv29 : lvFr m m29 := lv_wt hI_10.2 (by omega) e_m29
      have c29 : cpF m m29 := cI_10.2.2.wt (Or.inl rfl) e_m29
      have k29 : rd m29 284 4 = n := by rw [e_m29, rd_wt, if_neg (by omega)]; exact cI_10.1.1
      have t29 : ∀ j : Nat, (j : Int) < x1_10 + 1 → rd m29 286 j = rd m 285 j := cp_s cI_10.2.1 (by omega) cI_10.2.2.1 (ty_285 g_m_10.1 _) e_m29
      try have w23 : wr (x1_10 + 1) = x1_10 + 1 := wr_id (by omega) (by omega)
      intro z1_30 e_z1_30
      have r_z1_30 : rg z1_30 := by rw [e_z1_30]; exact wr_rg _
      exact ⟨⟨g_m29, by exact ⟨by exact ⟨by omega, lv29⟩, by exact ⟨⟨k29, by omega⟩, fun j hj => t29 j (by omega), c29⟩⟩⟩, by (try dsimp only); omega⟩
