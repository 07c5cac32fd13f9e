def nxt (p : Int) (x : Rp × Rp × Rp) : Int := p + (x.1.length + x.2.1.length + x.2.2.length + 2)
def tco (p : Int) (x : Rp × Rp × Rp) : Rp := x.1 ++ x.2.1 ++ [(3, nxt p x)] ++ x.2.2 ++ [(2, 0)]
theorem tco_len (p : Int) (x : Rp × Rp × Rp) : p + ((tco p x).length : Int) = nxt p x := by unfold tco nxt; simp; omega
/-- the codes of a law's tests, and of a law, from p on -/
def lcp : Int → List (Rp × Rp × Rp) → Rp
  | _, [] => []
  | p, x :: r => tco p x ++ lcp (nxt p x) r
def lc (p : Int) (R : List (Rp × Rp × Rp)) (L : Rp) : Rp := lcp p R ++ L ++ [(2, 0)]
theorem lcp_app (x : Rp × Rp × Rp) : ∀ (R : List (Rp × Rp × Rp)) (p : Int), lcp p (R ++ [x]) = lcp p R ++ tco (p + (lcp p R).length) x
  | [], p => by
    show tco p x ++ [] = [] ++ tco (p + ((0 : Nat) : Int)) x
    rw [show p + ((0 : Nat) : Int) = p by omega]
    simp
  | y :: R, p => by
    show tco p y ++ lcp (nxt p y) (R ++ [x]) = tco p y ++ lcp (nxt p y) R ++ tco (p + ((tco p y ++ lcp (nxt p y) R).length : Int)) x
    have e : p + ((tco p y ++ lcp (nxt p y) R).length : Int) = nxt p y + ((lcp (nxt p y) R).length : Int) := by
      rw [← tco_len p y, List.length_append]; omega
    rw [lcp_app x R (nxt p y), e, List.append_assoc]
/-- a law as its tokens tell it -/
def LT (K V : Int → Int) : Nat → Int → List (Rp × Rp × Rp) × Rp
  | 0, t => ([], EM K V t 0 0 [])
  | n + 1, t => if K t = 9 then ((EM K V (t + 1) 0 0 [], EM K V ((AU K (t + 1) 0 0).2 + 1) 0 0 [], EM K V ((AU K ((AU K (t + 1) 0 0).2 + 1) 0 0).2 + 1) 0 0 []) :: (LT K V n ((AU K ((AU K ((AU K (t + 1) 0 0).2 + 1) 0 0).2 + 1) 0 0).2 + 1)).1, (LT K V n ((AU K ((AU K ((AU K (t + 1) 0 0).2 + 1) 0 0).2 + 1) 0 0).2 + 1)).2) else ([], EM K V t 0 0 [])
theorem LT_no {K V : Int → Int} {t : Int} (h : ¬ K t = 9) : ∀ n : Nat, LT K V n t = ([], EM K V t 0 0 [])
  | 0 => rfl
  | n + 1 => if_neg h
theorem LT_if {K V : Int → Int} {n : Nat} {t t1 t2 t3 : Int} (h : K t = 9) (h1 : t1 = (AU K (t + 1) 0 0).2) (h2 : t2 = (AU K (t1 + 1) 0 0).2) (h3 : t3 = (AU K (t2 + 1) 0 0).2) : LT K V (n + 1) t = ((EM K V (t + 1) 0 0 [], EM K V (t1 + 1) 0 0 [], EM K V (t2 + 1) 0 0 []) :: (LT K V n (t3 + 1)).1, (LT K V n (t3 + 1)).2) := by
  subst h1; subst h2; subst h3
  exact if_pos h
theorem tk_k {m m2 : Mm} {k v : Int} (t : tkP m m2 k v) (z : rd m2 19 5 = 0) : rd m 19 5 = 0 ∧ kC m (rd m 19 4) = k ∧ rd m2 19 4 = rd m 19 4 + 1 ∧ rd m 19 4 < 400 := by
  rcases t.1 with ⟨q, -, q2, -⟩ | ⟨q, q1, q3, -, -, -, q2⟩ | ⟨q, -, q2, -⟩
  · omega
  · exact ⟨q, q1, q2, q3⟩
  · omega
theorem su_z {m m2 : Mm} {d : Int} (s : suP m m2 d) (z : rd m2 19 5 = 0) : rd m 19 5 = 0 := by
  by_cases q : rd m 19 5 = 0
  · exact q
  · have := s.1.2.1 q; omega
theorem tk_V {m : Mm} (h : tkOk m) : ∀ t, 0 ≤ t → t ≤ 400 → kC m t = 22 → 0 ≤ vC m t ∧ vC m t ≤ 9999 := fun t h1 h2 k => h (Int.toNat t) (by omega) k
theorem sm_e {K V : Int → Int} {m m2 : Mm} (s : suP m m2 0) (e : eqE m m2 0 allO topS) (k : kC m = K) (v : vC m = V) (hV : ∀ t, 0 ≤ t → t ≤ 400 → K t = 22 → 0 ≤ V t ∧ V t ≤ 9999) (ty0 : 0 ≤ rd m 19 4 ∧ rd m 19 4 ≤ 400) (ty : 0 ≤ rd m2 19 4 ∧ rd m2 19 4 ≤ 400) (z : rd m2 19 5 = 0) (p : rd m 20 4 ≤ rd m 19 4 + 8) : wf 15 0 (EM K V (rd m 19 4) 0 0 []) 1 ∧ rd m2 19 4 = (AU K (rd m 19 4) 0 0).2 ∧ wrC m m2 (EM K V (rd m 19 4) 0 0 []) ∧ rd m2 20 4 - rd m 20 4 ≤ rd m2 19 4 - rd m 19 4 := by
  obtain ⟨b, O, P, hP, hE, W⟩ := e z p
  have no := s.2 z
  rw [k] at no hE
  rw [v] at hE
  have a := s.1.2.2 (su_z s z)
  rw [k] at a
  rcases a with ⟨-, -, a⟩ | ⟨a, -⟩
  · rw [AU_z ty.2 no (by omega)] at a
    refine ⟨EM_wf hV ty0 (by rw [a]), by rw [a], ?_, b⟩
    have q := hE [] (Or.inl rfl)
    rw [EM_z ty.2 (by omega) no, po_app (Or.inl rfl) hP] at q
    rw [q]
    exact W
  · exact absurd z a
def lwI (K V : Int → Int) (m m2 : Mm) (n : Nat) : Prop := rd m2 19 5 = 0 → rd m 20 4 ≤ rd m 19 4 + 8 → rd m 19 5 = 0 ∧ rd m2 20 4 - rd m 20 4 ≤ rd m2 19 4 - rd m 19 4 ∧ ∃ R : List (Rp × Rp × Rp), (∀ x, x ∈ R → wfT x) ∧ wrC m m2 (lcp (rd m 20 4) R) ∧ LT K V 4 (rd m 19 4) = (R ++ (LT K V n (rd m2 19 4)).1, (LT K V n (rd m2 19 4)).2)
def lwK (K V : Int → Int) (m m2 : Mm) : Prop := rd m2 19 5 = 0 → rd m 20 4 ≤ rd m 19 4 + 8 → rd m 19 5 = 0 ∧ rd m2 20 4 - rd m 20 4 ≤ rd m2 19 4 - rd m 19 4 ∧ ∃ R : List (Rp × Rp × Rp), (∀ x, x ∈ R → wfT x) ∧ wrC m m2 (lcp (rd m 20 4) R) ∧ LT K V 4 (rd m 19 4) = (R, EM K V (rd m2 19 4) 0 0 [])
def lwJ (K V : Int → Int) (m m2 : Mm) : Prop := ¬ K (rd m2 19 4) = 9 → lwK K V m m2
theorem lwI_0 {K V : Int → Int} {m : Mm} (_k : kC m = K) (_v : vC m = V) : lwI K V m m 4 := fun z _ => ⟨z, by omega, [], (fun _ h => absurd h List.not_mem_nil), wr_S ⟨rfl, fun _ => rfl, fun _ => rfl⟩, rfl⟩
theorem lwJ_of {K V : Int → Int} {m m2 : Mm} {n : Nat} (h : lwI K V m m2 n) : lwJ K V m m2 := fun w z p => by
  obtain ⟨z0, b, R, wR, W, E⟩ := h z p
  rw [LT_no w] at E
  exact ⟨z0, b, R, wR, W, by rw [E]; simp⟩
theorem lwK_of {K V : Int → Int} {m m2 : Mm} (h : lwJ K V m m2) (w : ¬ K (rd m2 19 4) = 9) : lwK K V m m2 := h w
theorem wr_j {m m2 m3 : Mm} {X Y : Rp} {v : Int} (h : wrC m m2 (X ++ [(3, 0)] ++ Y)) (j : ldP m2 m3 20 v) (ev : v = rd m 20 4 + (X.length : Int)) (p : 0 ≤ rd m 20 4) : wrC m m3 (X ++ [(3, rd m2 20 4)] ++ Y) := by
  obtain ⟨a1, a2, a3, a4⟩ := h
  obtain ⟨j1, j2, j3, j4⟩ := j
  rw [List.append_assoc] at a4
  obtain ⟨s1, s2⟩ := sg_app.mp a4
  obtain ⟨s3, s4⟩ := sg_app.mp s2
  have n1 : (([(3, 0)] : Rp).length : Int) = 1 := rfl
  have n2 : (([(3, rd m2 20 4)] : Rp).length : Int) = 1 := rfl
  refine ⟨?_, fun q hq => (j3 q (by omega)).trans (a2 q hq), fun q => (j4 q).trans (a3 q), ?_⟩
  · rw [j1, a1]; simp
  · rw [List.append_assoc]
    refine sg_app.mpr ⟨sg_fr p (fun q h1 h2 => j3 q (by omega)) s1, sg_app.mpr ⟨⟨?_, trivial⟩, ?_⟩⟩
    · rw [← ev]
      exact j2 (by omega)
    · rw [n2]
      rw [n1] at s4
      exact sg_fr (by omega) (fun q h1 h2 => j3 q (by omega)) s4
theorem lw_b {K V : Int → Int} {m36 m41 m65 m71 m77 m83 m92 m99 m105 m114 m123 m129 : Mm} {n : Nat} {v65 v77 v92 v99 v114 v129 : Int} (h : lwI K V m36 m41 (n + 1)) (hV : ∀ t, 0 ≤ t → t ≤ 400 → K t = 22 → 0 ≤ V t ∧ V t ≤ 9999) (k41 : kC m41 = K) (k71 : kC m71 = K) (k92 : kC m92 = K) (k123 : kC m123 = K)
    (t9 : tkP m41 m65 9 v65) (f65 : lwS m41 m65) (k65 : kC m65 = K) (x65 : vC m65 = V) (s1 : suP m65 m71 0) (e1 : eqE m65 m71 0 allO topS)
    (t60 : tkP m71 m77 60 v77) (f77 : lwS m71 m77) (k77 : kC m77 = K) (x77 : vC m77 = V) (s2 : suP m77 m83 0) (e2 : eqE m77 m83 0 allO topS)
    (w92 : wx m83 m92 20 3 0 v92) (l92 : lwF m83 m92) (t10 : tkP m92 m99 10 v99) (f99 : lwS m92 m99) (k99 : kC m99 = K) (x99 : vC m99 = V) (s3 : suP m99 m105 0) (e3 : eqE m99 m105 0 allO topS)
    (w114 : wx m105 m114 20 2 0 v114) (l114 : lwF m105 m114) (j123 : ldP m114 m123 20 v92) (l123 : lwF m114 m123) (t11 : tkP m123 m129 11 v129) (f129 : lwS m123 m129)
    (y41 : 0 ≤ rd m41 19 4 ∧ rd m41 19 4 ≤ 400) (y71 : 0 ≤ rd m71 19 4 ∧ rd m71 19 4 ≤ 400) (y83 : 0 ≤ rd m83 19 4 ∧ rd m83 19 4 ≤ 400) (y105 : 0 ≤ rd m105 19 4 ∧ rd m105 19 4 ≤ 400) (z36 : 0 ≤ rd m36 20 4 ∧ rd m36 20 4 ≤ 420) (u83 : 0 ≤ rd m83 20 4 ∧ rd m83 20 4 ≤ 420) (u105 : 0 ≤ rd m105 20 4 ∧ rd m105 20 4 ≤ 420) : lwI K V m36 m129 n := by
  intro z p
  obtain ⟨z123, q123, t129, ot129⟩ := tk_k t11 z
  have z105 : rd m105 19 5 = 0 := l114.2.1.symm.trans (l123.2.1.symm.trans z123)
  have z99 := su_z s3 z105
  obtain ⟨z92, q92, t99, ot99⟩ := tk_k t10 z99
  have z83 : rd m83 19 5 = 0 := l92.2.1.symm.trans z92
  have z77 := su_z s2 z83
  obtain ⟨z71, q71, t77, ot77⟩ := tk_k t60 z77
  have z65 := su_z s1 z71
  obtain ⟨z41, q41, t65, ot65⟩ := tk_k t9 z65
  rw [k41] at q41
  obtain ⟨z36', b41, R, wR, W, E⟩ := h z41 p
  have g65 := f65.1
  have g77 := f77.1
  have g99 := f99.1
  have g129 := f129.1
  have h92 := l92.1
  have h114 := l114.1
  have h123 := l123.1
  obtain ⟨f71, a71, w71, c71⟩ := sm_e s1 e1 k65 x65 hV (by omega) y71 z71 (by omega)
  obtain ⟨f83, a83, w83, c83⟩ := sm_e s2 e2 k77 x77 hV (by omega) y83 z83 (by omega)
  have lt83 : rd m83 20 4 < 420 := by omega
  have x92 := w92.1 lt83
  have v92e := x92.1
  have s92 := x92.2.1
  obtain ⟨f105, a105, w105, c105⟩ := sm_e s3 e3 k99 x99 hV (by omega) y105 z105 (by omega)
  have lt105 : rd m105 20 4 < 420 := by omega
  have s114 := (w114.1 lt105).2.1
  have s123 := j123.1
  have p0 := z36.1
  have W83 := wr_t (wr_t (wr_t (wr_t W (wr_S f65) p0) w71 p0) (wr_S f77) p0) w83 p0
  have W114 := wr_t (wr_t (wr_t (wr_t W83 (wr_1 w92 ⟨u83.1, lt83⟩) p0) (wr_S f99) p0) w105 p0) (wr_1 w114 ⟨u105.1, lt105⟩) p0
  have n83 := W83.1
  have n114 := W114.1
  have e114 : lcp (rd m36 20 4) R ++ [] ++ EM K V (rd m65 19 4) 0 0 [] ++ [] ++ EM K V (rd m77 19 4) 0 0 [] ++ [(3, 0)] ++ [] ++ EM K V (rd m99 19 4) 0 0 [] ++ [(2, 0)] = (lcp (rd m36 20 4) R ++ EM K V (rd m65 19 4) 0 0 [] ++ EM K V (rd m77 19 4) 0 0 []) ++ [(3, 0)] ++ (EM K V (rd m99 19 4) 0 0 [] ++ [(2, 0)]) := by simp
  have e83 : lcp (rd m36 20 4) R ++ [] ++ EM K V (rd m65 19 4) 0 0 [] ++ [] ++ EM K V (rd m77 19 4) 0 0 [] = lcp (rd m36 20 4) R ++ EM K V (rd m65 19 4) 0 0 [] ++ EM K V (rd m77 19 4) 0 0 [] := by simp
  rw [e83] at n83
  rw [e114] at W114 n114
  have W123 := wr_j W114 j123 (by omega) p0
  have W129 := wr_t W123 (wr_S f129) p0
  have tgt : rd m114 20 4 = nxt (rd m36 20 4 + ((lcp (rd m36 20 4) R).length : Int)) (EM K V (rd m65 19 4) 0 0 [], EM K V (rd m77 19 4) 0 0 [], EM K V (rd m99 19 4) 0 0 []) := by
    unfold nxt
    rw [n114]
    simp
    omega
  refine ⟨z36', by omega, R ++ [(EM K V (rd m65 19 4) 0 0 [], EM K V (rd m77 19 4) 0 0 [], EM K V (rd m99 19 4) 0 0 [])], (fun x hx => by
    rcases List.mem_append.mp hx with q | q
    · exact wR x q
    · rw [List.mem_singleton.mp q]; exact ⟨f71, f83, f105⟩), ?_, ?_⟩
  · rw [lcp_app]
    unfold tco
    rw [← tgt]
    have e : lcp (rd m36 20 4) R ++ EM K V (rd m65 19 4) 0 0 [] ++ EM K V (rd m77 19 4) 0 0 [] ++ [(3, rd m114 20 4)] ++ (EM K V (rd m99 19 4) 0 0 [] ++ [(2, 0)]) ++ [] = lcp (rd m36 20 4) R ++ (EM K V (rd m65 19 4) 0 0 [] ++ EM K V (rd m77 19 4) 0 0 [] ++ [(3, rd m114 20 4)] ++ EM K V (rd m99 19 4) 0 0 [] ++ [(2, 0)]) := by simp
    rw [← e]
    exact W129
  · have lt := LT_if (V := V) (n := n) (t1 := rd m71 19 4) (t2 := rd m83 19 4) (t3 := rd m105 19 4) q41 (by rw [a71, t65]) (by rw [a83, t77]) (by rw [a105, t99, h92])
    rw [E, lt, t129, h123, h114, t65, t77, t99, h92]
    simp
def lwP (m m2 : Mm) (x1 : Int) : Prop := rd m2 19 5 = 0 → rd m 20 4 ≤ rd m 19 4 + 8 → (4 ≤ x1 ∧ x1 ≤ 7) ∧ wfE (LT (kC m) (vC m) 4 (rd m 19 4 + 2)) ∧ rd m2 20 4 - rd m 20 4 ≤ rd m2 19 4 - rd m 19 4 ∧ rd m2 23 (Int.toNat (x1 - 4)) = rd m 20 4 ∧ (∀ j : Nat, ¬ j = Int.toNat (x1 - 4) → rd m2 23 j = rd m 23 j) ∧ (∀ j : Nat, (j : Int) < rd m 20 4 → rd m2 22 j = rd m 22 j) ∧ rd m2 20 4 = rd m 20 4 + ((lc (rd m 20 4) (LT (kC m) (vC m) 4 (rd m 19 4 + 2)).1 (LT (kC m) (vC m) 4 (rd m 19 4 + 2)).2).length : Int) ∧ sgC m2 22 (rd m 20 4) (lc (rd m 20 4) (LT (kC m) (vC m) 4 (rd m 19 4 + 2)).1 (LT (kC m) (vC m) 4 (rd m 19 4 + 2)).2)
theorem lw_e {m m18 m25 m36 m153 m155 m164 : Mm} {x1 v18 v25 v164 : Int} (hx : 4 ≤ x1 ∧ x1 ≤ 7) (t1 : tkP m m18 x1 v18) (f18 : lwS m m18) (t2 : tkP m18 m25 61 v25) (f25 : lwS m18 m25) (b36 : bgP m25 m36 20 (wr (x1 - 4))) (l36 : lwF m25 m36) (w1 : wr (x1 - 4) = x1 - 4) (h : lwK (kC m) (vC m) m36 m153) (hV : ∀ t, 0 ≤ t → t ≤ 400 → kC m t = 22 → 0 ≤ vC m t ∧ vC m t ≤ 9999) (k : kC m153 = kC m) (v : vC m153 = vC m) (s : suP m153 m155 0) (e : eqE m153 m155 0 allO topS) (w : wx m155 m164 20 2 0 v164) (l164 : lwF m155 m164) (y153 : 0 ≤ rd m153 19 4 ∧ rd m153 19 4 ≤ 400) (y155 : 0 ≤ rd m155 19 4 ∧ rd m155 19 4 ≤ 400) (u : 0 ≤ rd m 20 4 ∧ rd m 20 4 ≤ 420) (u36 : 0 ≤ rd m36 20 4 ∧ rd m36 20 4 ≤ 420) (u155 : 0 ≤ rd m155 20 4 ∧ rd m155 20 4 ≤ 420) : lwP m m164 x1 := by
  intro z p
  have z155 : rd m155 19 5 = 0 := l164.2.1.symm.trans z
  have z153 := su_z s z155
  obtain ⟨c1, c2, c3, c4⟩ := b36
  have g18 := f18.1
  have g25 := f25.1
  have h164 := l164.1
  have l4 := l36.1
  have t25 : rd m18 19 4 ≤ rd m25 19 4 := by
    have := t2.1
    omega
  have t18 : rd m 19 4 ≤ rd m18 19 4 := by
    have := t1.1
    omega
  obtain ⟨z36, b, R, wR, W, E⟩ := h z153 (by omega)
  obtain ⟨z18, -, a25, b25⟩ := tk_k t2 (l36.2.1.symm.trans z36)
  obtain ⟨-, -, a18, b18⟩ := tk_k t1 z18
  have t36 : rd m36 19 4 = rd m 19 4 + 2 := by omega
  obtain ⟨f155, a155, w155, c155⟩ := sm_e s e k v hV y153 y155 z155 (by omega)
  have lt155 : rd m155 20 4 < 420 := by omega
  have s164 := (w.1 lt155).2.1
  have W164 := wr_t (wr_t W w155 u36.1) (wr_1 w ⟨u155.1, lt155⟩) u36.1
  rw [w1] at c3 c4
  have sz : rd m36 20 4 = rd m 20 4 := by omega
  rw [t36] at E
  obtain ⟨d1, d2, d3, d4⟩ := W164
  rw [sz] at d1 d2 d4
  refine ⟨hx, by rw [E]; exact ⟨wR, f155⟩, by omega, (d3 _).trans (c3.trans (by omega)), fun j q => (d3 j).trans ((c4 j q).trans ((f25.2.2 j).trans (f18.2.2 j))), fun j q => (d2 j q).trans ((c2 j).trans ((f25.2.1 j).trans (f18.2.1 j))), ?_, ?_⟩
  · rw [E]; exact d1
  · rw [E]; exact d4
-- TippedCrates$Reader.readLaw(I)V
set_option maxRecDepth 20000 in
theorem ey_46 {m0 m : Mm} {x1 : Int}  (g_m : RX m0 m) (r_x1 : rg x1)  : CV 34 46 [.ref 19, iv x1] m (fun m2 => RX m0 m2 ∧ (((True) ∧ (∀ s : Ps, RC s m → RC (pL (tX m0) x1 s) m2)) ∧ (lwP m m2 x1))) := by
  refine br_46 r_x1 ?_
  unfold P_46
  refine CK.mono (ct_166   r_x1 (by unfold rg; decide) (by unfold rg; decide)) (by decide) ?_
  rintro m4 v4 r_v4 ⟨e_m4, h_m4⟩
  replace e_m4 := e_m4.symm
  subst e_m4
  refine ⟨fun hq => ?_, fun hq => ?_⟩
  · skip
    refine CK.mono (ct_39   g_m.1 r_x1) (by decide) ?_
    rintro m18 v18 r_v18 ⟨hx_m18, h_m18⟩
    have g_m18 : RX m0 m18 := RX.tk g_m hx_m18 (by omega) (by omega)
    refine CK.mono (ct_39   g_m18.1 (by unfold rg; decide)) (by decide) ?_
    rintro m25 v25 r_v25 ⟨hx_m25, h_m25⟩
    have g_m25 : RX m0 m25 := RX.tk g_m18 hx_m25 (by omega) (by omega)
    try have w1 : wr (x1 - 4) = x1 - 4 := wr_id (by omega) (by omega)
    refine CV.mono (ex_14   g_m25.1 lw_20 (wr_rg _) (by omega) g_m25.2.1) (by decide) ?_
    rintro m36 ⟨hx_m36, h_m36⟩
    have g_m36 : RX m0 m36 := RX.lw g_m25 hx_m36 h_m36.1
    obtain ⟨h_m36, q_m36⟩ := h_m36
    have c36 : ∀ s : Ps, RC s m → RC (pT (tX m0) 61 (pT (tX m0) x1 s)) m36 := fun s h => rc_lw (rc_T (rc_T h hx_m18 (tX_rx g_m) h_m18) hx_m25 (tX_rx g_m18) h_m25) hx_m36
    refine ⟨fun x2_41 m_41 => RX m0 m_41 ∧ (((0 ≤ x2_41 ∧ x2_41 ≤ 4) ∧ (∀ s : Ps, RC s m → ∃ s2 : Ps, RC s2 m_41 ∧ pIfs (tX m0) (Int.toNat (4 - x2_41)) s2 = (pIfs (tX m0) 4 (pT (tX m0) 61 (pT (tX m0) x1 s))))) ∧ (lwI (kC m) (vC m) m36 m_41 (Int.toNat (4 - x2_41)))), fun x2_41 m_41 => Int.toNat (4 - x2_41), ?_, ?_⟩
    · exact ⟨g_m36, by exact ⟨by exact ⟨by first | omega | (refine ⟨?_, ?_⟩ <;> omega) | trivial, by exact fun s h => ⟨_, c36 s h, rfl⟩⟩, by exact lwI_0 (kC_eq g_m g_m36) (vC_eq g_m g_m36)⟩⟩
    · intro x2_41 m_41 r_x2_41 hI_41
      obtain ⟨g_m_41, hI_41⟩ := hI_41
      obtain ⟨hI_41, dI_41⟩ := hI_41
      obtain ⟨hI_41, cI_41⟩ := hI_41
      refine ⟨fun m_139 => RX m0 m_139 ∧ (((True) ∧ (∀ s : Ps, RC s m → RC (pIfs (tX m0) 4 (pT (tX m0) 61 (pT (tX m0) x1 s))) m_139)) ∧ (lwJ (kC m) (vC m) m36 m_139)), ?_, ?_⟩
      · skip
        refine ⟨fun hq => ?_, fun hq => ?_⟩
        · skip
          exact ⟨g_m_41, by exact ⟨by exact ⟨by first | trivial | omega | (refine ⟨?_, ?_⟩ <;> omega), by first | exact fun s h => if_R (cI_41 s h) (tX_rx g_m_41) (Or.inl (by omega)) | exact fun s h => if_R (cI_41 s h) (tX_rx g_m_41) (Or.inr (Or.inl (by omega))) | exact fun s h => if_R (cI_41 s h) (tX_rx g_m_41) (Or.inr (Or.inr (by omega)))⟩, by exact lwJ_of dI_41⟩⟩
        · skip
          refine ⟨fun hq => ?_, fun hq => ?_⟩
          · skip
            exact ⟨g_m_41, by exact ⟨by exact ⟨by first | trivial | omega | (refine ⟨?_, ?_⟩ <;> omega), by first | exact fun s h => if_R (cI_41 s h) (tX_rx g_m_41) (Or.inl (by omega)) | exact fun s h => if_R (cI_41 s h) (tX_rx g_m_41) (Or.inr (Or.inl (by omega))) | exact fun s h => if_R (cI_41 s h) (tX_rx g_m_41) (Or.inr (Or.inr (by omega)))⟩, by exact lwJ_of dI_41⟩⟩
          · skip
            refine CK.mono (ct_36   g_m_41.1) (by decide) ?_
            rintro m54 v54 r_v54 ⟨e_m54, h_m54⟩
            replace e_m54 := e_m54.symm
            subst e_m54
            refine ⟨fun hq => ?_, fun hq => ?_⟩
            · skip
              exact ⟨g_m_41, by exact ⟨by exact ⟨by first | trivial | omega | (refine ⟨?_, ?_⟩ <;> omega), by first | exact fun s h => if_R (cI_41 s h) (tX_rx g_m_41) (Or.inl (by omega)) | exact fun s h => if_R (cI_41 s h) (tX_rx g_m_41) (Or.inr (Or.inl (by omega))) | exact fun s h => if_R (cI_41 s h) (tX_rx g_m_41) (Or.inr (Or.inr (by omega)))⟩, by exact lwJ_of dI_41⟩⟩
            · skip
              refine CK.mono (ct_39   g_m_41.1 (by unfold rg; decide)) (by decide) ?_
              rintro m65 v65 r_v65 ⟨hx_m65, h_m65⟩
              have g_m65 : RX m0 m65 := RX.tk g_m_41 hx_m65 (by omega) (by omega)
              refine CV.mono (ey_47   g_m65 (by unfold rg; decide) (by omega) (by omega)) (by decide) ?_
              rintro m71 ⟨g_m71, h_m71⟩
              obtain ⟨h_m71, q_m71⟩ := h_m71
              refine CK.mono (ct_39   g_m71.1 (by unfold rg; decide)) (by decide) ?_
              rintro m77 v77 r_v77 ⟨hx_m77, h_m77⟩
              have g_m77 : RX m0 m77 := RX.tk g_m71 hx_m77 (by omega) (by omega)
              refine CV.mono (ey_47   g_m77 (by unfold rg; decide) (by omega) (by omega)) (by decide) ?_
              rintro m83 ⟨g_m83, h_m83⟩
              obtain ⟨h_m83, q_m83⟩ := h_m83
              refine CK.mono (ex_15   g_m83.1 lw_20 (by unfold rg; decide) (by unfold rg; decide) (by omega) (by omega) (fun h => by omega) g_m83.2.1) (by decide) ?_
              rintro m92 v92 r_v92 ⟨hx_m92, h_m92⟩
              have g_m92 : RX m0 m92 := RX.lw g_m83 hx_m92 h_m92.1.1
              obtain ⟨h_m92, q_m92⟩ := h_m92
              refine CK.mono (ct_39   g_m92.1 (by unfold rg; decide)) (by decide) ?_
              rintro m99 v99 r_v99 ⟨hx_m99, h_m99⟩
              have g_m99 : RX m0 m99 := RX.tk g_m92 hx_m99 (by omega) (by omega)
              refine CV.mono (ey_47   g_m99 (by unfold rg; decide) (by omega) (by omega)) (by decide) ?_
              rintro m105 ⟨g_m105, h_m105⟩
              obtain ⟨h_m105, q_m105⟩ := h_m105
              refine CK.mono (ex_15   g_m105.1 lw_20 (by unfold rg; decide) (by unfold rg; decide) (by omega) (by omega) (fun h => by omega) g_m105.2.1) (by decide) ?_
              rintro m114 v114 r_v114 ⟨hx_m114, h_m114⟩
              have g_m114 : RX m0 m114 := RX.lw g_m105 hx_m114 h_m114.1.1
              obtain ⟨h_m114, q_m114⟩ := h_m114
              refine CV.mono (ex_16   g_m114.1 lw_20 r_v92 (by omega) g_m114.2.1) (by decide) ?_
              rintro m123 ⟨hx_m123, h_m123⟩
              have g_m123 : RX m0 m123 := RX.lw g_m114 hx_m123 h_m123.1
              obtain ⟨h_m123, q_m123⟩ := h_m123
              refine CK.mono (ct_39   g_m123.1 (by unfold rg; decide)) (by decide) ?_
              rintro m129 v129 r_v129 ⟨hx_m129, h_m129⟩
              have g_m129 : RX m0 m129 := RX.tk g_m123 hx_m129 (by omega) (by omega)
              have c129 : ∀ s : Ps, RC s m_41 → RC (pIf (tX m0) s) m129 := fun s h => by
                have a1 := rc_T h hx_m65 (tX_rx g_m_41) h_m65
                have a2 := rc_S a1 (tX_rx g_m65) h_m71.1 h_m71.2 (ty_19_4 g_m71.1).2
                have a3 := rc_T a2 hx_m77 (tX_rx g_m71) h_m77
                have a4 := rc_S a3 (tX_rx g_m77) h_m83.1 h_m83.2 (ty_19_4 g_m83.1).2
                have a5 := rc_lw a4 hx_m92
                have a6 := rc_T a5 hx_m99 (tX_rx g_m92) h_m99
                have a7 := rc_S a6 (tX_rx g_m99) h_m105.1 h_m105.2 (ty_19_4 g_m105.1).2
                have a8 := rc_lw (rc_lw a7 hx_m114) hx_m123
                exact rc_T a8 hx_m129 (tX_rx g_m123) h_m129
              have lb129 : lwI (kC m) (vC m) m36 m129 (Int.toNat (3 - x2_41)) := lw_b (by rw [show Int.toNat (3 - x2_41) + 1 = Int.toNat (4 - x2_41) by omega]; exact dI_41) (tk_V g_m.2.2.2.1) (kC_eq g_m g_m_41) (kC_eq g_m g_m71) (kC_eq g_m g_m92) (kC_eq g_m g_m123) h_m65 (lwS_tk hx_m65) (kC_eq g_m g_m65) (vC_eq g_m g_m65) h_m71.1 q_m71 h_m77 (lwS_tk hx_m77) (kC_eq g_m g_m77) (vC_eq g_m g_m77) h_m83.1 q_m83 q_m92 (lwF_of hx_m92) h_m99 (lwS_tk hx_m99) (kC_eq g_m g_m99) (vC_eq g_m g_m99) h_m105.1 q_m105 q_m114 (lwF_of hx_m114) q_m123 (lwF_of hx_m123) h_m129 (lwS_tk hx_m129) (ty_19_4 g_m_41.1) (ty_19_4 g_m71.1) (ty_19_4 g_m83.1) (ty_19_4 g_m105.1) (ty_lw4 g_m36.1 lw_20) (ty_lw4 g_m83.1 lw_20) (ty_lw4 g_m105.1 lw_20)
              try have w3 : wr (x2_41 + 1) = x2_41 + 1 := wr_id (by omega) (by omega)
              intro z2_133 e_z2_133
              have r_z2_133 : rg z2_133 := by rw [e_z2_133]; exact wr_rg _
              exact ⟨⟨g_m129, by exact ⟨by exact ⟨by first | omega | (refine ⟨?_, ?_⟩ <;> omega) | trivial, by exact fun s h => if_B (cI_41 s h) (tX_rx g_m_41) (by omega) (by omega) (by omega) c129⟩, by exact (by rw [show Int.toNat (4 - z2_133) = Int.toNat (3 - x2_41) by omega]; exact lb129)⟩⟩, by (try dsimp only); omega⟩
      · intro m_139  hR_139
        obtain ⟨g_m_139, hR_139⟩ := hR_139
        obtain ⟨hR_139, dR_139⟩ := hR_139
        obtain ⟨hR_139, cR_139⟩ := hR_139
        refine CK.mono (ct_36   g_m_139.1) (by decide) ?_
        rintro m140 v140 r_v140 ⟨e_m140, h_m140⟩
        replace e_m140 := e_m140.symm
        subst e_m140
        refine ⟨fun m_153 => RX m0 m_153 ∧ (((True) ∧ (∀ s : Ps, RC s m → RC (pRm (tX m0) (pIfs (tX m0) 4 (pT (tX m0) 61 (pT (tX m0) x1 s)))) m_153)) ∧ (lwK (kC m) (vC m) m36 m_153)), ?_, ?_⟩
        · skip
          refine ⟨fun hq => ?_, fun hq => ?_⟩
          · skip
            exact ⟨g_m_139, by exact ⟨by exact ⟨by first | trivial | omega | (refine ⟨?_, ?_⟩ <;> omega), by first | exact fun s h => rm_0 (cR_139 s h) (tX_rx g_m_139) (by omega) | exact fun s h => rm_1 (cR_139 s h) (tX_rx g_m_139) (by omega) (f150 _ (cR_139 s h))⟩, by first | exact lwK_of dR_139 (fun w => by have e : kC m (rd m_139 19 4) = rd m_139 2 (Int.toNat (rd m_139 19 4)) := by { rw [← kC_eq g_m g_m_139]; rfl }; omega) | exact fun z => absurd z (by omega)⟩⟩
          · skip
            refine CV.mono (ct_37   g_m_139.1 (by unfold rg; decide) (by omega)) (by decide) ?_
            rintro m150 ⟨hx_m150, h_m150⟩
            have g_m150 : RX m0 m150 := RX.tk g_m_139 hx_m150 (by omega) (by omega)
            have f150 : ∀ s : Ps, RC s m_139 → RC (pF (tX m0) 2 s) m150 := fun s h => rc_F h (tX_rx g_m_139) (by decide) h_m150
            exact ⟨g_m150, by exact ⟨by exact ⟨by first | trivial | omega | (refine ⟨?_, ?_⟩ <;> omega), by first | exact fun s h => rm_0 (cR_139 s h) (tX_rx g_m_139) (by omega) | exact fun s h => rm_1 (cR_139 s h) (tX_rx g_m_139) (by omega) (f150 _ (cR_139 s h))⟩, by first | exact lwK_of dR_139 (fun w => by have e : kC m (rd m_139 19 4) = rd m_139 2 (Int.toNat (rd m_139 19 4)) := by { rw [← kC_eq g_m g_m_139]; rfl }; omega) | exact fun z => absurd z (by omega)⟩⟩
        · intro m_153  hR_153
          obtain ⟨g_m_153, hR_153⟩ := hR_153
          obtain ⟨hR_153, dR_153⟩ := hR_153
          obtain ⟨hR_153, cR_153⟩ := hR_153
          refine CV.mono (ey_47   g_m_153 (by unfold rg; decide) (by omega) (by omega)) (by decide) ?_
          rintro m155 ⟨g_m155, h_m155⟩
          obtain ⟨h_m155, q_m155⟩ := h_m155
          refine CK.mono (ex_15   g_m155.1 lw_20 (by unfold rg; decide) (by unfold rg; decide) (by omega) (by omega) (fun h => by omega) g_m155.2.1) (by decide) ?_
          rintro m164 v164 r_v164 ⟨hx_m164, h_m164⟩
          have g_m164 : RX m0 m164 := RX.lw g_m155 hx_m164 h_m164.1.1
          obtain ⟨h_m164, q_m164⟩ := h_m164
          have c164 : ∀ s : Ps, RC s m_153 → RC (pS (tX m0) s) m164 := fun s h => by
            have a1 := rc_S h (tX_rx g_m_153) h_m155.1 h_m155.2 (ty_19_4 g_m155.1).2
            exact rc_lw a1 hx_m164
          have lw164 : lwP m m164 x1 := lw_e (by omega) h_m18 (lwS_tk hx_m18) h_m25 (lwS_tk hx_m25) q_m36 (lwF_of hx_m36) w1 dR_153 (tk_V g_m.2.2.2.1) (kC_eq g_m g_m_153) (vC_eq g_m g_m_153) h_m155.1 q_m155 q_m164 (lwF_of hx_m164) (ty_19_4 g_m_153.1) (ty_19_4 g_m155.1) (ty_lw4 g_m.1 lw_20) (ty_lw4 g_m36.1 lw_20) (ty_lw4 g_m155.1 lw_20)
          exact ⟨g_m164, by exact ⟨by exact ⟨by first | trivial | omega | (refine ⟨?_, ?_⟩ <;> omega), by first | exact fun s h => by unfold pL; rw [if_pos (by omega)]; exact c164 _ (cR_153 s h) | exact fun s h => by unfold pL; rw [if_neg (by omega)]; exact f12 s h⟩, by first | exact lw164 | exact fun z => absurd z (by omega)⟩⟩
  · skip
    refine CV.mono (ct_37   g_m.1 (by unfold rg; decide) (by omega)) (by decide) ?_
    rintro m12 ⟨hx_m12, h_m12⟩
    have g_m12 : RX m0 m12 := RX.tk g_m hx_m12 (by omega) (by omega)
    have f12 : ∀ s : Ps, RC s m → RC (pF (tX m0) 1 s) m12 := fun s h => rc_F h (tX_rx g_m) (by decide) h_m12
    exact ⟨g_m12, by exact ⟨by exact ⟨by first | trivial | omega | (refine ⟨?_, ?_⟩ <;> omega), by first | exact fun s h => by unfold pL; rw [if_pos (by omega)]; exact c164 _ (cR_153 s h) | exact fun s h => by unfold pL; rw [if_neg (by omega)]; exact f12 s h⟩, by first | exact lw164 | exact fun z => absurd z (by omega)⟩⟩
