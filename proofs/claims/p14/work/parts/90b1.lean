/-! What a sum's codes keep to: heights within 0 .. 16, codes and what stands with them in range -/
def wf (k : Int) : Int → Rp → Int → Prop
  | h, [], e => e = h
  | h, x :: L, e => (0 ≤ x.2 ∧ x.2 ≤ 9999) ∧ if x.1 < 2 then (0 ≤ x.1 ∧ h + 1 ≤ k ∧ (x.1 = 1 → x.2 ≤ 8) ∧ wf k (h + 1) L e) else ((4 ≤ x.1 ∧ x.1 ≤ 7) ∧ x.2 = 0 ∧ 2 ≤ h ∧ wf k (h - 1) L e)
theorem wf_app {k : Int} {L2 : Rp} {e f : Int} : ∀ {L : Rp} {h : Int}, wf k h L e → wf k e L2 f → wf k h (L ++ L2) f
  | [], h, a, b => by
    have : e = h := a
    rw [this] at b
    exact b
  | x :: L, h, a, b => by
    refine ⟨a.1, ?_⟩
    have q := a.2
    split at q
    · next c => rw [if_pos c]; exact ⟨q.1, q.2.1, q.2.2.1, wf_app q.2.2.2 b⟩
    · next c => rw [if_neg c]; exact ⟨q.1, q.2.1, q.2.2.1, wf_app q.2.2.2 b⟩
theorem wf_bin {k h e : Int} {w : Int} {L : Rp} (c : 2 ≤ h) (r : wf k (h - 1) L e) : wf k h ((opc w, 0) :: L) e := by
  have o : 4 ≤ opc w ∧ opc w ≤ 7 := by
    unfold opc
    split
    · omega
    · split
      · omega
      · split <;> omega
  refine ⟨⟨Int.le_refl _, by show (0 : Int) ≤ 9999; decide⟩, ?_⟩
  show if opc w < 2 then _ else _
  rw [if_neg (by omega)]
  exact ⟨o, rfl, c, r⟩
/-- signs that wait: how many, how many '(' among them, and their order -/
def ocn : List Int → Int
  | [] => 0
  | w :: W => (if w = 40 then 0 else 1) + ocn W
def pcn : List Int → Int
  | [] => 0
  | w :: W => (if w = 40 then 1 else 0) + pcn W
def okW : List Int → Prop
  | [] => True
  | w :: W => (w = 40 ∨ ((w = 43 ∨ w = 45) ∧ topS W) ∨ ((w = 42 ∨ w = 47) ∧ topP W)) ∧ okW W
theorem oc_0 : ∀ W : List Int, 0 ≤ ocn W ∧ 0 ≤ pcn W
  | [] => ⟨Int.le_refl _, Int.le_refl _⟩
  | w :: W => by
    have := oc_0 W
    unfold ocn pcn
    constructor
    · split <;> omega
    · split <;> omega
theorem oc_b : ∀ {W : List Int}, okW W → ocn W ≤ 2 * pcn W + 2 ∧ (topP W → ocn W ≤ 2 * pcn W + 1) ∧ (topS W → ocn W ≤ 2 * pcn W)
  | [], _ => ⟨by show (0 : Int) ≤ 2 * 0 + 2; omega, fun _ => by show (0 : Int) ≤ 2 * 0 + 1; omega, fun _ => by show (0 : Int) ≤ 2 * 0; omega⟩
  | w :: W, h => by
    obtain ⟨c, k⟩ := h
    obtain ⟨b1, b2, b3⟩ := oc_b k
    unfold ocn pcn
    rcases c with c | ⟨c, t⟩ | ⟨c, t⟩
    · rw [if_pos c, if_pos c]
      exact ⟨by omega, fun _ => by omega, fun _ => by omega⟩
    · have b := b3 t
      rw [if_neg (by omega), if_neg (by omega)]
      refine ⟨by omega, fun _ => by omega, fun q => ?_⟩
      rcases q with q | ⟨X, q⟩
      · exact absurd q (List.cons_ne_nil _ _)
      · have : w = 40 := (List.cons.inj q).1
        omega
    · have b := b2 t
      rw [if_neg (by omega), if_neg (by omega)]
      refine ⟨by omega, fun q => ?_, fun q => ?_⟩
      · rcases q with q | ⟨x, X, q, r⟩
        · exact absurd q (List.cons_ne_nil _ _)
        · have : w = x := (List.cons.inj q).1
          omega
      · rcases q with q | ⟨X, q⟩
        · exact absurd q (List.cons_ne_nil _ _)
        · have : w = 40 := (List.cons.inj q).1
          omega
/-- what comes out goes down to where the signs stop -/
theorem po_wf {k : Int} {st : Bool} {L : Rp} {e : Int} : ∀ {W : List Int}, okW W → wf k (ocn (po st W).1 + 1) L e → wf k (ocn W + 1) ((po st W).2 ++ L) e ∧ okW (po st W).1 ∧ pcn (po st W).1 = pcn W ∧ (st = true → topP (po st W).1) ∧ (st = false → topS (po st W).1)
  | [], _, r => ⟨r, trivial, rfl, fun _ => Or.inl rfl, fun _ => Or.inl rfl⟩
  | w :: W, h, r => by
    by_cases q : w = 40 ∨ (st = true ∧ (w = 43 ∨ w = 45))
    · have e : po st (w :: W) = (w :: W, []) := by unfold po; rw [if_pos q]
      rw [e] at r ⊢
      refine ⟨r, h, rfl, fun _ => Or.inr ⟨w, W, rfl, by omega⟩, fun z => ?_⟩
      rcases q with q | ⟨q, -⟩
      · exact Or.inr ⟨W, by rw [q]⟩
      · rw [q] at z; exact absurd z (by decide)
    · have e : po st (w :: W) = ((po st W).1, (opc w, 0) :: (po st W).2) := by
        show (if _ then _ else _) = _
        rw [if_neg q]
      rw [e] at r ⊢
      obtain ⟨a, b, c, d, f⟩ := po_wf (st := st) h.2 r
      have n40 : ¬ w = 40 := fun z => q (Or.inl z)
      have o : ocn (w :: W) = 1 + ocn W := by
        show (if w = 40 then 0 else 1) + ocn W = _
        rw [if_neg n40]
      have p : pcn (w :: W) = pcn W := by
        show (if w = 40 then 1 else 0) + pcn W = _
        rw [if_neg n40]; omega
      have z := oc_0 W
      refine ⟨?_, b, by rw [p]; exact c, d, f⟩
      show wf k (ocn (w :: W) + 1) ((opc w, 0) :: ((po st W).2 ++ L)) _
      rw [o]
      refine wf_bin (by omega) ?_
      rw [show 1 + ocn W + 1 - 1 = ocn W + 1 by omega]
      exact a
theorem wf_unit {k : Int} {K V : Int → Int} {t h e : Int} {L : Rp} (u : isU (K t)) (hV : K t = 22 → 0 ≤ V t ∧ V t ≤ 9999) (hh : h + 1 ≤ k) (r : wf k (h + 1) L e) : wf k h (uc K V t :: L) e := by
  unfold isU at u
  by_cases q : K t = 22
  · rw [uc_i q rfl]
    refine ⟨hV q, ?_⟩
    show if (0 : Int) < 2 then _ else _
    rw [if_pos (by decide)]
    exact ⟨Int.le_refl _, hh, fun z => absurd z (by show ¬ (0 : Int) = 1; decide), r⟩
  · rw [uc_v q rfl]
    refine ⟨⟨by show 0 ≤ K t - 12; omega, by show K t - 12 ≤ 9999; omega⟩, ?_⟩
    show if (1 : Int) < 2 then _ else _
    rw [if_pos (by decide)]
    exact ⟨by show (0 : Int) ≤ 1; decide, hh, fun _ => by show K t - 12 ≤ 8; omega, r⟩
theorem em_wf {K V : Int → Int} (hV : ∀ t, 0 ≤ t → t ≤ 400 → K t = 22 → 0 ≤ V t ∧ V t ≤ 9999) : ∀ (n : Nat) (t d s : Int) (W : List Int), (0 ≤ t ∧ t ≤ 400) → (au K n t d s).1 = 0 → okW W → pcn W = d → d ≤ 6 → (s = 0 ∨ s = 1) → wf 15 (ocn W + s) (em K V n t d s W) 1
  | 0, t, d, s, W, _, h, _, _, _, _ => absurd h (by show ¬ (9 : Int) = 0; decide)
  | n + 1, t, d, s, W, ht, h, ok, pd, d6, hs => by
    have z := oc_0 W
    have b := oc_b ok
    unfold au at h
    unfold em
    by_cases s0 : s = 0
    · subst s0
      rw [if_pos rfl] at h ⊢
      by_cases k : K t = 40
      · rw [if_pos k] at h ⊢
        by_cases d46 : d = 6 ∨ t = 400
        · rw [if_pos d46] at h
          exact absurd h (by show ¬ (2 : Int) = 0; decide)
        · rw [if_neg d46] at h
          have r := em_wf hV n (t + 1) (d + 1) 0 (40 :: W) (by omega) h ⟨Or.inl rfl, ok⟩ (by show (if (40 : Int) = 40 then 1 else 0) + pcn W = _; rw [if_pos rfl]; omega) (by omega) (Or.inl rfl)
          have e : ocn (40 :: W) = ocn W := by show (if (40 : Int) = 40 then 0 else 1) + ocn W = _; rw [if_pos rfl]; omega
          rw [e] at r
          exact r
      · rw [if_neg k] at h ⊢
        by_cases u : isU (K t)
        · rw [if_pos u] at h
          by_cases t4 : t = 400
          · rw [if_pos t4] at h
            exact absurd h (by show ¬ (2 : Int) = 0; decide)
          · rw [if_neg t4] at h
            have r := em_wf hV n (t + 1) d 1 W (by omega) h ok pd d6 (Or.inr rfl)
            exact wf_unit u (hV t ht.1 ht.2) (by omega) (by rw [Int.add_zero]; exact r)
        · rw [if_neg u] at h
          exact absurd h (by show ¬ (1 : Int) = 0; decide)
    · have s1 : s = 1 := by omega
      subst s1
      rw [if_neg (by decide)] at h ⊢
      by_cases k : K t = 41 ∧ 0 < d
      · rw [if_pos k] at h ⊢
        by_cases t4 : t = 400
        · rw [if_pos t4] at h
          exact absurd h (by show ¬ (2 : Int) = 0; decide)
        · rw [if_neg t4] at h
          have pw := po_wf (k := 15) (st := false) (L := []) (e := ocn (po false W).1 + 1) ok rfl
          have tp := pw.2.2.2.2 rfl
          rcases tp with tp | ⟨X, tp⟩
          · exfalso
            have c := pw.2.2.1
            rw [tp] at c
            have : pcn W = 0 := c.symm
            omega
          · have okX : okW X := by have := pw.2.1; rw [tp] at this; exact this.2
            have pX : pcn X = d - 1 := by
              have c := pw.2.2.1
              rw [tp] at c
              have c2 : (if (40 : Int) = 40 then 1 else 0) + pcn X = pcn W := c
              rw [if_pos rfl] at c2
              omega
            have oX : ocn (po false W).1 = ocn X := by
              rw [tp]
              show (if (40 : Int) = 40 then 0 else 1) + ocn X = _
              rw [if_pos rfl]; omega
            have r := em_wf hV n (t + 1) (d - 1) 1 X (by omega) h okX pX (by omega) (Or.inr rfl)
            have e : (po false W).1.tail = X := by rw [tp]; rfl
            rw [e]
            exact (po_wf (k := 15) (st := false) ok (by rw [oX]; exact r)).1
      · rw [if_neg k] at h ⊢
        by_cases o : isOp (K t)
        · rw [if_pos o] at h ⊢
          by_cases t4 : t = 400
          · rw [if_pos t4] at h
            exact absurd h (by show ¬ (2 : Int) = 0; decide)
          · rw [if_neg t4] at h
            have pw := po_wf (k := 15) (st := stg (K t)) (L := []) (e := ocn (po (stg (K t)) W).1 + 1) ok rfl
            have n40 : ¬ K t = 40 := by unfold isOp at o; omega
            have oc1 : ocn (K t :: (po (stg (K t)) W).1) = ocn (po (stg (K t)) W).1 + 1 := by
              show (if K t = 40 then 0 else 1) + ocn _ = _
              rw [if_neg n40]; omega
            have pc1 : pcn (K t :: (po (stg (K t)) W).1) = d := by
              show (if K t = 40 then 1 else 0) + pcn _ = _
              rw [if_neg n40, pw.2.2.1]; omega
            have ok1 : okW (K t :: (po (stg (K t)) W).1) := by
              refine ⟨?_, pw.2.1⟩
              by_cases q : K t = 42 ∨ K t = 47
              · exact Or.inr (Or.inr ⟨q, pw.2.2.2.1 (by unfold stg; rw [decide_eq_true_eq]; exact q)⟩)
              · exact Or.inr (Or.inl ⟨by unfold isOp at o; omega, pw.2.2.2.2 (by unfold stg; rw [decide_eq_false_iff_not]; exact q)⟩)
            have r := em_wf hV n (t + 1) d 0 (K t :: (po (stg (K t)) W).1) (by omega) h ok1 pc1 d6 (Or.inl rfl)
            rw [oc1, Int.add_zero] at r
            exact (po_wf (k := 15) (st := stg (K t)) ok r).1
        · rw [if_neg o] at h ⊢
          by_cases d0 : 0 < d
          · rw [if_pos d0] at h
            exact absurd h (by show ¬ (1 : Int) = 0; decide)
          · have pw := po_wf (k := 15) (st := false) (L := []) (e := ocn (po false W).1 + 1) ok rfl
            have tp := pw.2.2.2.2 rfl
            have z1 : (po false W).1 = [] := by
              rcases tp with tp | ⟨X, tp⟩
              · exact tp
              · exfalso
                have c := pw.2.2.1
                rw [tp] at c
                have c2 : (if (40 : Int) = 40 then 1 else 0) + pcn X = pcn W := c
                rw [if_pos rfl] at c2
                have := (oc_0 X).2
                omega
            have a := pw.1
            rw [z1, List.append_nil] at a
            exact a
theorem EM_wf {K V : Int → Int} {t : Int} (hV : ∀ t, 0 ≤ t → t ≤ 400 → K t = 22 → 0 ≤ V t ∧ V t ≤ 9999) (ht : 0 ≤ t ∧ t ≤ 400) (h : (AU K t 0 0).1 = 0) : wf 15 0 (EM K V t 0 0 []) 1 := em_wf hV _ t 0 0 [] ht h trivial rfl (by decide) (Or.inl rfl)
/-- a higher cap; on a higher pile -/
theorem wf_mono {k k2 : Int} (hk : k ≤ k2) : ∀ {L : Rp} {h e : Int}, wf k h L e → wf k2 h L e
  | [], _, _, w => w
  | x :: L, h, e, w => by
    refine ⟨w.1, ?_⟩
    have q := w.2
    split at q
    · next c => rw [if_pos c]; exact ⟨q.1, by omega, q.2.2.1, wf_mono hk q.2.2.2⟩
    · next c => rw [if_neg c]; exact ⟨q.1, q.2.1, q.2.2.1, wf_mono hk q.2.2.2⟩
theorem wf_sh {k : Int} : ∀ {L : Rp} {h e : Int}, wf k h L e → wf (k + 1) (h + 1) L (e + 1)
  | [], h, e, w => by
    have : e = h := w
    rw [this]; rfl
  | x :: L, h, e, w => by
    refine ⟨w.1, ?_⟩
    have q := w.2
    split at q
    · next c => rw [if_pos c]; exact ⟨q.1, by omega, q.2.2.1, wf_sh q.2.2.2⟩
    · next c =>
      rw [if_neg c]
      have r := wf_sh q.2.2.2
      rw [show h - 1 + 1 = h + 1 - 1 by omega] at r
      exact ⟨q.1, q.2.1, by omega, r⟩
