set_option maxRecDepth 20000 in
theorem c_lookFrom {a : Nat} (ha : a ∈ stL) (c f w ov un : Int32) (A : mA) (F : mF) (L : mL) (sw : Bool) (oa : stOk A a) (l12 : (A 12).length = 9) (l16 : (A 16).length = 25) (l17 : (A 17).length = 25) (l18 : (A 18).length = 100) (c0 : 0 ≤ c.toInt) (c1 : c.toInt < 3) (f0 : 0 ≤ f.toInt) (f1 : f.toInt < 25) (w0 : 0 ≤ w.toInt) (w1 : w.toInt < 4) (hn : ∀ x, (A 18)[(f.toInt * 4 + w.toInt).toNat]? = some x → x = -1 ∨ (0 ≤ x.toInt ∧ x.toInt < 25)) : mm_K 2 3 [.ref 30, .ref a, .int c, .int f, .int w, .int ov, .int un] (mh A F L sw) (fun h2 v => v = none ∧ ∃ x cx sx ly sy mk tp : Int32, (A 18)[(f.toInt * 4 + w.toInt).toNat]? = some x ∧ (A 16)[f.toInt.toNat]? = some cx ∧ ([1, 0, -1, 0] : List Int32)[w.toInt.toNat]? = some sx ∧ (A 17)[f.toInt.toNat]? = some ly ∧ ([0, 1, 0, -1] : List Int32)[w.toInt.toNat]? = some sy ∧ ((x = -1 ∧ mk = 0) ∨ (x ≠ -1 ∧ (A (a + 1))[x.toInt.toNat]? = some mk)) ∧ (A (a + 4))[c.toInt.toNat]? = some tp ∧ h2 = mh (uA A 12 [cx + sx, ly + sy, mk, ov, un, tp, F a 5, c, w]) F L sw) := by
  obtain ⟨o1, o2, o3, o4⟩ := oa
  have hlt := st_lt ha
  have hge : 59 ≤ a := (by decide +kernel : ∀ a ∈ stL, 59 ≤ a) a ha
  obtain ⟨y0, y1, y2, y3, y4, y5, y6, y7, y8, hA12⟩ := l9 l12
  refine K_of rfl ?_
  show mm_W 1 mc_3 0 [some (.ref 30), some (.ref a), some (.int c), some (.int f), some (.int w), some (.int ov), some (.int un), none, none] [] (mh A F L sw) _
  refine w_st (fun _ => rfl) ?_
  refine g_30_0 rfl ?_
  refine w_st (fun _ => rfl) ?_
  refine w_st (fun _ => rfl) ?_
  refine w_ivV (as := [_, _]) rfl mg_3 rfl rfl (hp_get (by decide)) rfl ?_
  refine (c_nextFlag f w l18 f0 f1 w0 w1).mono (Nat.le_refl _) ?_
  rintro _ _ ⟨rfl, x, hx, rfl⟩
  refine w_st (fun _ => rfl) ?_
  refine w_st (fun _ => rfl) ?_
  refine g_30_0 rfl ?_
  refine g_7_8 rfl ?_
  refine g_11_0 rfl ?_
  refine w_st (fun _ => rfl) ?_
  refine w_st (fun _ => rfl) ?_
  refine w_st (fun _ => rfl) ?_
  refine w_st (fun _ => rfl) ?_
  refine g_30_0 rfl ?_
  refine g_7_9 rfl ?_
  refine w_st (fun _ => rfl) ?_
  refine la isI_16 rfl f0 (by omega) (fun cx hcx => ?_)
  refine w_st (fun _ => rfl) ?_
  refine w_st (fun _ => rfl) ?_
  refine l_sta 2 (xs := [1, 0, -1, 0]) rfl rfl w0 w1 (fun sx hsx => ?_)
  refine w_i2 rfl ?_
  refine ta isI_12 rfl (by decide) (by rw [hA12]; exact (by decide : ((0 : Int32).toInt < ((9 : Nat) : Int)))) ?_
  rw [hA12]
  rw [show [y0, y1, y2, y3, y4, y5, y6, y7, y8].set (0 : Int32).toInt.toNat (cx + sx) = [(cx + sx), y1, y2, y3, y4, y5, y6, y7, y8] from rfl]
  refine w_st (fun _ => rfl) ?_
  refine w_st (fun _ => rfl) ?_
  refine w_st (fun _ => rfl) ?_
  refine g_30_0 rfl ?_
  refine g_7_10 rfl ?_
  refine w_st (fun _ => rfl) ?_
  refine la isI_17 rfl f0 (by rw [uA_12 (by decide)]; omega) (fun ly hly => ?_)
  rw [uA_12 (by decide)] at hly
  refine w_st (fun _ => rfl) ?_
  refine w_st (fun _ => rfl) ?_
  refine l_sta 3 (xs := [0, 1, 0, -1]) rfl rfl w0 w1 (fun sy hsy => ?_)
  refine w_i2 rfl ?_
  refine ta isI_12 rfl (by decide) (by rw [uA_eq]; exact (by decide : ((1 : Int32).toInt < ((9 : Nat) : Int)))) ?_
  rw [uA_uA, uA_eq]
  rw [show [(cx + sx), y1, y2, y3, y4, y5, y6, y7, y8].set (1 : Int32).toInt.toNat (ly + sy) = [(cx + sx), (ly + sy), y2, y3, y4, y5, y6, y7, y8] from rfl]
  refine w_st (fun _ => rfl) ?_
  refine w_st (fun _ => rfl) ?_
  have tail : ∀ mk : Int32, ((x = -1 ∧ mk = 0) ∨ (x ≠ -1 ∧ (A (a + 1))[x.toInt.toNat]? = some mk)) → mm_W 1 mc_3 84 [some (.ref 30), some (.ref a), some (.int c), some (.int f), some (.int w), some (.int ov), some (.int un), some (.int x), some (.ref 12)] [.int mk, .int 2, .ref 12] (mh (uA A 12 [(cx + sx), (ly + sy), y2, y3, y4, y5, y6, y7, y8]) F L sw) (fun h2 v => (∃ (A2 : mA) (F2 : mF) (L2 : mL) (s2 : Bool), h2 = mh A2 F2 L2 s2) ∧ v = none ∧ ∃ x cx sx ly sy mk tp : Int32, (A 18)[(f.toInt * 4 + w.toInt).toNat]? = some x ∧ (A 16)[f.toInt.toNat]? = some cx ∧ ([1, 0, -1, 0] : List Int32)[w.toInt.toNat]? = some sx ∧ (A 17)[f.toInt.toNat]? = some ly ∧ ([0, 1, 0, -1] : List Int32)[w.toInt.toNat]? = some sy ∧ ((x = -1 ∧ mk = 0) ∨ (x ≠ -1 ∧ (A (a + 1))[x.toInt.toNat]? = some mk)) ∧ (A (a + 4))[c.toInt.toNat]? = some tp ∧ h2 = mh (uA A 12 [cx + sx, ly + sy, mk, ov, un, tp, F a 5, c, w]) F L sw) := by
    intro mk hmk
    refine ta isI_12 rfl (by decide) (by rw [uA_eq]; exact (by decide : ((2 : Int32).toInt < ((9 : Nat) : Int)))) ?_
    rw [uA_uA, uA_eq]
    rw [show [(cx + sx), (ly + sy), y2, y3, y4, y5, y6, y7, y8].set (2 : Int32).toInt.toNat mk = [(cx + sx), (ly + sy), mk, y3, y4, y5, y6, y7, y8] from rfl]
    refine w_st (fun _ => rfl) ?_
    refine w_st (fun _ => rfl) ?_
    refine w_st (fun _ => rfl) ?_
    refine ta isI_12 rfl (by decide) (by rw [uA_eq]; exact (by decide : ((3 : Int32).toInt < ((9 : Nat) : Int)))) ?_
    rw [uA_uA, uA_eq]
    rw [show [(cx + sx), (ly + sy), mk, y3, y4, y5, y6, y7, y8].set (3 : Int32).toInt.toNat ov = [(cx + sx), (ly + sy), mk, ov, y4, y5, y6, y7, y8] from rfl]
    refine w_st (fun _ => rfl) ?_
    refine w_st (fun _ => rfl) ?_
    refine w_st (fun _ => rfl) ?_
    refine ta isI_12 rfl (by decide) (by rw [uA_eq]; exact (by decide : ((4 : Int32).toInt < ((9 : Nat) : Int)))) ?_
    rw [uA_uA, uA_eq]
    rw [show [(cx + sx), (ly + sy), mk, ov, y4, y5, y6, y7, y8].set (4 : Int32).toInt.toNat un = [(cx + sx), (ly + sy), mk, ov, un, y5, y6, y7, y8] from rfl]
    refine w_st (fun _ => rfl) ?_
    refine w_st (fun _ => rfl) ?_
    refine w_st (fun _ => rfl) ?_
    refine gs_3 ha rfl ?_
    refine w_st (fun _ => rfl) ?_
    refine la (st_I4 ha) rfl c0 (by rw [uA_12 (by omega)]; omega) (fun tp htp => ?_)
    rw [uA_12 (by omega)] at htp
    refine ta isI_12 rfl (by decide) (by rw [uA_eq]; exact (by decide : ((5 : Int32).toInt < ((9 : Nat) : Int)))) ?_
    rw [uA_uA, uA_eq]
    rw [show [(cx + sx), (ly + sy), mk, ov, un, y5, y6, y7, y8].set (5 : Int32).toInt.toNat tp = [(cx + sx), (ly + sy), mk, ov, un, tp, y6, y7, y8] from rfl]
    refine w_st (fun _ => rfl) ?_
    refine w_st (fun _ => rfl) ?_
    refine w_st (fun _ => rfl) ?_
    refine gs_5 ha rfl ?_
    refine ta isI_12 rfl (by decide) (by rw [uA_eq]; exact (by decide : ((6 : Int32).toInt < ((9 : Nat) : Int)))) ?_
    rw [uA_uA, uA_eq]
    rw [show [(cx + sx), (ly + sy), mk, ov, un, tp, y6, y7, y8].set (6 : Int32).toInt.toNat (F a 5) = [(cx + sx), (ly + sy), mk, ov, un, tp, (F a 5), y7, y8] from rfl]
    refine w_st (fun _ => rfl) ?_
    refine w_st (fun _ => rfl) ?_
    refine w_st (fun _ => rfl) ?_
    refine ta isI_12 rfl (by decide) (by rw [uA_eq]; exact (by decide : ((7 : Int32).toInt < ((9 : Nat) : Int)))) ?_
    rw [uA_uA, uA_eq]
    rw [show [(cx + sx), (ly + sy), mk, ov, un, tp, (F a 5), y7, y8].set (7 : Int32).toInt.toNat c = [(cx + sx), (ly + sy), mk, ov, un, tp, (F a 5), c, y8] from rfl]
    refine w_st (fun _ => rfl) ?_
    refine w_st (fun _ => rfl) ?_
    refine w_st (fun _ => rfl) ?_
    refine ta isI_12 rfl (by decide) (by rw [uA_eq]; exact (by decide : ((8 : Int32).toInt < ((9 : Nat) : Int)))) ?_
    rw [uA_uA, uA_eq]
    rw [show [(cx + sx), (ly + sy), mk, ov, un, tp, (F a 5), c, y8].set (8 : Int32).toInt.toNat w = [(cx + sx), (ly + sy), mk, ov, un, tp, (F a 5), c, w] from rfl]
    exact w_rt (fun _ => rfl) ⟨⟨_, _, _, _, rfl⟩, rfl, x, cx, sx, ly, sy, mk, tp, hx, hcx, hsx, hly, hsy, hmk, htp, rfl⟩
  refine w_st (fun _ => rfl) ?_
  refine w_st (fun _ => rfl) ?_
  by_cases q : x = -1
  · refine w_icF rfl (decide_eq_false (fun k => k q)) ?_
    refine w_st (fun _ => rfl) ?_
    refine w_st (fun _ => rfl) ?_
    exact tail 0 (Or.inl ⟨q, rfl⟩)
  · have hb := (hn x hx).resolve_left q
    refine w_icT rfl (decide_eq_true q) ?_
    refine w_st (fun _ => rfl) ?_
    refine gs_0 ha rfl ?_
    refine w_st (fun _ => rfl) ?_
    refine la (st_I1 ha) rfl hb.1 (by rw [uA_12 (by omega)]; omega) (fun mk hmk => ?_)
    rw [uA_12 (by omega)] at hmk
    exact tail mk (Or.inr ⟨q, hmk⟩)
