/-! What the law's loop keeps -/
theorem nble_lo {a b : Nat} (h : b < a) : Nat.ble a b = false := nble_f h
theorem scr_st {i j : Nat} (h : 59 ≤ i ∧ i ≤ 278) : scr i j = false := by
  unfold scr
  have lo : ∀ n, n ≤ 59 → Nat.blt i n = false := fun n hn => by rw [mm_blt]; exact decide_eq_false (by omega)
  have hi : ∀ n, 279 ≤ n → Nat.blt i n = true := fun n hn => by rw [mm_blt]; exact decide_eq_true (by omega)
  simp only [lo 10 (by decide), lo 12 (by decide), lo 13 (by decide), lo 15 (by decide), lo 16 (by decide), lo 18 (by decide), lo 21 (by decide), lo 31 (by decide), lo 33 (by decide), lo 34 (by decide), lo 35 (by decide), lo 36 (by decide), lo 37 (by decide), lo 39 (by decide), lo 40 (by decide), lo 42 (by decide), lo 47 (by decide), lo 49 (by decide), lo 50 (by decide), lo 52 (by decide), lo 53 (by decide), lo 54 (by decide), lo 55 (by decide), lo 57 (by decide), hi 279 (by decide), hi 281 (by decide), hi 284 (by decide), hi 285 (by decide), hi 287 (by decide), hi 298 (by decide), hi 308 (by decide), hi 313 (by decide), hi 316 (by decide), hi 317 (by decide), hi 319 (by decide), hi 321 (by decide), hi 322 (by decide), hi 323 (by decide), hi 324 (by decide), hi 325 (by decide), hi 327 (by decide), hi 330 (by decide), hi 332 (by decide), hi 333 (by decide), hi 334 (by decide), hi 335 (by decide), hi 336 (by decide), hi 337 (by decide), hi 338 (by decide), hi 339 (by decide), cond_true, cond_false]
  repeat (first | rfl | (cases Nat.blt i _ <;> simp only [cond_true, cond_false]))
def KB (i : Nat) : Prop := i = 2 ∨ i = 7 ∨ i = 11 ∨ i = 13 ∨ i = 20 ∨ i = 22 ∨ i = 55 ∨ i = 58 ∨ (59 ≤ i ∧ i ≤ 278)
theorem scr_KB {i j : Nat} (h : KB i) : scr i j = false := by
  rcases h with rfl | rfl | rfl | rfl | rfl | rfl | rfl | rfl | h
  · rfl
  · rfl
  · rfl
  · rfl
  · rfl
  · rfl
  · rfl
  · rfl
  · exact scr_st h
def LIh (m : Mm) : Prop := Ty m ∧ CR m ∧ MI m
theorem CR_fr {m m2 : Mm} (h : CR m) (T : Ty m) (e : ∀ i j, KB i → rd m2 i j = rd m i j) (l : ∀ j, ld m2 4 j = ld m 4 j) : CR m2 :=
  CR_mk h T (fun i j k => e i j (by unfold KA at k; unfold KB; omega)) l (okS_fr h.2.1 (e 7 3 (by unfold KB; omega)) (fun i c q => e i c (by unfold KB; omega)))
theorem LI_G {m m2 : Mm} (h : LIh m) (g : G m m2) : LIh m2 ∧ rd m2 1 0 = rd m 1 0 ∧ rd m2 284 2 = rd m 284 2 := by
  refine ⟨⟨g.1, CR_fr h.2.1 h.1 (fun i j k => g.2.1 i j (scr_KB k)) (fun j => g.2.2 4 j), MI_fr h.2.2 g.1 (g.2.1 284 18 rfl) (fun i j q => g.2.1 i j ?_)⟩, g.2.1 1 0 rfl, g.2.1 284 2 rfl⟩
  have : i = 293 ∨ i = 294 ∨ i = 307 ∨ i = 308 ∨ i = 309 ∨ i = 310 ∨ i = 311 ∨ i = 312 ∨ i = 313 ∨ i = 314 ∨ i = 315 := by omega
  rcases this with rfl | rfl | rfl | rfl | rfl | rfl | rfl | rfl | rfl | rfl | rfl <;> rfl
theorem LI_C {m m2 : Mm} (h : LIh m) (g : CIX m m2) : LIh m2 ∧ rd m2 284 2 = rd m 284 2 :=
  ⟨⟨g.1, g.2.1, MI_fr h.2.2 g.1 (g.2.2 284 18 (by decide)).1 (fun i j q => (g.2.2 i j (by omega)).1)⟩, (g.2.2 284 2 (by decide)).1⟩
theorem CIX_rf {m : Mm} (h : LIh m) : CIX m m := ⟨h.1, h.2.1, fun _ _ _ => ⟨rfl, rfl⟩⟩
theorem LI_D {m m2 : Mm} (h : LIh m) (g : GX sMd m m2) : LIh m2 ∧ rd m2 1 0 = rd m 1 0 ∧ rd m2 284 2 = rd m 284 2 :=
  ⟨⟨g.1, CR_fr h.2.1 h.1 (fun i j k => g.2.1 i j (sMd_lo (by unfold KB at k; omega))) (fun j => g.2.2 4 j), MI_fr h.2.2 g.1 (g.2.1 284 18 rfl) (fun i j q => g.2.1 i j (sMd_no (by omega)))⟩, g.2.1 1 0 rfl, g.2.1 284 2 rfl⟩
theorem sTp_no {i j : Nat} (h : ¬ i = 285 ∧ ¬ i = 284) : sTp i j = false := by
  unfold sTp
  rw [nb_ne h.1, nb_ne h.2]
  rfl
theorem LI_T {m m2 : Mm} (h : LIh m) (g : GX sTp m m2) : LIh m2 ∧ rd m2 1 0 = rd m 1 0 :=
  ⟨⟨g.1, CR_fr h.2.1 h.1 (fun i j k => g.2.1 i j (sTp_no (by unfold KB at k; omega))) (fun j => g.2.2 4 j), MI_fr h.2.2 g.1 (g.2.1 284 18 rfl) (fun i j q => g.2.1 i j (sTp_no (by omega)))⟩, g.2.1 1 0 rfl⟩
theorem LI_B {m m2 : Mm} (h : LIh m) (g : MB m m2) (k : MI m2) : LIh m2 ∧ rd m2 1 0 = rd m 1 0 :=
  ⟨⟨g.1, CR_fr h.2.1 h.1 (fun i j q => g.2.1 i j (by unfold KB at q; omega)) (fun j => g.2.2 4 j (by decide)), k⟩, g.2.1 1 0 (by decide)⟩
theorem G_rf {m : Mm} (h : Ty m) : G m m := ⟨h, fun _ _ _ => rfl, fun _ _ => rfl⟩
theorem MB_rf {m : Mm} (h : Ty m) : MB m m := ⟨h, fun _ _ _ => rfl, fun _ _ _ => rfl⟩
theorem lw_122 {m : Mm} {x1 : Int} {x2 : Int} {x3 : Int} {x4 : Int} {x5 : Int} (L : LIh m) (r_x1 : rg x1) (r_x2 : rg x2) (r_x3 : rg x3) (r_x4 : rg x4) (r_x5 : rg x5) : CK 60 122 [.ref 0, iv x1, iv x2, iv x3, iv x4, iv x5] m (fun m2 v => LIh m2 ∧ rd m2 284 2 = rd m 284 2 ∧ ((rd m 1 0 ≤ 1980 ∧ v = rd m 1 0 + 20 ∧ rd m2 1 0 = rd m 1 0 + 20) ∨ (¬ rd m 1 0 ≤ 1980 ∧ v = -1 ∧ rd m2 1 0 = rd m 1 0))) :=
  CK.mono (ct_122 (CIX_rf L) r_x1 r_x2 r_x3 r_x4 r_x5 ) (by decide) (fun m2 v _ h => ⟨(LI_C L h.1).1, (LI_C L h.1).2, h.2⟩)
theorem lw_169 {m : Mm} {x1 : Int} {x2 : Int} {x3 : Int} {x4 : Int} {x5 : Int} (L : LIh m) (r_x1 : rg x1) (r_x2 : rg x2) (r_x3 : rg x3) (r_x4 : rg x4) (r_x5 : rg x5) : CK 60 169 [.ref 284, iv x1, iv x2, iv x3, iv x4, iv x5] m (fun m2 v => LIh m2 ∧ rd m2 1 0 = rd m 1 0 ∧ ((rd m 284 2 ≤ 1980 ∧ v = rd m 284 2 + 20 ∧ rd m2 284 2 = rd m 284 2 + 20) ∨ (¬ rd m 284 2 ≤ 1980 ∧ v = -1 ∧ rd m2 284 2 = rd m 284 2))) :=
  CK.mono (ct_169 L.1 r_x1 r_x2 r_x3 r_x4 r_x5 ) (by decide) (fun m2 v _ h => ⟨(LI_T L h.1).1, (LI_T L h.1).2, h.2⟩)
theorem lw_123 {m : Mm} {x1 : Int} (L : LIh m) (r_x1 : rg x1) : CK 60 123 [.ref 0, iv x1] m (fun m2 v => LIh m2 ∧ rd m2 284 2 = rd m 284 2 ∧ ((0 ≤ x1 ∧ x1 ≤ rd m 1 0 ∧ v = rd m 1 0 - x1 ∧ rd m2 1 0 = rd m 1 0 - x1) ∨ (¬ (0 ≤ x1 ∧ x1 ≤ rd m 1 0) ∧ v = -1 ∧ rd m2 1 0 = rd m 1 0))) :=
  CK.mono (ct_123 (CIX_rf L) r_x1 ) (by decide) (fun m2 v _ h => ⟨(LI_C L h.1).1, (LI_C L h.1).2, h.2⟩)
theorem lw_171 {m : Mm} {x1 : Int} (L : LIh m) (r_x1 : rg x1) : CK 60 171 [.ref 284, iv x1] m (fun m2 v => LIh m2 ∧ rd m2 1 0 = rd m 1 0 ∧ ((0 ≤ x1 ∧ x1 ≤ rd m 284 2 ∧ v = rd m 284 2 - x1 ∧ rd m2 284 2 = rd m 284 2 - x1) ∨ (¬ (0 ≤ x1 ∧ x1 ≤ rd m 284 2) ∧ v = -1 ∧ rd m2 284 2 = rd m 284 2))) :=
  CK.mono (ct_171 L.1 r_x1 ) (by decide) (fun m2 v _ h => ⟨(LI_T L h.1).1, (LI_T L h.1).2, h.2⟩)
theorem lw_124 {m : Mm}  (L : LIh m)  : CK 60 124 [.ref 0] m (fun m2 v => LIh m2 ∧ rd m2 284 2 = rd m 284 2 ∧ (rd m2 1 0 = 0)) :=
  CK.mono (ct_124 (CIX_rf L)  ) (by decide) (fun m2 v _ h => ⟨(LI_C L h.1).1, (LI_C L h.1).2, h.2⟩)
theorem lw_186 {m : Mm}  (L : LIh m)  : CK 60 186 [.ref 284] m (fun m2 v => LIh m2 ∧ rd m2 1 0 = rd m 1 0 ∧ rd m2 284 2 = 0) :=
  CK.mono (ct_186 (MB_rf L.1)  L.2.2) (by decide) (fun m2 v _ h => ⟨(LI_B L h.1 h.2.1).1, (LI_B L h.1 h.2.1).2, h.2.2⟩)
theorem lw_125 {m : Mm}  (L : LIh m)  : CK 60 125 [.ref 0] m (fun m2 v => LIh m2 ∧ rd m2 1 0 = rd m 1 0 ∧ rd m2 284 2 = rd m 284 2) :=
  CK.mono (ct_125 L.1  ) (by decide) (fun m2 v _ h => by rw [h.1]; exact ⟨L, rfl, rfl⟩)
theorem lw_187 {m : Mm}  (L : LIh m)  : CK 60 187 [.ref 284] m (fun m2 v => LIh m2 ∧ rd m2 1 0 = rd m 1 0 ∧ rd m2 284 2 = rd m 284 2) :=
  CK.mono (ct_187 L.1  ) (by decide) (fun m2 v _ h => by rw [h.1]; exact ⟨L, rfl, rfl⟩)
theorem lw_126 {m : Mm} {x1 : Int} {x2 : Int} (L : LIh m) (r_x1 : rg x1) (r_x2 : rg x2) : CK 60 126 [.ref 0, iv x1, iv x2] m (fun m2 v => LIh m2 ∧ rd m2 1 0 = rd m 1 0 ∧ rd m2 284 2 = rd m 284 2) :=
  CK.mono (ct_126 L.1 r_x1 r_x2 ) (by decide) (fun m2 v _ h => by rw [h.1]; exact ⟨L, rfl, rfl⟩)
theorem lw_236 {m : Mm} {x1 : Int} {x2 : Int} (L : LIh m) (r_x1 : rg x1) (r_x2 : rg x2) : CK 60 236 [.ref 284, iv x1, iv x2] m (fun m2 v => LIh m2 ∧ rd m2 1 0 = rd m 1 0 ∧ rd m2 284 2 = rd m 284 2) :=
  CK.mono (ct_236 (G_rf L.1) r_x1 r_x2 L.2.2.2.1) (by decide) (fun m2 v _ h => LI_G L h.1)
theorem lw_127 {m : Mm} {x1 : Int} {x2 : Int} (L : LIh m) (r_x1 : rg x1) (r_x2 : rg x2) : CK 60 127 [.ref 0, iv x1, iv x2] m (fun m2 v => LIh m2 ∧ rd m2 1 0 = rd m 1 0 ∧ rd m2 284 2 = rd m 284 2) :=
  CK.mono (ct_127 L.1 r_x1 r_x2 ) (by decide) (fun m2 v _ h => by rw [h.1]; exact ⟨L, rfl, rfl⟩)
theorem lw_238 {m : Mm} {x1 : Int} {x2 : Int} (L : LIh m) (r_x1 : rg x1) (r_x2 : rg x2) : CK 60 238 [.ref 284, iv x1, iv x2] m (fun m2 v => LIh m2 ∧ rd m2 1 0 = rd m 1 0 ∧ rd m2 284 2 = rd m 284 2) :=
  CK.mono (ct_238 L.1 r_x1 r_x2 ) (by decide) (fun m2 v _ h => by rw [h.1]; exact ⟨L, rfl, rfl⟩)
theorem lw_128 {m : Mm} {x1 : Int} {x2 : Int} {x3 : Int} (L : LIh m) (r_x1 : rg x1) (r_x2 : rg x2) (r_x3 : rg x3) : CK 60 128 [.ref 0, iv x1, iv x2, iv x3] m (fun m2 v => LIh m2 ∧ rd m2 1 0 = rd m 1 0 ∧ rd m2 284 2 = rd m 284 2) :=
  CK.mono (ct_128 (G_rf L.1) r_x1 r_x2 r_x3 L.2.1.2.1 L.2.1.1.1) (by decide) (fun m2 v _ h => LI_G L h.1)
theorem lw_239 {m : Mm} {x1 : Int} {x2 : Int} {x3 : Int} (L : LIh m) (r_x1 : rg x1) (r_x2 : rg x2) (r_x3 : rg x3) : CK 60 239 [.ref 284, iv x1, iv x2, iv x3] m (fun m2 v => LIh m2 ∧ rd m2 1 0 = rd m 1 0 ∧ rd m2 284 2 = rd m 284 2) :=
  CK.mono (ct_239 (G_rf L.1) r_x1 r_x2 r_x3 L.2.2.2.1 (lawsH_M L.2.2.2.2)) (by decide) (fun m2 v _ h => LI_G L h.1)
theorem lw_129 {m : Mm} {x1 : Int} {x2 : Int} (L : LIh m) (r_x1 : rg x1) (r_x2 : rg x2) : CK 60 129 [.ref 0, iv x1, iv x2] m (fun m2 v => LIh m2 ∧ rd m2 284 2 = rd m 284 2 ∧ (rd m2 1 0 = rd m 1 0)) :=
  CK.mono (ct_129 (CIX_rf L) r_x1 r_x2 ) (by decide) (fun m2 v _ h => ⟨(LI_C L h.1).1, (LI_C L h.1).2, h.2⟩)
theorem lw_241 {m : Mm} {x1 : Int} {x2 : Int} (L : LIh m) (r_x1 : rg x1) (r_x2 : rg x2) : CK 60 241 [.ref 284, iv x1, iv x2] m (fun m2 v => LIh m2 ∧ (rd m2 1 0 = rd m 1 0 ∧ rd m2 284 2 = rd m 284 2) ∧ (True)) :=
  CK.mono (ct_241 L.1 r_x1 r_x2 L.2.2.2.1 (lawsH_M L.2.2.2.2)) (by decide) (fun m2 v _ h => ⟨(LI_D L h.1).1, (LI_D L h.1).2, h.2⟩)
theorem lw_130 {m : Mm} {x1 : Int} {x2 : Int} (L : LIh m) (r_x1 : rg x1) (r_x2 : rg x2) : CK 60 130 [.ref 0, iv x1, iv x2] m (fun m2 v => LIh m2 ∧ rd m2 284 2 = rd m 284 2 ∧ (rd m2 1 0 = rd m 1 0)) :=
  CK.mono (ct_130 (CIX_rf L) r_x1 r_x2 ) (by decide) (fun m2 v _ h => ⟨(LI_C L h.1).1, (LI_C L h.1).2, h.2⟩)
theorem lw_242 {m : Mm} {x1 : Int} {x2 : Int} (L : LIh m) (r_x1 : rg x1) (r_x2 : rg x2) : CK 60 242 [.ref 284, iv x1, iv x2] m (fun m2 v => LIh m2 ∧ (rd m2 1 0 = rd m 1 0 ∧ rd m2 284 2 = rd m 284 2) ∧ (v = 0 ∨ v = 1)) :=
  CK.mono (ct_242 L.1 r_x1 r_x2 L.2.2.2.1 (lawsH_M L.2.2.2.2)) (by decide) (fun m2 v _ h => ⟨(LI_D L h.1).1, (LI_D L h.1).2, h.2⟩)
theorem lw_131 {m : Mm} {x1 : Int} (L : LIh m) (r_x1 : rg x1) : CK 60 131 [.ref 0, iv x1] m (fun m2 v => LIh m2 ∧ rd m2 284 2 = rd m 284 2 ∧ (rd m2 1 0 = rd m 1 0)) :=
  CK.mono (ct_131 (CIX_rf L) r_x1 ) (by decide) (fun m2 v _ h => ⟨(LI_C L h.1).1, (LI_C L h.1).2, h.2⟩)
theorem lw_244 {m : Mm} {x1 : Int} (L : LIh m) (r_x1 : rg x1) : CK 60 244 [.ref 284, iv x1] m (fun m2 v => LIh m2 ∧ (rd m2 1 0 = rd m 1 0 ∧ rd m2 284 2 = rd m 284 2) ∧ (True)) :=
  CK.mono (ct_244 L.1 r_x1 L.2.2.2.1 (lawsH_M L.2.2.2.2)) (by decide) (fun m2 v _ h => ⟨(LI_D L h.1).1, (LI_D L h.1).2, h.2⟩)
theorem lw_132 {m : Mm}  (L : LIh m)  : CK 60 132 [.ref 0] m (fun m2 v => LIh m2 ∧ rd m2 284 2 = rd m 284 2 ∧ (rd m2 1 0 = rd m 1 0)) :=
  CK.mono (ct_132 (CIX_rf L)  ) (by decide) (fun m2 v _ h => ⟨(LI_C L h.1).1, (LI_C L h.1).2, h.2⟩)
theorem lw_245 {m : Mm}  (L : LIh m)  : CK 60 245 [.ref 284] m (fun m2 v => LIh m2 ∧ (rd m2 1 0 = rd m 1 0 ∧ rd m2 284 2 = rd m 284 2) ∧ (True)) :=
  CK.mono (ct_245 L.1  ) (by decide) (fun m2 v _ h => ⟨(LI_D L h.1).1, (LI_D L h.1).2, h.2⟩)
theorem lw_133 {m : Mm} {x1 : Int} {x2 : Int} {x3 : Int} {x4 : Int} (L : LIh m) (r_x1 : rg x1) (r_x2 : rg x2) (r_x3 : rg x3) (r_x4 : rg x4) : CK 60 133 [.ref 0, iv x1, iv x2, iv x3, iv x4] m (fun m2 v => LIh m2 ∧ rd m2 1 0 = rd m 1 0 ∧ rd m2 284 2 = rd m 284 2) :=
  CK.mono (ct_133 (G_rf L.1) r_x1 r_x2 r_x3 r_x4 L.2.1.2.1) (by decide) (fun m2 v _ h => LI_G L h.1)
theorem lw_250 {m : Mm} {x1 : Int} {x2 : Int} {x3 : Int} {x4 : Int} (L : LIh m) (r_x1 : rg x1) (r_x2 : rg x2) (r_x3 : rg x3) (r_x4 : rg x4) : CK 60 250 [.ref 284, iv x1, iv x2, iv x3, iv x4] m (fun m2 v => LIh m2 ∧ rd m2 1 0 = rd m 1 0 ∧ rd m2 284 2 = rd m 284 2) :=
  CK.mono (ct_250 (G_rf L.1) r_x1 r_x2 r_x3 r_x4 L.2.2.2.1) (by decide) (fun m2 v _ h => LI_G L h.1)
theorem lw_134 {m : Mm} {x1 : Int} {x2 : Int} (L : LIh m) (r_x1 : rg x1) (r_x2 : rg x2) : CK 60 134 [.ref 0, iv x1, iv x2] m (fun m2 v => LIh m2 ∧ rd m2 1 0 = rd m 1 0 ∧ rd m2 284 2 = rd m 284 2) :=
  CK.mono (ct_134 (G_rf L.1) r_x1 r_x2 L.2.1.2.1 L.2.1.1.1) (by decide) (fun m2 v _ h => LI_G L h.1)
theorem lw_251 {m : Mm} {x1 : Int} {x2 : Int} (L : LIh m) (r_x1 : rg x1) (r_x2 : rg x2) : CK 60 251 [.ref 284, iv x1, iv x2] m (fun m2 v => LIh m2 ∧ rd m2 1 0 = rd m 1 0 ∧ rd m2 284 2 = rd m 284 2) :=
  CK.mono (ct_251 (G_rf L.1) r_x1 r_x2 L.2.2.2.1 (lawsH_M L.2.2.2.2)) (by decide) (fun m2 v _ h => LI_G L h.1)
theorem lw_135 {m : Mm} {x1 : Int} {x2 : Int} (L : LIh m) (r_x1 : rg x1) (r_x2 : rg x2) : CK 60 135 [.ref 0, iv x1, iv x2] m (fun m2 v => LIh m2 ∧ rd m2 1 0 = rd m 1 0 ∧ rd m2 284 2 = rd m 284 2) :=
  CK.mono (ct_135 (G_rf L.1) r_x1 r_x2 L.2.1.2.1) (by decide) (fun m2 v _ h => LI_G L h.1)
theorem lw_252 {m : Mm} {x1 : Int} {x2 : Int} (L : LIh m) (r_x1 : rg x1) (r_x2 : rg x2) : CK 60 252 [.ref 284, iv x1, iv x2] m (fun m2 v => LIh m2 ∧ rd m2 1 0 = rd m 1 0 ∧ rd m2 284 2 = rd m 284 2) :=
  CK.mono (ct_252 (G_rf L.1) r_x1 r_x2 L.2.2.2.1) (by decide) (fun m2 v _ h => LI_G L h.1)
theorem lw_136 {m : Mm} {x1 : Int} {x2 : Int} {x3 : Int} (L : LIh m) (r_x1 : rg x1) (r_x2 : rg x2) (r_x3 : rg x3) : CK 60 136 [.ref 0, iv x1, iv x2, iv x3] m (fun m2 v => LIh m2 ∧ rd m2 1 0 = rd m 1 0 ∧ rd m2 284 2 = rd m 284 2) :=
  CK.mono (ct_136 (G_rf L.1) r_x1 r_x2 r_x3 L.2.1.2.1) (by decide) (fun m2 v _ h => LI_G L h.1)
theorem lw_253 {m : Mm} {x1 : Int} {x2 : Int} {x3 : Int} (L : LIh m) (r_x1 : rg x1) (r_x2 : rg x2) (r_x3 : rg x3) : CK 60 253 [.ref 284, iv x1, iv x2, iv x3] m (fun m2 v => LIh m2 ∧ rd m2 1 0 = rd m 1 0 ∧ rd m2 284 2 = rd m 284 2) :=
  CK.mono (ct_253 (G_rf L.1) r_x1 r_x2 r_x3 L.2.2.2.1) (by decide) (fun m2 v _ h => LI_G L h.1)
theorem lw_137 {m : Mm} {x1 : Int} (L : LIh m) (r_x1 : rg x1) : CK 60 137 [.ref 0, iv x1] m (fun m2 v => LIh m2 ∧ rd m2 1 0 = rd m 1 0 ∧ rd m2 284 2 = rd m 284 2) :=
  CK.mono (ct_137 (G_rf L.1) r_x1 L.2.1.2.1) (by decide) (fun m2 v _ h => LI_G L h.1)
theorem lw_254 {m : Mm} {x1 : Int} (L : LIh m) (r_x1 : rg x1) : CK 60 254 [.ref 284, iv x1] m (fun m2 v => LIh m2 ∧ rd m2 1 0 = rd m 1 0 ∧ rd m2 284 2 = rd m 284 2) :=
  CK.mono (ct_254 (G_rf L.1) r_x1 L.2.2.2.1) (by decide) (fun m2 v _ h => LI_G L h.1)
theorem lw_138 {m : Mm} {x1 : Int} {x2 : Int} (L : LIh m) (r_x1 : rg x1) (r_x2 : rg x2) : CK 60 138 [.ref 0, iv x1, iv x2] m (fun m2 v => LIh m2 ∧ rd m2 1 0 = rd m 1 0 ∧ rd m2 284 2 = rd m 284 2) :=
  CK.mono (ct_138 (G_rf L.1) r_x1 r_x2 L.2.1.2.1) (by decide) (fun m2 v _ h => LI_G L h.1)
theorem lw_257 {m : Mm} {x1 : Int} {x2 : Int} (L : LIh m) (r_x1 : rg x1) (r_x2 : rg x2) : CK 60 257 [.ref 284, iv x1, iv x2] m (fun m2 v => LIh m2 ∧ rd m2 1 0 = rd m 1 0 ∧ rd m2 284 2 = rd m 284 2) :=
  CK.mono (ct_257 (G_rf L.1) r_x1 r_x2 L.2.2.2.1) (by decide) (fun m2 v _ h => LI_G L h.1)
theorem lw_139 {m : Mm} {x1 : Int} {x2 : Int} {x3 : Int} (L : LIh m) (r_x1 : rg x1) (r_x2 : rg x2) (r_x3 : rg x3) : CK 60 139 [.ref 0, iv x1, iv x2, iv x3] m (fun m2 v => LIh m2 ∧ rd m2 1 0 = rd m 1 0 ∧ rd m2 284 2 = rd m 284 2) :=
  CK.mono (ct_139 (G_rf L.1) r_x1 r_x2 r_x3 L.2.1.2.1) (by decide) (fun m2 v _ h => LI_G L h.1)
theorem lw_261 {m : Mm} {x1 : Int} {x2 : Int} {x3 : Int} (L : LIh m) (r_x1 : rg x1) (r_x2 : rg x2) (r_x3 : rg x3) : CK 60 261 [.ref 284, iv x1, iv x2, iv x3] m (fun m2 v => LIh m2 ∧ rd m2 1 0 = rd m 1 0 ∧ rd m2 284 2 = rd m 284 2) :=
  CK.mono (ct_261 (G_rf L.1) r_x1 r_x2 r_x3 L.2.2.2.1) (by decide) (fun m2 v _ h => LI_G L h.1)
theorem lw_140 {m : Mm} {x1 : Int} {x2 : Int} {x3 : Int} (L : LIh m) (r_x1 : rg x1) (r_x2 : rg x2) (r_x3 : rg x3) : CK 60 140 [.ref 0, iv x1, iv x2, iv x3] m (fun m2 v => LIh m2 ∧ rd m2 1 0 = rd m 1 0 ∧ rd m2 284 2 = rd m 284 2) :=
  CK.mono (ct_140 (G_rf L.1) r_x1 r_x2 r_x3 L.2.1.2.1) (by decide) (fun m2 v _ h => LI_G L h.1)
theorem lw_262 {m : Mm} {x1 : Int} {x2 : Int} {x3 : Int} (L : LIh m) (r_x1 : rg x1) (r_x2 : rg x2) (r_x3 : rg x3) : CK 60 262 [.ref 284, iv x1, iv x2, iv x3] m (fun m2 v => LIh m2 ∧ rd m2 1 0 = rd m 1 0 ∧ rd m2 284 2 = rd m 284 2) :=
  CK.mono (ct_262 (G_rf L.1) r_x1 r_x2 r_x3 L.2.2.2.1) (by decide) (fun m2 v _ h => LI_G L h.1)
theorem lw_141 {m : Mm} {x1 : Int} {x2 : Int} {x3 : Int} (L : LIh m) (r_x1 : rg x1) (r_x2 : rg x2) (r_x3 : rg x3) : CK 60 141 [.ref 0, iv x1, iv x2, iv x3] m (fun m2 v => LIh m2 ∧ rd m2 1 0 = rd m 1 0 ∧ rd m2 284 2 = rd m 284 2) :=
  CK.mono (ct_141 (G_rf L.1) r_x1 r_x2 r_x3 L.2.1.2.1) (by decide) (fun m2 v _ h => LI_G L h.1)
theorem lw_264 {m : Mm} {x1 : Int} {x2 : Int} {x3 : Int} (L : LIh m) (r_x1 : rg x1) (r_x2 : rg x2) (r_x3 : rg x3) : CK 60 264 [.ref 284, iv x1, iv x2, iv x3] m (fun m2 v => LIh m2 ∧ rd m2 1 0 = rd m 1 0 ∧ rd m2 284 2 = rd m 284 2) :=
  CK.mono (ct_264 (G_rf L.1) r_x1 r_x2 r_x3 L.2.2.2.1) (by decide) (fun m2 v _ h => LI_G L h.1)
theorem lw_142 {m : Mm} {x1 : Int} (L : LIh m) (r_x1 : rg x1) : CK 60 142 [.ref 0, iv x1] m (fun m2 v => LIh m2 ∧ rd m2 1 0 = rd m 1 0 ∧ rd m2 284 2 = rd m 284 2) :=
  CK.mono (ct_142 (G_rf L.1) r_x1 L.2.1.2.1) (by decide) (fun m2 v _ h => LI_G L h.1)
theorem lw_265 {m : Mm} {x1 : Int} (L : LIh m) (r_x1 : rg x1) : CK 60 265 [.ref 284, iv x1] m (fun m2 v => LIh m2 ∧ rd m2 1 0 = rd m 1 0 ∧ rd m2 284 2 = rd m 284 2) :=
  CK.mono (ct_265 (G_rf L.1) r_x1 L.2.2.2.1) (by decide) (fun m2 v _ h => LI_G L h.1)
theorem lw_143 {m : Mm} {x1 : Int} {x2 : Int} (L : LIh m) (r_x1 : rg x1) (r_x2 : rg x2) : CK 60 143 [.ref 0, iv x1, iv x2] m (fun m2 v => LIh m2 ∧ rd m2 1 0 = rd m 1 0 ∧ rd m2 284 2 = rd m 284 2) :=
  CK.mono (ct_143 (G_rf L.1) r_x1 r_x2 L.2.1.2.1) (by decide) (fun m2 v _ h => LI_G L h.1)
theorem lw_267 {m : Mm} {x1 : Int} {x2 : Int} (L : LIh m) (r_x1 : rg x1) (r_x2 : rg x2) : CK 60 267 [.ref 284, iv x1, iv x2] m (fun m2 v => LIh m2 ∧ rd m2 1 0 = rd m 1 0 ∧ rd m2 284 2 = rd m 284 2) :=
  CK.mono (ct_267 (G_rf L.1) r_x1 r_x2 L.2.2.2.1) (by decide) (fun m2 v _ h => LI_G L h.1)
theorem lw_144 {m : Mm} {x1 : Int} {x2 : Int} (L : LIh m) (r_x1 : rg x1) (r_x2 : rg x2) : CK 60 144 [.ref 0, iv x1, iv x2] m (fun m2 v => LIh m2 ∧ rd m2 1 0 = rd m 1 0 ∧ rd m2 284 2 = rd m 284 2) :=
  CK.mono (ct_144 (G_rf L.1) r_x1 r_x2 L.2.1.2.1) (by decide) (fun m2 v _ h => LI_G L h.1)
theorem lw_270 {m : Mm} {x1 : Int} {x2 : Int} (L : LIh m) (r_x1 : rg x1) (r_x2 : rg x2) : CK 60 270 [.ref 284, iv x1, iv x2] m (fun m2 v => LIh m2 ∧ rd m2 1 0 = rd m 1 0 ∧ rd m2 284 2 = rd m 284 2) :=
  CK.mono (ct_270 (G_rf L.1) r_x1 r_x2 ) (by decide) (fun m2 v _ h => LI_G L h.1)
theorem lw_145 {m : Mm} {x1 : Int} (L : LIh m) (r_x1 : rg x1) : CK 60 145 [.ref 0, iv x1] m (fun m2 v => LIh m2 ∧ rd m2 1 0 = rd m 1 0 ∧ rd m2 284 2 = rd m 284 2) :=
  CK.mono (ct_145 (G_rf L.1) r_x1 L.2.1.2.1) (by decide) (fun m2 v _ h => LI_G L h.1)
theorem lw_271 {m : Mm} {x1 : Int} (L : LIh m) (r_x1 : rg x1) : CK 60 271 [.ref 284, iv x1] m (fun m2 v => LIh m2 ∧ rd m2 1 0 = rd m 1 0 ∧ rd m2 284 2 = rd m 284 2) :=
  CK.mono (ct_271 (G_rf L.1) r_x1 ) (by decide) (fun m2 v _ h => LI_G L h.1)
theorem lw_146 {m : Mm} {x1 : Int} (L : LIh m) (r_x1 : rg x1) : CK 60 146 [.ref 0, iv x1] m (fun m2 v => LIh m2 ∧ rd m2 1 0 = rd m 1 0 ∧ rd m2 284 2 = rd m 284 2) :=
  CK.mono (ct_146 (G_rf L.1) r_x1 L.2.1.2.1) (by decide) (fun m2 v _ h => LI_G L h.1)
theorem lw_272 {m : Mm} {x1 : Int} (L : LIh m) (r_x1 : rg x1) : CK 60 272 [.ref 284, iv x1] m (fun m2 v => LIh m2 ∧ rd m2 1 0 = rd m 1 0 ∧ rd m2 284 2 = rd m 284 2) :=
  CK.mono (ct_272 (G_rf L.1) r_x1 ) (by decide) (fun m2 v _ h => LI_G L h.1)
theorem lw_147 {m : Mm} {x1 : Int} {x2 : Int} {x3 : Int} (L : LIh m) (r_x1 : rg x1) (r_x2 : rg x2) (r_x3 : rg x3) : CK 60 147 [.ref 0, iv x1, iv x2, iv x3] m (fun m2 v => LIh m2 ∧ rd m2 1 0 = rd m 1 0 ∧ rd m2 284 2 = rd m 284 2) :=
  CK.mono (ct_147 (G_rf L.1) r_x1 r_x2 r_x3 L.2.1.2.1 L.2.1.1.1) (by decide) (fun m2 v _ h => LI_G L h.1)
theorem lw_273 {m : Mm} {x1 : Int} {x2 : Int} {x3 : Int} (L : LIh m) (r_x1 : rg x1) (r_x2 : rg x2) (r_x3 : rg x3) : CK 60 273 [.ref 284, iv x1, iv x2, iv x3] m (fun m2 v => LIh m2 ∧ rd m2 1 0 = rd m 1 0 ∧ rd m2 284 2 = rd m 284 2) :=
  CK.mono (ct_273 (G_rf L.1) r_x1 r_x2 r_x3 L.2.2.2.1 (lawsH_M L.2.2.2.2)) (by decide) (fun m2 v _ h => LI_G L h.1)
theorem lw_148 {m : Mm} {x1 : Int} {x2 : Int} (L : LIh m) (r_x1 : rg x1) (r_x2 : rg x2) : CK 60 148 [.ref 0, iv x1, iv x2] m (fun m2 v => LIh m2 ∧ rd m2 1 0 = rd m 1 0 ∧ rd m2 284 2 = rd m 284 2) :=
  CK.mono (ct_148 (G_rf L.1) r_x1 r_x2 L.2.1.2.1 L.2.1.1.1) (by decide) (fun m2 v _ h => LI_G L h.1)
theorem lw_274 {m : Mm} {x1 : Int} {x2 : Int} (L : LIh m) (r_x1 : rg x1) (r_x2 : rg x2) : CK 60 274 [.ref 284, iv x1, iv x2] m (fun m2 v => LIh m2 ∧ rd m2 1 0 = rd m 1 0 ∧ rd m2 284 2 = rd m 284 2) :=
  CK.mono (ct_274 (G_rf L.1) r_x1 r_x2 L.2.2.2.1 (lawsH_M L.2.2.2.2)) (by decide) (fun m2 v _ h => LI_G L h.1)
theorem lw_149 {m : Mm} {x1 : Int} (L : LIh m) (r_x1 : rg x1) : CK 60 149 [.ref 0, iv x1] m (fun m2 v => LIh m2 ∧ rd m2 1 0 = rd m 1 0 ∧ rd m2 284 2 = rd m 284 2) :=
  CK.mono (ct_149 (G_rf L.1) r_x1 L.2.1.2.1 L.2.1.1.1) (by decide) (fun m2 v _ h => LI_G L h.1)
theorem lw_275 {m : Mm} {x1 : Int} (L : LIh m) (r_x1 : rg x1) : CK 60 275 [.ref 284, iv x1] m (fun m2 v => LIh m2 ∧ rd m2 1 0 = rd m 1 0 ∧ rd m2 284 2 = rd m 284 2) :=
  CK.mono (ct_275 (G_rf L.1) r_x1 L.2.2.2.1 (lawsH_M L.2.2.2.2)) (by decide) (fun m2 v _ h => LI_G L h.1)
theorem lw_150 {m : Mm} {x1 : Int} {x2 : Int} {x3 : Int} {x4 : Int} (L : LIh m) (r_x1 : rg x1) (r_x2 : rg x2) (r_x3 : rg x3) (r_x4 : rg x4) : CK 60 150 [.ref 0, iv x1, iv x2, iv x3, iv x4] m (fun m2 v => LIh m2 ∧ rd m2 1 0 = rd m 1 0 ∧ rd m2 284 2 = rd m 284 2) :=
  CK.mono (ct_150 (G_rf L.1) r_x1 r_x2 r_x3 r_x4 L.2.1.2.1 L.2.1.1.1 L.2.1.2.1) (by decide) (fun m2 v _ h => LI_G L h.1)
theorem lw_276 {m : Mm} {x1 : Int} {x2 : Int} {x3 : Int} {x4 : Int} (L : LIh m) (r_x1 : rg x1) (r_x2 : rg x2) (r_x3 : rg x3) (r_x4 : rg x4) : CK 60 276 [.ref 284, iv x1, iv x2, iv x3, iv x4] m (fun m2 v => LIh m2 ∧ rd m2 1 0 = rd m 1 0 ∧ rd m2 284 2 = rd m 284 2) :=
  CK.mono (ct_276 (G_rf L.1) r_x1 r_x2 r_x3 r_x4 L.2.2.2.1 (lawsH_M L.2.2.2.2)) (by decide) (fun m2 v _ h => LI_G L h.1)
theorem lw_151 {m : Mm} {x1 : Int} {x2 : Int} {x3 : Int} (L : LIh m) (r_x1 : rg x1) (r_x2 : rg x2) (r_x3 : rg x3) : CK 60 151 [.ref 0, iv x1, iv x2, iv x3] m (fun m2 v => LIh m2 ∧ rd m2 284 2 = rd m 284 2 ∧ (rd m2 1 0 = rd m 1 0)) :=
  CK.mono (ct_151 (CIX_rf L) r_x1 r_x2 r_x3 ) (by decide) (fun m2 v _ h => ⟨(LI_C L h.1).1, (LI_C L h.1).2, h.2⟩)
theorem lw_277 {m : Mm} {x1 : Int} {x2 : Int} {x3 : Int} (L : LIh m) (r_x1 : rg x1) (r_x2 : rg x2) (r_x3 : rg x3) : CK 60 277 [.ref 284, iv x1, iv x2, iv x3] m (fun m2 v => LIh m2 ∧ (rd m2 1 0 = rd m 1 0 ∧ rd m2 284 2 = rd m 284 2) ∧ (True)) :=
  CK.mono (ct_277 L.1 r_x1 r_x2 r_x3 ) (by decide) (fun m2 v _ h => ⟨(LI_D L h.1).1, (LI_D L h.1).2, h.2⟩)
theorem lw_152 {m : Mm}  (L : LIh m)  : CK 60 152 [.ref 0] m (fun m2 v => LIh m2 ∧ rd m2 284 2 = rd m 284 2 ∧ (rd m2 1 0 = rd m 1 0)) :=
  CK.mono (ct_152 (CIX_rf L)  ) (by decide) (fun m2 v _ h => ⟨(LI_C L h.1).1, (LI_C L h.1).2, h.2⟩)
theorem lw_278 {m : Mm}  (L : LIh m)  : CK 60 278 [.ref 284] m (fun m2 v => LIh m2 ∧ (rd m2 1 0 = rd m 1 0 ∧ rd m2 284 2 = rd m 284 2) ∧ (True)) :=
  CK.mono (ct_278 L.1  ) (by decide) (fun m2 v _ h => ⟨(LI_D L h.1).1, (LI_D L h.1).2, h.2⟩)
theorem lw_153 {m : Mm} {x1 : Int} {x2 : Int} {x3 : Int} {x4 : Int} (L : LIh m) (r_x1 : rg x1) (r_x2 : rg x2) (r_x3 : rg x3) (r_x4 : rg x4) : CK 60 153 [.ref 0, iv x1, iv x2, iv x3, iv x4] m (fun m2 v => LIh m2 ∧ rd m2 1 0 = rd m 1 0 ∧ rd m2 284 2 = rd m 284 2) :=
  CK.mono (ct_153 (G_rf L.1) r_x1 r_x2 r_x3 r_x4 L.2.1.2.1) (by decide) (fun m2 v _ h => LI_G L h.1)
theorem lw_282 {m : Mm} {x1 : Int} {x2 : Int} {x3 : Int} {x4 : Int} (L : LIh m) (r_x1 : rg x1) (r_x2 : rg x2) (r_x3 : rg x3) (r_x4 : rg x4) : CK 60 282 [.ref 284, iv x1, iv x2, iv x3, iv x4] m (fun m2 v => LIh m2 ∧ rd m2 1 0 = rd m 1 0 ∧ rd m2 284 2 = rd m 284 2) :=
  CK.mono (ct_282 (G_rf L.1) r_x1 r_x2 r_x3 r_x4 L.2.2.2.1) (by decide) (fun m2 v _ h => LI_G L h.1)
theorem lw_154 {m : Mm} {x1 : Int} {x2 : Int} {x3 : Int} (L : LIh m) (r_x1 : rg x1) (r_x2 : rg x2) (r_x3 : rg x3) : CK 60 154 [.ref 0, iv x1, iv x2, iv x3] m (fun m2 v => LIh m2 ∧ rd m2 1 0 = rd m 1 0 ∧ rd m2 284 2 = rd m 284 2) :=
  CK.mono (ct_154 (G_rf L.1) r_x1 r_x2 r_x3 L.2.1.2.1) (by decide) (fun m2 v _ h => LI_G L h.1)
theorem lw_283 {m : Mm} {x1 : Int} {x2 : Int} {x3 : Int} (L : LIh m) (r_x1 : rg x1) (r_x2 : rg x2) (r_x3 : rg x3) : CK 60 283 [.ref 284, iv x1, iv x2, iv x3] m (fun m2 v => LIh m2 ∧ rd m2 1 0 = rd m 1 0 ∧ rd m2 284 2 = rd m 284 2) :=
  CK.mono (ct_283 (G_rf L.1) r_x1 r_x2 r_x3 L.2.2.2.1) (by decide) (fun m2 v _ h => LI_G L h.1)
theorem lw_155 {m : Mm} {x1 : Int} (L : LIh m) (r_x1 : rg x1) : CK 60 155 [.ref 0, iv x1] m (fun m2 v => LIh m2 ∧ rd m2 284 2 = rd m 284 2 ∧ (rd m2 1 0 = rd m 1 0 ∧ ((v = 1 ∧ 0 ≤ x1 ∧ x1 ≤ 2) ∨ (v = 0 ∧ (x1 < 0 ∨ 2 < x1))))) :=
  CK.mono (ct_155 (CIX_rf L) r_x1 ) (by decide) (fun m2 v _ h => ⟨(LI_C L h.1).1, (LI_C L h.1).2, h.2⟩)
theorem lw_284 {m : Mm} {x1 : Int} (L : LIh m) (r_x1 : rg x1) : CK 60 284 [.ref 284, iv x1] m (fun m2 v => LIh m2 ∧ (rd m2 1 0 = rd m 1 0 ∧ rd m2 284 2 = rd m 284 2) ∧ ((v = 1 ∧ 0 ≤ x1 ∧ x1 ≤ 2) ∨ (v = 0 ∧ (x1 < 0 ∨ 2 < x1)))) :=
  CK.mono (ct_284 L.1 r_x1 ) (by decide) (fun m2 v _ h => ⟨(LI_D L h.1).1, (LI_D L h.1).2, h.2⟩)
theorem lw_156 {m : Mm} {x1 : Int} (L : LIh m) (r_x1 : rg x1) : CK 60 156 [.ref 0, iv x1] m (fun m2 v => LIh m2 ∧ rd m2 284 2 = rd m 284 2 ∧ (rd m2 1 0 = rd m 1 0)) :=
  CK.mono (ct_156 (CIX_rf L) r_x1 ) (by decide) (fun m2 v _ h => ⟨(LI_C L h.1).1, (LI_C L h.1).2, h.2⟩)
theorem lw_285 {m : Mm} {x1 : Int} (L : LIh m) (r_x1 : rg x1) : CK 60 285 [.ref 284, iv x1] m (fun m2 v => LIh m2 ∧ (rd m2 1 0 = rd m 1 0 ∧ rd m2 284 2 = rd m 284 2) ∧ (v = 0 ∨ v = 1)) :=
  CK.mono (ct_285 L.1 r_x1 ) (by decide) (fun m2 v _ h => ⟨(LI_D L h.1).1, (LI_D L h.1).2, h.2⟩)
theorem lw_157 {m : Mm} {x1 : Int} (L : LIh m) (r_x1 : rg x1) : CK 60 157 [.ref 0, iv x1] m (fun m2 v => LIh m2 ∧ rd m2 1 0 = rd m 1 0 ∧ rd m2 284 2 = rd m 284 2) :=
  CK.mono (ct_157 L.1 r_x1 L.2.1.2.1) (by decide) (fun m2 v _ h => by rw [h.1]; exact ⟨L, rfl, rfl⟩)
theorem lw_287 {m : Mm} {x1 : Int} (L : LIh m) (r_x1 : rg x1) : CK 60 287 [.ref 284, iv x1] m (fun m2 v => LIh m2 ∧ rd m2 1 0 = rd m 1 0 ∧ rd m2 284 2 = rd m 284 2) :=
  CK.mono (ct_287 (G_rf L.1) r_x1 L.2.2.2.1) (by decide) (fun m2 v _ h => LI_G L h.1)
