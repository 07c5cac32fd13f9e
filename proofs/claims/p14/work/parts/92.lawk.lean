/-! What the law's loop keeps -/
theorem nble_lo {a b : Nat} (h : b < a) : Nat.ble a b = false := nble_f h
theorem scr_st {i j : Nat} (h : 59 ≤ i ∧ i ≤ 278) : scr i j = false := by
  unfold scr
  have lo : ∀ n, n ≤ 59 → Nat.blt i n = false := fun n hn => by rw [mm_blt]; exact decide_eq_false (by omega)
  have hi : ∀ n, 279 ≤ n → Nat.blt i n = true := fun n hn => by rw [mm_blt]; exact decide_eq_true (by omega)
  simp only [lo 10 (by decide), lo 12 (by decide), lo 13 (by decide), lo 15 (by decide), lo 16 (by decide), lo 18 (by decide), lo 21 (by decide), lo 31 (by decide), lo 33 (by decide), lo 34 (by decide), lo 35 (by decide), lo 36 (by decide), lo 37 (by decide), lo 39 (by decide), lo 40 (by decide), lo 42 (by decide), lo 47 (by decide), lo 49 (by decide), lo 50 (by decide), lo 52 (by decide), lo 53 (by decide), lo 54 (by decide), lo 55 (by decide), lo 57 (by decide), hi 279 (by decide), hi 281 (by decide), hi 284 (by decide), hi 285 (by decide), hi 287 (by decide), hi 298 (by decide), hi 308 (by decide), hi 313 (by decide), hi 316 (by decide), hi 317 (by decide), hi 319 (by decide), hi 321 (by decide), hi 322 (by decide), hi 323 (by decide), hi 324 (by decide), hi 325 (by decide), hi 327 (by decide), hi 330 (by decide), hi 332 (by decide), hi 333 (by decide), hi 334 (by decide), hi 335 (by decide), hi 336 (by decide), hi 337 (by decide), hi 338 (by decide), hi 339 (by decide), cond_true, cond_false]
  repeat (first | rfl | (cases Nat.blt i _ <;> simp only [cond_true, cond_false]))
def KB (i : Nat) : Prop := i = 2 ∨ i = 7 ∨ i = 11 ∨ i = 13 ∨ i = 20 ∨ i = 22 ∨ i = 55 ∨ i = 58 ∨ (59 ≤ i ∧ i ≤ 278)
theorem scr_KB {i j : Nat} (h : KB i) : scr i j = false := by
  rcases h with rfl | rfl | rfl | rfl | rfl | rfl | rfl | rfl | h
  · rfl
  · rfl
  · rfl
  · rfl
  · rfl
  · rfl
  · rfl
  · rfl
  · exact scr_st h
def LIh (m : Mm) : Prop := Ty m ∧ CR m ∧ MI m
theorem CR_fr {m m2 : Mm} (h : CR m) (T : Ty m) (e : ∀ i j, KB i → rd m2 i j = rd m i j) (l : ∀ j, ld m2 4 j = ld m 4 j) : CR m2 :=
  CR_mk h T (fun i j k => e i j (by unfold KA at k; unfold KB; omega)) l (okS_fr h.2.1 (e 7 3 (by unfold KB; omega)) (fun i c q => e i c (by unfold KB; omega)))
theorem LI_G {m m2 : Mm} (h : LIh m) (g : G m m2) : LIh m2 ∧ rd m2 1 0 = rd m 1 0 ∧ rd m2 284 2 = rd m 284 2 := by
  refine ⟨⟨g.1, CR_fr h.2.1 h.1 (fun i j k => g.2.1 i j (scr_KB k)) (fun j => g.2.2 4 j), MI_fr h.2.2 g.1 (g.2.1 284 18 rfl) (fun i j q => g.2.1 i j ?_)⟩, g.2.1 1 0 rfl, g.2.1 284 2 rfl⟩
  have : i = 293 ∨ i = 294 ∨ i = 307 ∨ i = 308 ∨ i = 309 ∨ i = 310 ∨ i = 311 ∨ i = 312 ∨ i = 313 ∨ i = 314 ∨ i = 315 := by omega
  rcases this with rfl | rfl | rfl | rfl | rfl | rfl | rfl | rfl | rfl | rfl | rfl <;> rfl
theorem LI_C {m m2 : Mm} (h : LIh m) (g : CIX m m2) : LIh m2 ∧ rd m2 284 2 = rd m 284 2 :=
  ⟨⟨g.1, g.2.1, MI_fr h.2.2 g.1 (g.2.2 284 18 (by decide)).1 (fun i j q => (g.2.2 i j (by omega)).1)⟩, (g.2.2 284 2 (by decide)).1⟩
theorem CIX_rf {m : Mm} (h : LIh m) : CIX m m := ⟨h.1, h.2.1, fun _ _ _ => ⟨rfl, rfl⟩⟩
theorem LI_D {m m2 : Mm} (h : LIh m) (g : GX sMd m m2) : LIh m2 ∧ rd m2 1 0 = rd m 1 0 ∧ rd m2 284 2 = rd m 284 2 :=
  ⟨⟨g.1, CR_fr h.2.1 h.1 (fun i j k => g.2.1 i j (sMd_lo (by unfold KB at k; omega))) (fun j => g.2.2 4 j), MI_fr h.2.2 g.1 (g.2.1 284 18 rfl) (fun i j q => g.2.1 i j (sMd_no (by omega)))⟩, g.2.1 1 0 rfl, g.2.1 284 2 rfl⟩
theorem sTp_no {i j : Nat} (h : ¬ i = 285 ∧ ¬ i = 284) : sTp i j = false := by
  unfold sTp
  rw [nb_ne h.1, nb_ne h.2]
  rfl
theorem LI_T {m m2 : Mm} (h : LIh m) (g : GX sTp m m2) : LIh m2 ∧ rd m2 1 0 = rd m 1 0 :=
  ⟨⟨g.1, CR_fr h.2.1 h.1 (fun i j k => g.2.1 i j (sTp_no (by unfold KB at k; omega))) (fun j => g.2.2 4 j), MI_fr h.2.2 g.1 (g.2.1 284 18 rfl) (fun i j q => g.2.1 i j (sTp_no (by omega)))⟩, g.2.1 1 0 rfl⟩
theorem LI_B {m m2 : Mm} (h : LIh m) (g : MB m m2) (k : MI m2) : LIh m2 ∧ rd m2 1 0 = rd m 1 0 :=
  ⟨⟨g.1, CR_fr h.2.1 h.1 (fun i j q => g.2.1 i j (by unfold KB at q; omega)) (fun j => g.2.2 4 j (by decide)), k⟩, g.2.1 1 0 (by decide)⟩
theorem G_rf {m : Mm} (h : Ty m) : G m m := ⟨h, fun _ _ _ => rfl, fun _ _ => rfl⟩
theorem MB_rf {m : Mm} (h : Ty m) : MB m m := ⟨h, fun _ _ _ => rfl, fun _ _ _ => rfl⟩
/-- what class and model have alike; here: it stays -/
def kM (m m2 : Mm) : Prop := rd m2 284 2 = rd m 284 2 ∧ (∀ j, rd m2 285 j = rd m 285 j) ∧ rd m2 284 17 = rd m 284 17 ∧ rd m2 284 72 = rd m 284 72 ∧ (∀ j, rd m2 339 j = rd m 339 j) ∧ ∀ j, ld m2 291 j = ld m 291 j
def KK (m m2 : Mm) : Prop := kp m m2 ∧ kM m m2
theorem KK_r (m : Mm) : KK m m := ⟨kp_r m, rfl, fun _ => rfl, rfl, rfl, fun _ => rfl, fun _ => rfl⟩
theorem KK_G {m m2 : Mm} (g : G m m2) : KK m m2 := ⟨⟨fun j => g.2.1 5 j rfl, g.2.1 19 0 rfl, fun j => g.2.2 6 j, g.2.1 1 0 rfl, g.2.1 49 0 rfl, fun j => g.2.1 58 j rfl⟩, g.2.1 284 2 rfl, fun j => g.2.1 285 j rfl, g.2.1 284 17 rfl, g.2.1 284 72 rfl, fun j => g.2.1 339 j rfl, fun j => g.2.2 291 j⟩
theorem kM_C {m m2 : Mm} (g : CIX m m2) : kM m m2 := ⟨(g.2.2 284 2 (by decide)).1, fun j => (g.2.2 285 j (by decide)).1, (g.2.2 284 17 (by decide)).1, (g.2.2 284 72 (by decide)).1, fun j => (g.2.2 339 j (by decide)).1, fun j => (g.2.2 291 j (by decide)).2⟩
theorem kp_D {m m2 : Mm} (g : GX sMd m m2) : kp m m2 := kp_gx g (fun j => rfl) (fun j => rfl) rfl rfl rfl
theorem kM_D {m m2 : Mm} (g : GX sMd m m2) (k : mk m m2) : kM m m2 := ⟨g.2.1 284 2 rfl, fun j => g.2.1 285 j rfl, g.2.1 284 17 rfl, k.1, k.2, fun j => g.2.2 291 j⟩
/-- the same of the tape's own -/
def kT (m m2 : Mm) : Prop := rd m2 284 17 = rd m 284 17 ∧ rd m2 284 72 = rd m 284 72 ∧ (∀ j, rd m2 339 j = rd m 339 j) ∧ ∀ j, ld m2 291 j = ld m 291 j
def kU (m m2 : Mm) : Prop := rd m2 284 2 = rd m 284 2 ∧ (∀ j, rd m2 285 j = rd m 285 j) ∧ rd m2 284 17 = rd m 284 17 ∧ ∀ j, ld m2 291 j = ld m 291 j
def kO (m m2 : Mm) : Prop := rd m2 19 0 = rd m 19 0 ∧ (∀ j, ld m2 6 j = ld m 6 j) ∧ rd m2 49 0 = rd m 49 0 ∧ ∀ j, rd m2 58 j = rd m 58 j
theorem kT_T {m m2 : Mm} (g : GX sTp m m2) : kT m m2 := ⟨g.2.1 284 17 rfl, g.2.1 284 72 rfl, fun j => g.2.1 339 j rfl, fun j => g.2.2 291 j⟩
theorem kp_T {m m2 : Mm} (g : GX sTp m m2) : kp m m2 := kp_gx g (fun j => rfl) (fun j => rfl) rfl rfl rfl
theorem kU_D {m m2 : Mm} (g : GX sMd m m2) : kU m m2 := ⟨g.2.1 284 2 rfl, fun j => g.2.1 285 j rfl, g.2.1 284 17 rfl, fun j => g.2.2 291 j⟩
theorem kO_P {m m2 : Mm} (g : GX sPu m m2) : kO m m2 := ⟨g.2.1 19 0 rfl, fun j => g.2.2 6 j, g.2.1 49 0 rfl, fun j => g.2.1 58 j rfl⟩
theorem kp_B {m m2 : Mm} (g : MB m m2) : kp m m2 := ⟨fun j => g.2.1 5 j (by decide), g.2.1 19 0 (by decide), fun j => g.2.2 6 j (by decide), g.2.1 1 0 (by decide), g.2.1 49 0 (by decide), fun j => g.2.1 58 j (by decide)⟩
/-! what the calls leave of class and model -/
theorem cA_G {m m2 : Mm} {A : Ab} (h : cA m A) (g : G m m2) : cA m2 A := cA_fr h (fun i j q => g.2.1 i j (by
  rcases q with rfl | rfl | rfl | rfl | ⟨q1, q2⟩ | rfl | rfl | q
  · rfl
  · rfl
  · rfl
  · rfl
  · have : i = 16 ∨ i = 17 ∨ i = 18 := by omega
    rcases this with rfl | rfl | rfl <;> rfl
  · rfl
  · rfl
  · exact scr_st q))
theorem mA_G {m m2 : Mm} {A : Ab} (h : mA m A) (l : 0 ≤ rd m 284 18 ∧ rd m 284 18 ≤ 1) (g : G m m2) : mA m2 A := mA_fr h l (fun i j q => g.2.1 i j (by
  rcases q with q | rfl | rfl | rfl | rfl | ⟨rfl, rfl⟩
  · rcases q with rfl | rfl | rfl | rfl | ⟨q1, q2⟩ | rfl | rfl | ⟨rfl, rfl | rfl⟩
    · rfl
    · rfl
    · rfl
    · rfl
    · have : i = 307 ∨ i = 308 ∨ i = 309 ∨ i = 310 ∨ i = 311 ∨ i = 312 ∨ i = 313 ∨ i = 314 ∨ i = 315 := by omega
      rcases this with rfl | rfl | rfl | rfl | rfl | rfl | rfl | rfl | rfl <;> rfl
    · rfl
    · rfl
    · rfl
    · rfl
  · rfl
  · rfl
  · rfl
  · rfl
  · rfl))
theorem mA_hi {m m2 : Mm} {A : Ab} (h : mA m A) (l : 0 ≤ rd m 284 18 ∧ rd m 284 18 ≤ 1) (f : ∀ i j : Nat, 284 ≤ i → rd m2 i j = rd m i j) : mA m2 A := mA_fr h l (fun i j q => f i j (by unfold plR at q; omega))
theorem cA_lo {m m2 : Mm} {A : Ab} (h : cA m A) (f : ∀ i j : Nat, i < 284 → rd m2 i j = rd m i j) : cA m2 A := cA_fr h (fun i j q => f i j (by unfold cAr at q; omega))
theorem mA_T {m m2 : Mm} {A : Ab} (h : mA m A) (l : 0 ≤ rd m 284 18 ∧ rd m 284 18 ≤ 1) (g : GX sTp m m2) : mA m2 A := mA_fr h l (fun i j q => g.2.1 i j (by
  have h1 : ¬ i = 285 := by unfold plR at q; omega
  have h2 : ¬ (i = 284 ∧ j = 2) := by unfold plR at q; omega
  unfold sTp
  rw [nb_ne h1]
  by_cases e : i = 284
  · rw [nb_ne (fun w => h2 ⟨e, w⟩ : ¬ j = 2), Bool.and_false]; rfl
  · rw [nb_ne e]; rfl))
theorem cA_T {m m2 : Mm} {A : Ab} (h : cA m A) (g : GX sTp m m2) : cA m2 A := cA_lo h (fun i j q => g.2.1 i j (sTp_no (by omega)))
theorem cA_P {m m2 : Mm} {A : Ab} (h : cA m A) (g : GX sPu m m2) : cA m2 A := cA_fr h (fun i j q => g.2.1 i j (by
  unfold sPu
  rw [nb_ne (by unfold cAr at q; omega : ¬ i = 5), nb_ne (by unfold cAr at q; omega : ¬ i = 1)]
  rfl))

def okZS (A : Ab) : Prop := okZ A ∧ okX A
theorem zs_no {A : Ab} {r : Ro} (h : okZS A) (n40 : A.n ≤ 40) (hz : zQ A.Y r) (hs : zS A.Y r) : okZS (noA A r) := ⟨okZ_no h.1 n40 hz, okX_no h.2 n40 hs⟩
theorem zs_n2 {A : Ab} {r : Ro} (h : okZS A) (n40 : A.n ≤ 40) (t : ozS A.Y r) : okZS (noA A r) := zs_no h n40 t.1.2 t.2
theorem zs_un {A : Ab} (h : okZS A) (n0 : ¬ A.n = 0) : okZS (unB A) := ⟨okZ_un h.1 n0, okX_un h.2 n0⟩
theorem zs_ho {A : Ab} {s : Nat} (h : okZS A) : okZS (hoA A s) := ⟨okZ_ho h.1, okX_ho h.2⟩
theorem zs_re {A : Ab} {s : Nat} (h : okZS A) (hs : s < 3) (z : ¬ A.K s = 0) : okZS (reA A s) := ⟨okZ_re h.1 hs z, okX_re h.2 hs z⟩
theorem zs_bg {s : Ps} {E : Lw} (h : zQ (bgY s) (bgR s)) (k : zS (bgY s) (bgR s)) : okZS (bgA s E) := ⟨okZ_bg h, okX_bg k⟩
def SA (m : Mm) (A : Ab) : Prop := cA m A ∧ mA m A ∧ okZS A
noncomputable def FA0 : Nat → Int := fun j => rd m00 32 j
noncomputable def TA0 : Nat → Int := fun j => rd m00 33 j
def tbB (m : Mm) : Prop := tbR m 32 33 FA0 TA0 ∧ tbR m 319 320 FA0 TA0
theorem ff0 : FA0 0 = 0 ∧ FA0 1 = 1 ∧ FA0 2 = 2 ∧ FA0 3 = 3 ∧ FA0 4 = 4 ∧ FA0 5 = 5 := by unfold FA0; decide +kernel
theorem ti0 : tI TA0 := by
  have h : ∀ l : Nat, l < 24 → ∀ k : Nat, k < 4 → TA0 (Int.toNat (4 * TA0 (4 * l + k) + ((k + 2) % 4 : Nat))) = (l : Int) := by unfold TA0; decide +kernel
  exact fun l k a b => h l a k b
theorem tb_fr {m m2 : Mm} (h : tbB m) (a : ∀ j, rd m2 32 j = rd m 32 j) (b : ∀ j, rd m2 33 j = rd m 33 j) (c : ∀ j, rd m2 319 j = rd m 319 j) (d : ∀ j, rd m2 320 j = rd m 320 j) : tbB m2 := ⟨⟨fun j hj => (a j).trans (h.1.1 j hj), fun j hj => (b j).trans (h.1.2 j hj)⟩, fun j hj => (c j).trans (h.2.1 j hj), fun j hj => (d j).trans (h.2.2 j hj)⟩
theorem tb_G {m m2 : Mm} (h : tbB m) (g : G m m2) : tbB m2 := tb_fr h (fun j => g.2.1 32 j rfl) (fun j => g.2.1 33 j rfl) (fun j => g.2.1 319 j rfl) (fun j => g.2.1 320 j rfl)
theorem tb_C {m m2 : Mm} (h : tbB m) (g : CIX m m2) (k : tkC m m2) : tbB m2 := tb_fr h k.1 k.2 (fun j => (g.2.2 319 j (by decide)).1) (fun j => (g.2.2 320 j (by decide)).1)
theorem tb_P {m m2 : Mm} (h : tbB m) (g : GX sPu m m2) : tbB m2 := tb_fr h (fun j => g.2.1 32 j rfl) (fun j => g.2.1 33 j rfl) (fun j => g.2.1 319 j rfl) (fun j => g.2.1 320 j rfl)
theorem tb_D {m m2 : Mm} (h : tbB m) (g : GX sMd m m2) : tbB m2 := tb_fr h (fun j => g.2.1 32 j rfl) (fun j => g.2.1 33 j rfl) (fun j => g.2.1 319 j rfl) (fun j => g.2.1 320 j rfl)
theorem tb_T {m m2 : Mm} (h : tbB m) (g : GX sTp m m2) : tbB m2 := tb_fr h (fun j => g.2.1 32 j rfl) (fun j => g.2.1 33 j rfl) (fun j => g.2.1 319 j rfl) (fun j => g.2.1 320 j rfl)
theorem tb_B {m m2 : Mm} (h : tbB m) (g : MB m m2) (k : tbk m m2) : tbB m2 := tb_fr h (fun j => g.2.1 32 j (by decide)) (fun j => g.2.1 33 j (by decide)) (fun j => k 319 j (Or.inl rfl)) (fun j => k 320 j (Or.inr rfl))
def oA (A : Ab) : Prop := okY A.Y ∧ okR A.Y A.r ∧ A.n ≤ 40 ∧ zR A.Y A.r ∧ dsR A.Y A.r ∧ zS A.Y A.r
theorem oA_of {m : Mm} {A : Ab} (S : SA m A) : oA A := ⟨S.1.2.1, S.1.2.2.1.1, S.1.2.2.2.1.2, S.2.2.1.1.1, S.2.2.1.1.2, S.2.2.2.1⟩
theorem lw_126 {m : Mm} {A : Ab} {x1 : Int} {x2 : Int}  (L : LIh m) (S : SA m A) (tb : tbB m)  (r_x1 : rg x1) (r_x2 : rg x2) : CK 60 126 [.ref 0, iv x1, iv x2] m (fun m2 v => LIh m2 ∧ ((KK m m2) ∧ tbB m2) ∧ mA m2 A ∧ cA m2 A ∧ flgP A x1 x2 v) :=
  CK.mono (ey_126 L.1 r_x1 r_x2 ) (by decide) (fun m2 v _ h => ⟨by rw [h.1]; exact L, ⟨by rw [h.1]; exact KK_r m, by rw [h.1]; exact tb⟩, by rw [h.1]; exact S.2.1, ⟨by rw [h.1]; exact S.1, (h.2.2 A S.1)⟩⟩)
theorem lw_236 {m : Mm} {A : Ab} {x1 : Int} {x2 : Int}  (L : LIh m) (M : mA m A) (O : oA A) (tb : tbB m)  (r_x1 : rg x1) (r_x2 : rg x2) : CK 60 236 [.ref 284, iv x1, iv x2] m (fun m2 v => LIh m2 ∧ ((KK m m2) ∧ tbB m2) ∧ (∀ B, cA m B → cA m2 B) ∧ mA m2 A ∧ flgP A x1 x2 v) :=
  CK.mono (mz_236 (G_rf L.1) r_x1 r_x2 L.2.2.2.1) (by decide) (fun m2 v _ h => ⟨(LI_G L h.1).1, ⟨KK_G h.1, tb_G tb h.1⟩, fun B b => cA_G b h.1, ⟨mA_G M (ty_284_18 L.1) h.1, (h.2.2 A O.1 O.2.1 O.2.2.1 M).1⟩⟩)
theorem lw_127 {m : Mm} {A : Ab} {x1 : Int} {x2 : Int}  (L : LIh m) (S : SA m A) (tb : tbB m)  (r_x1 : rg x1) (r_x2 : rg x2) : CK 60 127 [.ref 0, iv x1, iv x2] m (fun m2 v => LIh m2 ∧ ((KK m m2) ∧ tbB m2) ∧ mA m2 A ∧ cA m2 A ∧ v = crqA A x1 x2) :=
  CK.mono (ey_127 L.1 r_x1 r_x2 ) (by decide) (fun m2 v _ h => ⟨by rw [h.1]; exact L, ⟨by rw [h.1]; exact KK_r m, by rw [h.1]; exact tb⟩, by rw [h.1]; exact S.2.1, ⟨by rw [h.1]; exact S.1, (h.2.2 A S.1)⟩⟩)
theorem lw_238 {m : Mm} {A : Ab} {x1 : Int} {x2 : Int}  (L : LIh m) (M : mA m A) (O : oA A) (tb : tbB m)  (r_x1 : rg x1) (r_x2 : rg x2) : CK 60 238 [.ref 284, iv x1, iv x2] m (fun m2 v => LIh m2 ∧ ((KK m m2) ∧ tbB m2) ∧ (∀ B, cA m B → cA m2 B) ∧ mA m2 A ∧ v = crqA A x1 x2) :=
  CK.mono (mz_238 L.1 r_x1 r_x2 ) (by decide) (fun m2 v _ h => ⟨by rw [h.1]; exact L, ⟨by rw [h.1]; exact KK_r m, by rw [h.1]; exact tb⟩, fun B b => by rw [h.1]; exact b, ⟨by rw [h.1]; exact M, (h.2.2 A O.1 O.2.1 O.2.2.1 M)⟩⟩)
theorem lw_128 {m : Mm} {A : Ab} {x1 : Int} {x2 : Int} {x3 : Int}  (L : LIh m) (S : SA m A) (tb : tbB m)  (r_x1 : rg x1) (r_x2 : rg x2) (r_x3 : rg x3) : CK 60 128 [.ref 0, iv x1, iv x2, iv x3] m (fun m2 v => LIh m2 ∧ ((KK m m2) ∧ tbB m2) ∧ mA m2 A ∧ cA m2 A ∧ telP A x1 x2 x3 v) :=
  CK.mono (ey_128 (G_rf L.1) r_x1 r_x2 r_x3 L.2.1.2.1 L.2.1.1.1 ⟨_, S.1.1.2.2⟩) (by decide) (fun m2 v _ h => ⟨(LI_G L h.1).1, ⟨KK_G h.1, tb_G tb h.1⟩, mA_G S.2.1 (ty_284_18 L.1) h.1, ⟨cA_G S.1 h.1, (h.2.2 A S.1).1⟩⟩)
theorem lw_239 {m : Mm} {A : Ab} {x1 : Int} {x2 : Int} {x3 : Int}  (L : LIh m) (M : mA m A) (O : oA A) (tb : tbB m)  (r_x1 : rg x1) (r_x2 : rg x2) (r_x3 : rg x3) : CK 60 239 [.ref 284, iv x1, iv x2, iv x3] m (fun m2 v => LIh m2 ∧ ((KK m m2) ∧ tbB m2) ∧ (∀ B, cA m B → cA m2 B) ∧ mA m2 A ∧ telP A x1 x2 x3 v) :=
  CK.mono (mz_239 (G_rf L.1) r_x1 r_x2 r_x3 L.2.2.2.1 (lawsH_M L.2.2.2.2)) (by decide) (fun m2 v _ h => ⟨(LI_G L h.1).1, ⟨KK_G h.1, tb_G tb h.1⟩, fun B b => cA_G b h.1, ⟨mA_G M (ty_284_18 L.1) h.1, (h.2.2 A O.1 O.2.1 O.2.2.1 M).1⟩⟩)
theorem lw_133 {m : Mm} {A : Ab} {x1 : Int} {x2 : Int} {x3 : Int} {x4 : Int}  (L : LIh m) (S : SA m A) (tb : tbB m)  (r_x1 : rg x1) (r_x2 : rg x2) (r_x3 : rg x3) (r_x4 : rg x4) : CK 60 133 [.ref 0, iv x1, iv x2, iv x3, iv x4] m (fun m2 v => LIh m2 ∧ ((KK m m2) ∧ tbB m2) ∧ mA m2 A ∧ cA m2 A ∧ True) :=
  CK.mono (ct_133 (G_rf L.1) r_x1 r_x2 r_x3 r_x4 L.2.1.2.1) (by decide) (fun m2 v _ h => ⟨(LI_G L h.1).1, ⟨KK_G h.1, tb_G tb h.1⟩, mA_G S.2.1 (ty_284_18 L.1) h.1, ⟨cA_G S.1 h.1, trivial⟩⟩)
theorem lw_250 {m : Mm} {A : Ab} {x1 : Int} {x2 : Int} {x3 : Int} {x4 : Int}  (L : LIh m) (M : mA m A) (O : oA A) (tb : tbB m)  (r_x1 : rg x1) (r_x2 : rg x2) (r_x3 : rg x3) (r_x4 : rg x4) : CK 60 250 [.ref 284, iv x1, iv x2, iv x3, iv x4] m (fun m2 v => LIh m2 ∧ ((KK m m2) ∧ tbB m2) ∧ (∀ B, cA m B → cA m2 B) ∧ mA m2 A ∧ True) :=
  CK.mono (ct_250 (G_rf L.1) r_x1 r_x2 r_x3 r_x4 L.2.2.2.1) (by decide) (fun m2 v _ h => ⟨(LI_G L h.1).1, ⟨KK_G h.1, tb_G tb h.1⟩, fun B b => cA_G b h.1, ⟨mA_G M (ty_284_18 L.1) h.1, trivial⟩⟩)
theorem lw_134 {m : Mm} {A : Ab} {x1 : Int} {x2 : Int}  (L : LIh m) (S : SA m A) (tb : tbB m)  (r_x1 : rg x1) (r_x2 : rg x2) : CK 60 134 [.ref 0, iv x1, iv x2] m (fun m2 v => LIh m2 ∧ ((KK m m2) ∧ tbB m2) ∧ mA m2 A ∧ cA m2 A ∧ cheA A TA0 FA0 x1 x2 v) :=
  CK.mono (fy_134 (G_rf L.1) r_x1 r_x2 L.2.1.2.1 L.2.1.1.1 ⟨_, S.1.1.2.2⟩) (by decide) (fun m2 v _ h => ⟨(LI_G L h.1).1, ⟨KK_G h.1, tb_G tb h.1⟩, mA_G S.2.1 (ty_284_18 L.1) h.1, ⟨cA_G S.1 h.1, (h.2.2 A TA0 FA0 S.1 S.2.2.1.1.2 tb.1)⟩⟩)
theorem lw_251 {m : Mm} {A : Ab} {x1 : Int} {x2 : Int}  (L : LIh m) (M : mA m A) (O : oA A) (tb : tbB m)  (r_x1 : rg x1) (r_x2 : rg x2) : CK 60 251 [.ref 284, iv x1, iv x2] m (fun m2 v => LIh m2 ∧ ((KK m m2) ∧ tbB m2) ∧ (∀ B, cA m B → cA m2 B) ∧ mA m2 A ∧ cheA A TA0 FA0 x1 x2 v) :=
  CK.mono (my_251 (G_rf L.1) r_x1 r_x2 L.2.2.2.1 (lawsH_M L.2.2.2.2)) (by decide) (fun m2 v _ h => ⟨(LI_G L h.1).1, ⟨KK_G h.1, tb_G tb h.1⟩, fun B b => cA_G b h.1, ⟨mA_G M (ty_284_18 L.1) h.1, (h.2.2 A TA0 FA0 O.1 O.2.1 M tb.2).1⟩⟩)
theorem lw_135 {m : Mm} {A : Ab} {x1 : Int} {x2 : Int}  (L : LIh m) (S : SA m A) (tb : tbB m)  (r_x1 : rg x1) (r_x2 : rg x2) : CK 60 135 [.ref 0, iv x1, iv x2] m (fun m2 v => LIh m2 ∧ ((KK m m2) ∧ tbB m2) ∧ mA m2 A ∧ cA m2 A ∧ v = nevA A TA0 FA0 x1 x2) :=
  CK.mono (fy_135 (G_rf L.1) r_x1 r_x2 L.2.1.2.1) (by decide) (fun m2 v _ h => ⟨(LI_G L h.1).1, ⟨KK_G h.1, tb_G tb h.1⟩, mA_G S.2.1 (ty_284_18 L.1) h.1, ⟨cA_G S.1 h.1, (h.2.2 A TA0 FA0 S.1 S.2.2.1.1.2 tb.1)⟩⟩)
theorem lw_252 {m : Mm} {A : Ab} {x1 : Int} {x2 : Int}  (L : LIh m) (M : mA m A) (O : oA A) (tb : tbB m)  (r_x1 : rg x1) (r_x2 : rg x2) : CK 60 252 [.ref 284, iv x1, iv x2] m (fun m2 v => LIh m2 ∧ ((KK m m2) ∧ tbB m2) ∧ (∀ B, cA m B → cA m2 B) ∧ mA m2 A ∧ v = nevA A TA0 FA0 x1 x2) :=
  CK.mono (my_252 (G_rf L.1) r_x1 r_x2 L.2.2.2.1) (by decide) (fun m2 v _ h => ⟨(LI_G L h.1).1, ⟨KK_G h.1, tb_G tb h.1⟩, fun B b => cA_G b h.1, ⟨mA_G M (ty_284_18 L.1) h.1, (h.2.2 A TA0 FA0 O.1 O.2.1 M tb.2).1⟩⟩)
theorem lw_136 {m : Mm} {A : Ab} {x1 : Int} {x2 : Int} {x3 : Int}  (L : LIh m) (S : SA m A) (tb : tbB m)  (r_x1 : rg x1) (r_x2 : rg x2) (r_x3 : rg x3) : CK 60 136 [.ref 0, iv x1, iv x2, iv x3] m (fun m2 v => LIh m2 ∧ ((KK m m2) ∧ tbB m2) ∧ mA m2 A ∧ cA m2 A ∧ neaA A TA0 FA0 x1 x2 x3 v) :=
  CK.mono (fy_136 (G_rf L.1) r_x1 r_x2 r_x3 L.2.1.2.1) (by decide) (fun m2 v _ h => ⟨(LI_G L h.1).1, ⟨KK_G h.1, tb_G tb h.1⟩, mA_G S.2.1 (ty_284_18 L.1) h.1, ⟨cA_G S.1 h.1, (h.2.2 A TA0 FA0 S.1 S.2.2.1.1.2 tb.1)⟩⟩)
theorem lw_253 {m : Mm} {A : Ab} {x1 : Int} {x2 : Int} {x3 : Int}  (L : LIh m) (M : mA m A) (O : oA A) (tb : tbB m)  (r_x1 : rg x1) (r_x2 : rg x2) (r_x3 : rg x3) : CK 60 253 [.ref 284, iv x1, iv x2, iv x3] m (fun m2 v => LIh m2 ∧ ((KK m m2) ∧ tbB m2) ∧ (∀ B, cA m B → cA m2 B) ∧ mA m2 A ∧ neaA A TA0 FA0 x1 x2 x3 v) :=
  CK.mono (my_253 (G_rf L.1) r_x1 r_x2 r_x3 L.2.2.2.1) (by decide) (fun m2 v _ h => ⟨(LI_G L h.1).1, ⟨KK_G h.1, tb_G tb h.1⟩, fun B b => cA_G b h.1, ⟨mA_G M (ty_284_18 L.1) h.1, (h.2.2 A TA0 FA0 O.1 O.2.1 M tb.2).1⟩⟩)
theorem lw_137 {m : Mm} {A : Ab} {x1 : Int}  (L : LIh m) (S : SA m A) (tb : tbB m)  (r_x1 : rg x1) : CK 60 137 [.ref 0, iv x1] m (fun m2 v => LIh m2 ∧ ((KK m m2) ∧ tbB m2) ∧ mA m2 A ∧ cA m2 A ∧ v = spoA A TA0 x1) :=
  CK.mono (fy_137 (G_rf L.1) r_x1 L.2.1.2.1) (by decide) (fun m2 v _ h => ⟨(LI_G L h.1).1, ⟨KK_G h.1, tb_G tb h.1⟩, mA_G S.2.1 (ty_284_18 L.1) h.1, ⟨cA_G S.1 h.1, (h.2.2 A TA0 FA0 S.1 S.2.2.1.1.2 tb.1)⟩⟩)
theorem lw_254 {m : Mm} {A : Ab} {x1 : Int}  (L : LIh m) (M : mA m A) (O : oA A) (tb : tbB m)  (r_x1 : rg x1) : CK 60 254 [.ref 284, iv x1] m (fun m2 v => LIh m2 ∧ ((KK m m2) ∧ tbB m2) ∧ (∀ B, cA m B → cA m2 B) ∧ mA m2 A ∧ v = spoA A TA0 x1) :=
  CK.mono (my_254 (G_rf L.1) r_x1 L.2.2.2.1) (by decide) (fun m2 v _ h => ⟨(LI_G L h.1).1, ⟨KK_G h.1, tb_G tb h.1⟩, fun B b => cA_G b h.1, ⟨mA_G M (ty_284_18 L.1) h.1, (h.2.2 A TA0 FA0 O.1 O.2.1 M tb.2).1⟩⟩)
theorem lw_138 {m : Mm} {A : Ab} {x1 : Int} {x2 : Int}  (L : LIh m) (S : SA m A) (tb : tbB m)  (r_x1 : rg x1) (r_x2 : rg x2) : CK 60 138 [.ref 0, iv x1, iv x2] m (fun m2 v => LIh m2 ∧ ((KK m m2) ∧ tbB m2) ∧ mA m2 A ∧ cA m2 A ∧ rouA A TA0 x1 x2 v) :=
  CK.mono (fy_138 (G_rf L.1) r_x1 r_x2 L.2.1.2.1) (by decide) (fun m2 v _ h => ⟨(LI_G L h.1).1, ⟨KK_G h.1, tb_G tb h.1⟩, mA_G S.2.1 (ty_284_18 L.1) h.1, ⟨cA_G S.1 h.1, (h.2.2 A TA0 FA0 S.1 S.2.2.1.1.2 tb.1)⟩⟩)
theorem lw_257 {m : Mm} {A : Ab} {x1 : Int} {x2 : Int}  (L : LIh m) (M : mA m A) (O : oA A) (tb : tbB m)  (r_x1 : rg x1) (r_x2 : rg x2) : CK 60 257 [.ref 284, iv x1, iv x2] m (fun m2 v => LIh m2 ∧ ((KK m m2) ∧ tbB m2) ∧ (∀ B, cA m B → cA m2 B) ∧ mA m2 A ∧ rouA A TA0 x1 x2 v) :=
  CK.mono (my_257 (G_rf L.1) r_x1 r_x2 L.2.2.2.1) (by decide) (fun m2 v _ h => ⟨(LI_G L h.1).1, ⟨KK_G h.1, tb_G tb h.1⟩, fun B b => cA_G b h.1, ⟨mA_G M (ty_284_18 L.1) h.1, (h.2.2 A TA0 FA0 O.1 O.2.1 O.2.2.2.2.1 O.2.2.2.2.2 ti0 M tb.2).1⟩⟩)
theorem lw_139 {m : Mm} {A : Ab} {x1 : Int} {x2 : Int} {x3 : Int}  (L : LIh m) (S : SA m A) (tb : tbB m)  (r_x1 : rg x1) (r_x2 : rg x2) (r_x3 : rg x3) : CK 60 139 [.ref 0, iv x1, iv x2, iv x3] m (fun m2 v => LIh m2 ∧ ((KK m m2) ∧ tbB m2) ∧ mA m2 A ∧ cA m2 A ∧ True) :=
  CK.mono (ct_139 (G_rf L.1) r_x1 r_x2 r_x3 L.2.1.2.1) (by decide) (fun m2 v _ h => ⟨(LI_G L h.1).1, ⟨KK_G h.1, tb_G tb h.1⟩, mA_G S.2.1 (ty_284_18 L.1) h.1, ⟨cA_G S.1 h.1, trivial⟩⟩)
theorem lw_261 {m : Mm} {A : Ab} {x1 : Int} {x2 : Int} {x3 : Int}  (L : LIh m) (M : mA m A) (O : oA A) (tb : tbB m)  (r_x1 : rg x1) (r_x2 : rg x2) (r_x3 : rg x3) : CK 60 261 [.ref 284, iv x1, iv x2, iv x3] m (fun m2 v => LIh m2 ∧ ((KK m m2) ∧ tbB m2) ∧ (∀ B, cA m B → cA m2 B) ∧ mA m2 A ∧ True) :=
  CK.mono (ct_261 (G_rf L.1) r_x1 r_x2 r_x3 L.2.2.2.1) (by decide) (fun m2 v _ h => ⟨(LI_G L h.1).1, ⟨KK_G h.1, tb_G tb h.1⟩, fun B b => cA_G b h.1, ⟨mA_G M (ty_284_18 L.1) h.1, trivial⟩⟩)
theorem lw_140 {m : Mm} {A : Ab} {x1 : Int} {x2 : Int} {x3 : Int}  (L : LIh m) (S : SA m A) (tb : tbB m)  (r_x1 : rg x1) (r_x2 : rg x2) (r_x3 : rg x3) : CK 60 140 [.ref 0, iv x1, iv x2, iv x3] m (fun m2 v => LIh m2 ∧ ((KK m m2) ∧ tbB m2) ∧ mA m2 A ∧ cA m2 A ∧ v = speA A TA0 FA0 x1 x2 x3) :=
  CK.mono (fy_140 (G_rf L.1) r_x1 r_x2 r_x3 L.2.1.2.1) (by decide) (fun m2 v _ h => ⟨(LI_G L h.1).1, ⟨KK_G h.1, tb_G tb h.1⟩, mA_G S.2.1 (ty_284_18 L.1) h.1, ⟨cA_G S.1 h.1, (h.2.2 A TA0 FA0 S.1 S.2.2.1.1.2 tb.1)⟩⟩)
theorem lw_262 {m : Mm} {A : Ab} {x1 : Int} {x2 : Int} {x3 : Int}  (L : LIh m) (M : mA m A) (O : oA A) (tb : tbB m)  (r_x1 : rg x1) (r_x2 : rg x2) (r_x3 : rg x3) : CK 60 262 [.ref 284, iv x1, iv x2, iv x3] m (fun m2 v => LIh m2 ∧ ((KK m m2) ∧ tbB m2) ∧ (∀ B, cA m B → cA m2 B) ∧ mA m2 A ∧ v = speA A TA0 FA0 x1 x2 x3) :=
  CK.mono (my_262 (G_rf L.1) r_x1 r_x2 r_x3 L.2.2.2.1) (by decide) (fun m2 v _ h => ⟨(LI_G L h.1).1, ⟨KK_G h.1, tb_G tb h.1⟩, fun B b => cA_G b h.1, ⟨mA_G M (ty_284_18 L.1) h.1, (h.2.2 A TA0 FA0 O.1 O.2.1 M tb.2).1⟩⟩)
theorem lw_141 {m : Mm} {A : Ab} {x1 : Int} {x2 : Int} {x3 : Int}  (L : LIh m) (S : SA m A) (tb : tbB m)  (r_x1 : rg x1) (r_x2 : rg x2) (r_x3 : rg x3) : CK 60 141 [.ref 0, iv x1, iv x2, iv x3] m (fun m2 v => LIh m2 ∧ ((KK m m2) ∧ tbB m2) ∧ mA m2 A ∧ cA m2 A ∧ gamA A TA0 FA0 x1 x2 x3 v) :=
  CK.mono (fy_141 (G_rf L.1) r_x1 r_x2 r_x3 L.2.1.2.1) (by decide) (fun m2 v _ h => ⟨(LI_G L h.1).1, ⟨KK_G h.1, tb_G tb h.1⟩, mA_G S.2.1 (ty_284_18 L.1) h.1, ⟨cA_G S.1 h.1, (h.2.2 A TA0 FA0 S.1 S.2.2.1.1.2 tb.1)⟩⟩)
theorem lw_264 {m : Mm} {A : Ab} {x1 : Int} {x2 : Int} {x3 : Int}  (L : LIh m) (M : mA m A) (O : oA A) (tb : tbB m)  (r_x1 : rg x1) (r_x2 : rg x2) (r_x3 : rg x3) : CK 60 264 [.ref 284, iv x1, iv x2, iv x3] m (fun m2 v => LIh m2 ∧ ((KK m m2) ∧ tbB m2) ∧ (∀ B, cA m B → cA m2 B) ∧ mA m2 A ∧ gamA A TA0 FA0 x1 x2 x3 v) :=
  CK.mono (my_264 (G_rf L.1) r_x1 r_x2 r_x3 L.2.2.2.1) (by decide) (fun m2 v _ h => ⟨(LI_G L h.1).1, ⟨KK_G h.1, tb_G tb h.1⟩, fun B b => cA_G b h.1, ⟨mA_G M (ty_284_18 L.1) h.1, (h.2.2 A TA0 FA0 O.1 O.2.1 M tb.2).1⟩⟩)
theorem lw_142 {m : Mm} {A : Ab} {x1 : Int}  (L : LIh m) (S : SA m A) (tb : tbB m)  (r_x1 : rg x1) : CK 60 142 [.ref 0, iv x1] m (fun m2 v => LIh m2 ∧ ((KK m m2) ∧ tbB m2) ∧ mA m2 A ∧ cA m2 A ∧ v = topA A TA0 FA0 x1) :=
  CK.mono (fy_142 (G_rf L.1) r_x1 L.2.1.2.1) (by decide) (fun m2 v _ h => ⟨(LI_G L h.1).1, ⟨KK_G h.1, tb_G tb h.1⟩, mA_G S.2.1 (ty_284_18 L.1) h.1, ⟨cA_G S.1 h.1, (h.2.2 A TA0 FA0 S.1 S.2.2.1.1.2 tb.1)⟩⟩)
theorem lw_265 {m : Mm} {A : Ab} {x1 : Int}  (L : LIh m) (M : mA m A) (O : oA A) (tb : tbB m)  (r_x1 : rg x1) : CK 60 265 [.ref 284, iv x1] m (fun m2 v => LIh m2 ∧ ((KK m m2) ∧ tbB m2) ∧ (∀ B, cA m B → cA m2 B) ∧ mA m2 A ∧ v = topA A TA0 FA0 x1) :=
  CK.mono (my_265 (G_rf L.1) r_x1 L.2.2.2.1) (by decide) (fun m2 v _ h => ⟨(LI_G L h.1).1, ⟨KK_G h.1, tb_G tb h.1⟩, fun B b => cA_G b h.1, ⟨mA_G M (ty_284_18 L.1) h.1, (h.2.2 A TA0 FA0 O.1 O.2.1 M tb.2).1⟩⟩)
theorem lw_143 {m : Mm} {A : Ab} {x1 : Int} {x2 : Int}  (L : LIh m) (S : SA m A) (tb : tbB m)  (r_x1 : rg x1) (r_x2 : rg x2) : CK 60 143 [.ref 0, iv x1, iv x2] m (fun m2 v => LIh m2 ∧ ((KK m m2) ∧ tbB m2) ∧ mA m2 A ∧ cA m2 A ∧ besA A TA0 x1 x2 v) :=
  CK.mono (fy_143 (G_rf L.1) r_x1 r_x2 L.2.1.2.1) (by decide) (fun m2 v _ h => ⟨(LI_G L h.1).1, ⟨KK_G h.1, tb_G tb h.1⟩, mA_G S.2.1 (ty_284_18 L.1) h.1, ⟨cA_G S.1 h.1, (h.2.2 A TA0 FA0 S.1 S.2.2.1.1.2 tb.1)⟩⟩)
theorem lw_267 {m : Mm} {A : Ab} {x1 : Int} {x2 : Int}  (L : LIh m) (M : mA m A) (O : oA A) (tb : tbB m)  (r_x1 : rg x1) (r_x2 : rg x2) : CK 60 267 [.ref 284, iv x1, iv x2] m (fun m2 v => LIh m2 ∧ ((KK m m2) ∧ tbB m2) ∧ (∀ B, cA m B → cA m2 B) ∧ mA m2 A ∧ besA A TA0 x1 x2 v) :=
  CK.mono (my_267 (G_rf L.1) r_x1 r_x2 L.2.2.2.1) (by decide) (fun m2 v _ h => ⟨(LI_G L h.1).1, ⟨KK_G h.1, tb_G tb h.1⟩, fun B b => cA_G b h.1, ⟨mA_G M (ty_284_18 L.1) h.1, (h.2.2 A TA0 FA0 O.1 O.2.1 M tb.2).1⟩⟩)
theorem lw_144 {m : Mm} {A : Ab} {x1 : Int} {x2 : Int}  (L : LIh m) (S : SA m A) (tb : tbB m)  (r_x1 : rg x1) (r_x2 : rg x2) : CK 60 144 [.ref 0, iv x1, iv x2] m (fun m2 v => LIh m2 ∧ ((KK m m2) ∧ tbB m2) ∧ mA m2 A ∧ cA m2 A ∧ v = alA A FA0 x1 x2) :=
  CK.mono (fy_144 (G_rf L.1) r_x1 r_x2 L.2.1.2.1) (by decide) (fun m2 v _ h => ⟨(LI_G L h.1).1, ⟨KK_G h.1, tb_G tb h.1⟩, mA_G S.2.1 (ty_284_18 L.1) h.1, ⟨cA_G S.1 h.1, (h.2.2 A TA0 FA0 S.1 tb.1)⟩⟩)
theorem lw_270 {m : Mm} {A : Ab} {x1 : Int} {x2 : Int}  (L : LIh m) (M : mA m A) (O : oA A) (tb : tbB m)  (r_x1 : rg x1) (r_x2 : rg x2) : CK 60 270 [.ref 284, iv x1, iv x2] m (fun m2 v => LIh m2 ∧ ((KK m m2) ∧ tbB m2) ∧ (∀ B, cA m B → cA m2 B) ∧ mA m2 A ∧ v = alA A FA0 x1 x2) :=
  CK.mono (my_270 (G_rf L.1) r_x1 r_x2 ) (by decide) (fun m2 v _ h => ⟨(LI_G L h.1).1, ⟨KK_G h.1, tb_G tb h.1⟩, fun B b => cA_G b h.1, ⟨mA_G M (ty_284_18 L.1) h.1, (h.2.2 A TA0 FA0 O.1 O.2.1 M tb.2).1⟩⟩)
theorem lw_145 {m : Mm} {A : Ab} {x1 : Int}  (L : LIh m) (S : SA m A) (tb : tbB m)  (r_x1 : rg x1) : CK 60 145 [.ref 0, iv x1] m (fun m2 v => LIh m2 ∧ ((KK m m2) ∧ tbB m2) ∧ mA m2 A ∧ cA m2 A ∧ v = looA A FA0 x1) :=
  CK.mono (fy_145 (G_rf L.1) r_x1 L.2.1.2.1) (by decide) (fun m2 v _ h => ⟨(LI_G L h.1).1, ⟨KK_G h.1, tb_G tb h.1⟩, mA_G S.2.1 (ty_284_18 L.1) h.1, ⟨cA_G S.1 h.1, (h.2.2 A TA0 FA0 S.1 tb.1)⟩⟩)
theorem lw_271 {m : Mm} {A : Ab} {x1 : Int}  (L : LIh m) (M : mA m A) (O : oA A) (tb : tbB m)  (r_x1 : rg x1) : CK 60 271 [.ref 284, iv x1] m (fun m2 v => LIh m2 ∧ ((KK m m2) ∧ tbB m2) ∧ (∀ B, cA m B → cA m2 B) ∧ mA m2 A ∧ v = looA A FA0 x1) :=
  CK.mono (my_271 (G_rf L.1) r_x1 ) (by decide) (fun m2 v _ h => ⟨(LI_G L h.1).1, ⟨KK_G h.1, tb_G tb h.1⟩, fun B b => cA_G b h.1, ⟨mA_G M (ty_284_18 L.1) h.1, (h.2.2 A TA0 FA0 O.1 O.2.1 M tb.2).1⟩⟩)
theorem lw_146 {m : Mm} {A : Ab} {x1 : Int}  (L : LIh m) (S : SA m A) (tb : tbB m)  (r_x1 : rg x1) : CK 60 146 [.ref 0, iv x1] m (fun m2 v => LIh m2 ∧ ((KK m m2) ∧ tbB m2) ∧ mA m2 A ∧ cA m2 A ∧ v = mirA A FA0 x1) :=
  CK.mono (fy_146 (G_rf L.1) r_x1 L.2.1.2.1) (by decide) (fun m2 v _ h => ⟨(LI_G L h.1).1, ⟨KK_G h.1, tb_G tb h.1⟩, mA_G S.2.1 (ty_284_18 L.1) h.1, ⟨cA_G S.1 h.1, (h.2.2 A TA0 FA0 S.1 tb.1)⟩⟩)
theorem lw_272 {m : Mm} {A : Ab} {x1 : Int}  (L : LIh m) (M : mA m A) (O : oA A) (tb : tbB m)  (r_x1 : rg x1) : CK 60 272 [.ref 284, iv x1] m (fun m2 v => LIh m2 ∧ ((KK m m2) ∧ tbB m2) ∧ (∀ B, cA m B → cA m2 B) ∧ mA m2 A ∧ v = mirA A FA0 x1) :=
  CK.mono (my_272 (G_rf L.1) r_x1 ) (by decide) (fun m2 v _ h => ⟨(LI_G L h.1).1, ⟨KK_G h.1, tb_G tb h.1⟩, fun B b => cA_G b h.1, ⟨mA_G M (ty_284_18 L.1) h.1, (h.2.2 A TA0 FA0 O.1 O.2.1 M tb.2 ff0).1⟩⟩)
theorem lw_147 {m : Mm} {A : Ab} {x1 : Int} {x2 : Int} {x3 : Int}  (L : LIh m) (S : SA m A) (tb : tbB m)  (r_x1 : rg x1) (r_x2 : rg x2) (r_x3 : rg x3) : CK 60 147 [.ref 0, iv x1, iv x2, iv x3] m (fun m2 v => LIh m2 ∧ ((KK m m2) ∧ tbB m2) ∧ mA m2 A ∧ cA m2 A ∧ v = thnA A x1 x2 x3) :=
  CK.mono (ey_147 (G_rf L.1) r_x1 r_x2 r_x3 L.2.1.2.1 L.2.1.1.1 ⟨_, S.1.1.2.2⟩) (by decide) (fun m2 v _ h => ⟨(LI_G L h.1).1, ⟨KK_G h.1, tb_G tb h.1⟩, mA_G S.2.1 (ty_284_18 L.1) h.1, ⟨cA_G S.1 h.1, (h.2.2 A S.1).1⟩⟩)
theorem lw_273 {m : Mm} {A : Ab} {x1 : Int} {x2 : Int} {x3 : Int}  (L : LIh m) (M : mA m A) (O : oA A) (tb : tbB m)  (r_x1 : rg x1) (r_x2 : rg x2) (r_x3 : rg x3) : CK 60 273 [.ref 284, iv x1, iv x2, iv x3] m (fun m2 v => LIh m2 ∧ ((KK m m2) ∧ tbB m2) ∧ (∀ B, cA m B → cA m2 B) ∧ mA m2 A ∧ v = thnA A x1 x2 x3) :=
  CK.mono (mz_273 (G_rf L.1) r_x1 r_x2 r_x3 L.2.2.2.1 (lawsH_M L.2.2.2.2)) (by decide) (fun m2 v _ h => ⟨(LI_G L h.1).1, ⟨KK_G h.1, tb_G tb h.1⟩, fun B b => cA_G b h.1, ⟨mA_G M (ty_284_18 L.1) h.1, (h.2.2 A O.1 O.2.1 O.2.2.1 M).1⟩⟩)
theorem lw_148 {m : Mm} {A : Ab} {x1 : Int} {x2 : Int}  (L : LIh m) (S : SA m A) (tb : tbB m)  (r_x1 : rg x1) (r_x2 : rg x2) : CK 60 148 [.ref 0, iv x1, iv x2] m (fun m2 v => LIh m2 ∧ ((KK m m2) ∧ tbB m2) ∧ mA m2 A ∧ cA m2 A ∧ ((¬ ((0 ≤ x1 ∧ x1 < A.Y 0 * A.Y 1) ∧ 0 ≤ x2 ∧ x2 ≤ 60) ∧ v = -1) ∨ (((0 ≤ x1 ∧ x1 < A.Y 0 * A.Y 1) ∧ 0 ≤ x2 ∧ x2 ≤ 60) ∧ v = goN A.Y A.E (A.Y 4) A.r (Int.toNat x2) (Int.toNat x1)))) :=
  CK.mono (ey_148 (G_rf L.1) r_x1 r_x2 L.2.1.2.1 L.2.1.1.1 ⟨_, S.1.1.2.2⟩) (by decide) (fun m2 v _ h => ⟨(LI_G L h.1).1, ⟨KK_G h.1, tb_G tb h.1⟩, mA_G S.2.1 (ty_284_18 L.1) h.1, ⟨cA_G S.1 h.1, (h.2.2 A S.1).1⟩⟩)
theorem lw_274 {m : Mm} {A : Ab} {x1 : Int} {x2 : Int}  (L : LIh m) (M : mA m A) (O : oA A) (tb : tbB m)  (r_x1 : rg x1) (r_x2 : rg x2) : CK 60 274 [.ref 284, iv x1, iv x2] m (fun m2 v => LIh m2 ∧ ((KK m m2) ∧ tbB m2) ∧ (∀ B, cA m B → cA m2 B) ∧ mA m2 A ∧ ((¬ ((0 ≤ x1 ∧ x1 < A.Y 0 * A.Y 1) ∧ 0 ≤ x2 ∧ x2 ≤ 60) ∧ v = -1) ∨ (((0 ≤ x1 ∧ x1 < A.Y 0 * A.Y 1) ∧ 0 ≤ x2 ∧ x2 ≤ 60) ∧ v = goN A.Y A.E (A.Y 4) A.r (Int.toNat x2) (Int.toNat x1)))) :=
  CK.mono (mz_274 (G_rf L.1) r_x1 r_x2 L.2.2.2.1 (lawsH_M L.2.2.2.2)) (by decide) (fun m2 v _ h => ⟨(LI_G L h.1).1, ⟨KK_G h.1, tb_G tb h.1⟩, fun B b => cA_G b h.1, ⟨mA_G M (ty_284_18 L.1) h.1, (h.2.2 A O.1 O.2.1 O.2.2.1 M).1⟩⟩)
theorem lw_149 {m : Mm} {A : Ab} {x1 : Int}  (L : LIh m) (S : SA m A) (tb : tbB m)  (r_x1 : rg x1) : CK 60 149 [.ref 0, iv x1] m (fun m2 v => LIh m2 ∧ ((KK m m2) ∧ tbB m2) ∧ mA m2 A ∧ cA m2 A ∧ ((¬ (0 ≤ x1 ∧ x1 ≤ 60) ∧ v = -1) ∨ ((0 ≤ x1 ∧ x1 ≤ 60) ∧ v = goN A.Y A.E (A.Y 4) A.r (Int.toNat x1) 50))) :=
  CK.mono (ey_149 (G_rf L.1) r_x1 L.2.1.2.1 L.2.1.1.1 ⟨_, S.1.1.2.2⟩) (by decide) (fun m2 v _ h => ⟨(LI_G L h.1).1, ⟨KK_G h.1, tb_G tb h.1⟩, mA_G S.2.1 (ty_284_18 L.1) h.1, ⟨cA_G S.1 h.1, (h.2.2 A S.1).1⟩⟩)
theorem lw_275 {m : Mm} {A : Ab} {x1 : Int}  (L : LIh m) (M : mA m A) (O : oA A) (tb : tbB m)  (r_x1 : rg x1) : CK 60 275 [.ref 284, iv x1] m (fun m2 v => LIh m2 ∧ ((KK m m2) ∧ tbB m2) ∧ (∀ B, cA m B → cA m2 B) ∧ mA m2 A ∧ ((¬ (0 ≤ x1 ∧ x1 ≤ 60) ∧ v = -1) ∨ ((0 ≤ x1 ∧ x1 ≤ 60) ∧ v = goN A.Y A.E (A.Y 4) A.r (Int.toNat x1) 50))) :=
  CK.mono (mz_275 (G_rf L.1) r_x1 L.2.2.2.1 (lawsH_M L.2.2.2.2)) (by decide) (fun m2 v _ h => ⟨(LI_G L h.1).1, ⟨KK_G h.1, tb_G tb h.1⟩, fun B b => cA_G b h.1, ⟨mA_G M (ty_284_18 L.1) h.1, (h.2.2 A O.1 O.2.1 O.2.2.1 M).1⟩⟩)
theorem lw_150 {m : Mm} {A : Ab} {x1 : Int} {x2 : Int} {x3 : Int} {x4 : Int}  (L : LIh m) (S : SA m A) (tb : tbB m)  (r_x1 : rg x1) (r_x2 : rg x2) (r_x3 : rg x3) (r_x4 : rg x4) : CK 60 150 [.ref 0, iv x1, iv x2, iv x3, iv x4] m (fun m2 v => LIh m2 ∧ ((KK m m2) ∧ tbB m2) ∧ mA m2 A ∧ cA m2 A ∧ v = yrA A x1 x2 x3 x4) :=
  CK.mono (ey_150 (G_rf L.1) r_x1 r_x2 r_x3 r_x4 L.2.1.2.1 L.2.1.1.1 L.2.1.2.1 ⟨_, S.1.1.2.2⟩) (by decide) (fun m2 v _ h => ⟨(LI_G L h.1).1, ⟨KK_G h.1, tb_G tb h.1⟩, mA_G S.2.1 (ty_284_18 L.1) h.1, ⟨cA_G S.1 h.1, (h.2.2 A S.1).1⟩⟩)
theorem lw_276 {m : Mm} {A : Ab} {x1 : Int} {x2 : Int} {x3 : Int} {x4 : Int}  (L : LIh m) (M : mA m A) (O : oA A) (tb : tbB m)  (r_x1 : rg x1) (r_x2 : rg x2) (r_x3 : rg x3) (r_x4 : rg x4) : CK 60 276 [.ref 284, iv x1, iv x2, iv x3, iv x4] m (fun m2 v => LIh m2 ∧ ((KK m m2) ∧ tbB m2) ∧ (∀ B, cA m B → cA m2 B) ∧ mA m2 A ∧ v = yrA A x1 x2 x3 x4) :=
  CK.mono (mz_276 (G_rf L.1) r_x1 r_x2 r_x3 r_x4 L.2.2.2.1 (lawsH_M L.2.2.2.2)) (by decide) (fun m2 v _ h => ⟨(LI_G L h.1).1, ⟨KK_G h.1, tb_G tb h.1⟩, fun B b => cA_G b h.1, ⟨mA_G M (ty_284_18 L.1) h.1, (h.2.2 A O.1 O.2.1 O.2.2.1 M).1⟩⟩)
theorem lw_153 {m : Mm} {A : Ab} {x1 : Int} {x2 : Int} {x3 : Int} {x4 : Int}  (L : LIh m) (S : SA m A) (tb : tbB m)  (r_x1 : rg x1) (r_x2 : rg x2) (r_x3 : rg x3) (r_x4 : rg x4) : CK 60 153 [.ref 0, iv x1, iv x2, iv x3, iv x4] m (fun m2 v => LIh m2 ∧ ((KK m m2) ∧ tbB m2) ∧ mA m2 A ∧ cA m2 A ∧ True) :=
  CK.mono (ct_153 (G_rf L.1) r_x1 r_x2 r_x3 r_x4 L.2.1.2.1) (by decide) (fun m2 v _ h => ⟨(LI_G L h.1).1, ⟨KK_G h.1, tb_G tb h.1⟩, mA_G S.2.1 (ty_284_18 L.1) h.1, ⟨cA_G S.1 h.1, trivial⟩⟩)
theorem lw_282 {m : Mm} {A : Ab} {x1 : Int} {x2 : Int} {x3 : Int} {x4 : Int}  (L : LIh m) (M : mA m A) (O : oA A) (tb : tbB m)  (r_x1 : rg x1) (r_x2 : rg x2) (r_x3 : rg x3) (r_x4 : rg x4) : CK 60 282 [.ref 284, iv x1, iv x2, iv x3, iv x4] m (fun m2 v => LIh m2 ∧ ((KK m m2) ∧ tbB m2) ∧ (∀ B, cA m B → cA m2 B) ∧ mA m2 A ∧ True) :=
  CK.mono (ct_282 (G_rf L.1) r_x1 r_x2 r_x3 r_x4 L.2.2.2.1) (by decide) (fun m2 v _ h => ⟨(LI_G L h.1).1, ⟨KK_G h.1, tb_G tb h.1⟩, fun B b => cA_G b h.1, ⟨mA_G M (ty_284_18 L.1) h.1, trivial⟩⟩)
theorem lw_154 {m : Mm} {A : Ab} {x1 : Int} {x2 : Int} {x3 : Int}  (L : LIh m) (S : SA m A) (tb : tbB m)  (r_x1 : rg x1) (r_x2 : rg x2) (r_x3 : rg x3) : CK 60 154 [.ref 0, iv x1, iv x2, iv x3] m (fun m2 v => LIh m2 ∧ ((KK m m2) ∧ tbB m2) ∧ mA m2 A ∧ cA m2 A ∧ True) :=
  CK.mono (ct_154 (G_rf L.1) r_x1 r_x2 r_x3 L.2.1.2.1) (by decide) (fun m2 v _ h => ⟨(LI_G L h.1).1, ⟨KK_G h.1, tb_G tb h.1⟩, mA_G S.2.1 (ty_284_18 L.1) h.1, ⟨cA_G S.1 h.1, trivial⟩⟩)
theorem lw_283 {m : Mm} {A : Ab} {x1 : Int} {x2 : Int} {x3 : Int}  (L : LIh m) (M : mA m A) (O : oA A) (tb : tbB m)  (r_x1 : rg x1) (r_x2 : rg x2) (r_x3 : rg x3) : CK 60 283 [.ref 284, iv x1, iv x2, iv x3] m (fun m2 v => LIh m2 ∧ ((KK m m2) ∧ tbB m2) ∧ (∀ B, cA m B → cA m2 B) ∧ mA m2 A ∧ True) :=
  CK.mono (ct_283 (G_rf L.1) r_x1 r_x2 r_x3 L.2.2.2.1) (by decide) (fun m2 v _ h => ⟨(LI_G L h.1).1, ⟨KK_G h.1, tb_G tb h.1⟩, fun B b => cA_G b h.1, ⟨mA_G M (ty_284_18 L.1) h.1, trivial⟩⟩)
theorem lw_157 {m : Mm} {A : Ab} {x1 : Int}  (L : LIh m) (S : SA m A) (tb : tbB m)  (r_x1 : rg x1) : CK 60 157 [.ref 0, iv x1] m (fun m2 v => LIh m2 ∧ ((KK m m2) ∧ tbB m2) ∧ mA m2 A ∧ cA m2 A ∧ v = cntA A (rd m 1 0) (rd m 49 0) x1) :=
  CK.mono (ey_157 L.1 r_x1 L.2.1.2.1) (by decide) (fun m2 v _ h => ⟨by rw [h.1]; exact L, ⟨by rw [h.1]; exact KK_r m, by rw [h.1]; exact tb⟩, by rw [h.1]; exact S.2.1, ⟨by rw [h.1]; exact S.1, (h.2.2 A S.1 S.2.2.1.1.1)⟩⟩)
theorem lw_287 {m : Mm} {A : Ab} {x1 : Int}  (L : LIh m) (M : mA m A) (O : oA A) (tb : tbB m)  (r_x1 : rg x1) : CK 60 287 [.ref 284, iv x1] m (fun m2 v => LIh m2 ∧ ((KK m m2) ∧ tbB m2) ∧ (∀ B, cA m B → cA m2 B) ∧ mA m2 A ∧ v = cntA A (rd m 284 2) (rd m 284 72) x1) :=
  CK.mono (mz_287 (G_rf L.1) r_x1 L.2.2.2.1) (by decide) (fun m2 v _ h => ⟨(LI_G L h.1).1, ⟨KK_G h.1, tb_G tb h.1⟩, fun B b => cA_G b h.1, ⟨mA_G M (ty_284_18 L.1) h.1, (h.2.2 A O.1 O.2.1 O.2.2.1 O.2.2.2.1 M).1⟩⟩)
theorem lw_129 {m : Mm} {A : Ab} {x1 : Int} {x2 : Int}  (L : LIh m) (S : SA m A) (tb : tbB m)  (r_x1 : rg x1) (r_x2 : rg x2) : CK 60 129 [.ref 0, iv x1, iv x2] m (fun m2 v => LIh m2 ∧ ((KK m m2) ∧ tbB m2) ∧ mA m2 A ∧ ((((0 ≤ x1 ∧ x1 < A.Y 3) ∧ (0 ≤ x2 ∧ x2 ≤ 3) ∧ canN A.Y A.r x1 x2) ∧ cA m2 (noA A (tiN A.Y A.E A.r x1 x2)) ∧ v = fC (tiN A.Y A.E A.r x1 x2) x1) ∨ (¬ ((0 ≤ x1 ∧ x1 < A.Y 3) ∧ (0 ≤ x2 ∧ x2 ≤ 3) ∧ canN A.Y A.r x1 x2) ∧ cA m2 A ∧ v = -1))) :=
  CK.mono (fy_129 (CIX_rf L) r_x1 r_x2 ⟨_, S.1.1.2.2⟩) (by decide) (fun m2 v _ h => ⟨(LI_C L h.1).1, ⟨⟨h.2.1.1.2, kM_C h.1⟩, tb_C tb h.1 h.2.2⟩, mA_hi S.2.1 (ty_284_18 L.1) (fun i j q => (h.1.2.2 i j q).1), h.2.1.2 A S.1⟩)
theorem lw_130 {m : Mm} {A : Ab} {x1 : Int} {x2 : Int}  (L : LIh m) (S : SA m A) (tb : tbB m)  (r_x1 : rg x1) (r_x2 : rg x2) : CK 60 130 [.ref 0, iv x1, iv x2] m (fun m2 v => LIh m2 ∧ ((KK m m2) ∧ tbB m2) ∧ mA m2 A ∧ ((paP A x1 x2 ∧ cA m2 (noA A (ro_u A.r (Int.toNat x1) x2)) ∧ v = 1) ∨ (¬ paP A x1 x2 ∧ cA m2 A ∧ v = 0))) :=
  CK.mono (fy_130 (CIX_rf L) r_x1 r_x2 ) (by decide) (fun m2 v _ h => ⟨(LI_C L h.1).1, ⟨⟨h.2.1.1.2, kM_C h.1⟩, tb_C tb h.1 h.2.2⟩, mA_hi S.2.1 (ty_284_18 L.1) (fun i j q => (h.1.2.2 i j q).1), h.2.1.2 A S.1⟩)
theorem lw_131 {m : Mm} {A : Ab} {x1 : Int}  (L : LIh m) (S : SA m A) (tb : tbB m)  (r_x1 : rg x1) : CK 60 131 [.ref 0, iv x1] m (fun m2 v => LIh m2 ∧ ((KK m m2) ∧ tbB m2) ∧ mA m2 A ∧ ((¬ (0 ≤ x1 ∧ x1 ≤ 60) ∧ cA m2 A ∧ v = -1) ∨ (x1 = 0 ∧ cA m2 A ∧ v = A.r 49) ∨ ((1 ≤ x1 ∧ x1 ≤ 60) ∧ cA m2 (noA A (goN A.Y A.E (A.Y 4) A.r (Int.toNat x1))) ∧ v = goN A.Y A.E (A.Y 4) A.r (Int.toNat x1) 49))) :=
  CK.mono (fy_131 (CIX_rf L) r_x1 ⟨_, S.1.1.2.2⟩) (by decide) (fun m2 v _ h => ⟨(LI_C L h.1).1, ⟨⟨h.2.1.1.2, kM_C h.1⟩, tb_C tb h.1 h.2.2⟩, mA_hi S.2.1 (ty_284_18 L.1) (fun i j q => (h.1.2.2 i j q).1), h.2.1.2 A S.1⟩)
theorem lw_132 {m : Mm} {A : Ab}   (L : LIh m) (S : SA m A) (tb : tbB m)   : CK 60 132 [.ref 0] m (fun m2 v => LIh m2 ∧ ((KK m m2) ∧ tbB m2) ∧ mA m2 A ∧ ((v = 0 ∧ A.n = 0 ∧ cA m2 A) ∨ (v = 1 ∧ ¬ A.n = 0 ∧ cA m2 (unB A)))) :=
  CK.mono (fy_132 (CIX_rf L)  ) (by decide) (fun m2 v _ h => ⟨(LI_C L h.1).1, ⟨⟨h.2.1.1.2, kM_C h.1⟩, tb_C tb h.1 h.2.2⟩, mA_hi S.2.1 (ty_284_18 L.1) (fun i j q => (h.1.2.2 i j q).1), h.2.1.2 A S.1⟩)
theorem lw_241 {m : Mm} {A : Ab} {x1 : Int} {x2 : Int}  (L : LIh m) (M : mA m A) (O : oA A) (tb : tbB m)  (r_x1 : rg x1) (r_x2 : rg x2) : CK 60 241 [.ref 284, iv x1, iv x2] m (fun m2 v => LIh m2 ∧ ((KK m m2) ∧ tbB m2) ∧ (∀ B, cA m B → cA m2 B) ∧ ((((0 ≤ x1 ∧ x1 < A.Y 3) ∧ (0 ≤ x2 ∧ x2 ≤ 3) ∧ canN A.Y A.r x1 x2) ∧ mA m2 (noA A (tiN A.Y A.E A.r x1 x2)) ∧ v = fC (tiN A.Y A.E A.r x1 x2) x1) ∨ (¬ ((0 ≤ x1 ∧ x1 < A.Y 3) ∧ (0 ≤ x2 ∧ x2 ≤ 3) ∧ canN A.Y A.r x1 x2) ∧ mA m2 A ∧ v = -1))) :=
  CK.mono (mz_241 L.1 r_x1 r_x2 L.2.2.2.1 (lawsH_M L.2.2.2.2)) (by decide) (fun m2 v _ h => ⟨(LI_D L h.1).1, ⟨⟨kp_D h.1, kM_D h.1 h.2.1.2⟩, tb_D tb h.1⟩, fun B b => cA_lo b (fun i j q => h.1.2.1 i j (sMd_lo q)), h.2.2 A O.1 O.2.1 O.2.2.1 M⟩)
theorem lw_242 {m : Mm} {A : Ab} {x1 : Int} {x2 : Int}  (L : LIh m) (M : mA m A) (O : oA A) (tb : tbB m)  (r_x1 : rg x1) (r_x2 : rg x2) : CK 60 242 [.ref 284, iv x1, iv x2] m (fun m2 v => LIh m2 ∧ ((KK m m2) ∧ tbB m2) ∧ (∀ B, cA m B → cA m2 B) ∧ ((paP A x1 x2 ∧ mA m2 (noA A (ro_u A.r (Int.toNat x1) x2)) ∧ v = 1) ∨ (¬ paP A x1 x2 ∧ mA m2 A ∧ v = 0))) :=
  CK.mono (mz_242 L.1 r_x1 r_x2 L.2.2.2.1 (lawsH_M L.2.2.2.2)) (by decide) (fun m2 v _ h => ⟨(LI_D L h.1).1, ⟨⟨kp_D h.1, kM_D h.1 h.2.1.2⟩, tb_D tb h.1⟩, fun B b => cA_lo b (fun i j q => h.1.2.1 i j (sMd_lo q)), h.2.2 A O.1 O.2.1 O.2.2.1 M⟩)
theorem lw_244 {m : Mm} {A : Ab} {x1 : Int}  (L : LIh m) (M : mA m A) (O : oA A) (tb : tbB m)  (r_x1 : rg x1) : CK 60 244 [.ref 284, iv x1] m (fun m2 v => LIh m2 ∧ ((KK m m2) ∧ tbB m2) ∧ (∀ B, cA m B → cA m2 B) ∧ ((¬ (0 ≤ x1 ∧ x1 ≤ 60) ∧ mA m2 A ∧ v = -1) ∨ (x1 = 0 ∧ mA m2 A ∧ v = A.r 49) ∨ ((1 ≤ x1 ∧ x1 ≤ 60) ∧ mA m2 (noA A (goN A.Y A.E (A.Y 4) A.r (Int.toNat x1))) ∧ v = goN A.Y A.E (A.Y 4) A.r (Int.toNat x1) 49))) :=
  CK.mono (mz_244 L.1 r_x1 L.2.2.2.1 (lawsH_M L.2.2.2.2)) (by decide) (fun m2 v _ h => ⟨(LI_D L h.1).1, ⟨⟨kp_D h.1, kM_D h.1 h.2.1.2⟩, tb_D tb h.1⟩, fun B b => cA_lo b (fun i j q => h.1.2.1 i j (sMd_lo q)), h.2.2 A O.1 O.2.1 O.2.2.1 M⟩)
theorem lw_245 {m : Mm} {A : Ab}   (L : LIh m) (M : mA m A) (O : oA A) (tb : tbB m)   : CK 60 245 [.ref 284] m (fun m2 v => LIh m2 ∧ ((KK m m2) ∧ tbB m2) ∧ (∀ B, cA m B → cA m2 B) ∧ ((v = 0 ∧ A.n = 0 ∧ mA m2 A) ∨ (v = 1 ∧ ¬ A.n = 0 ∧ mA m2 (unB A)))) :=
  CK.mono (me_245 L.1  ) (by decide) (fun m2 v _ h => ⟨(LI_D L h.1).1, ⟨⟨kp_D h.1, kM_D h.1 h.2.1.1.2⟩, tb_D tb h.1⟩, fun B b => cA_lo b (fun i j q => h.1.2.1 i j (sMd_lo q)), h.2.2 A O.1 O.2.1 O.2.2.1 M⟩)
theorem lw_125 {m : Mm} {A : Ab}   (L : LIh m) (S : SA m A) (tb : tbB m)   : CK 60 125 [.ref 0] m (fun m2 v => LIh m2 ∧ ((KK m m2 ∧ v = rd m 19 0) ∧ tbB m2) ∧ mA m2 A ∧ cA m2 A ∧ True) :=
  CK.mono (cx_125 L.1) (by decide) (fun m2 v _ h => ⟨by rw [h.1]; exact L, ⟨by rw [h.1]; exact ⟨KK_r m, h.2.2⟩, by rw [h.1]; exact tb⟩, by rw [h.1]; exact S.2.1, ⟨by rw [h.1]; exact S.1, trivial⟩⟩)
theorem lw_187 {m : Mm} {A : Ab}   (L : LIh m) (M : mA m A) (O : oA A) (tb : tbB m)   : CK 60 187 [.ref 284] m (fun m2 v => LIh m2 ∧ ((KK m m2 ∧ v = rd m 284 17) ∧ tbB m2) ∧ (∀ B, cA m B → cA m2 B) ∧ mA m2 A ∧ True) :=
  CK.mono (mx_187 L.1) (by decide) (fun m2 v _ h => ⟨by rw [h.1]; exact L, ⟨by rw [h.1]; exact ⟨KK_r m, h.2.2⟩, by rw [h.1]; exact tb⟩, fun B b => by rw [h.1]; exact b, ⟨by rw [h.1]; exact M, trivial⟩⟩)
theorem lw_122 {m : Mm} {A : Ab} {x1 : Int} {x2 : Int} {x3 : Int} {x4 : Int} {x5 : Int}  (L : LIh m) (S : SA m A) (tb : tbB m)  (r_x1 : rg x1) (r_x2 : rg x2) (r_x3 : rg x3) (r_x4 : rg x4) (r_x5 : rg x5) : CK 60 122 [.ref 0, iv x1, iv x2, iv x3, iv x4, iv x5] m (fun m2 v => LIh m2 ∧ ((feR m m2 5 1 0 x1 x2 x3 x4 x5 ∧ kO m m2 ∧ kM m m2) ∧ tbB m2) ∧ mA m2 A ∧ cA m2 A ∧ True) :=
  CK.mono (cx_122 L.1 r_x1 r_x2 r_x3 r_x4 r_x5) (by decide) (fun m2 v _ h => ⟨(LI_C L (CI_pu (CIX_rf L) h.1)).1, ⟨⟨h.2.1, kO_P h.1, kM_C (CI_pu (CIX_rf L) h.1)⟩, tb_P tb h.1⟩, mA_hi S.2.1 (ty_284_18 L.1) (fun i j q => ((CI_pu (CIX_rf L) h.1).2.2 i j q).1), ⟨cA_P S.1 h.1, trivial⟩⟩)
theorem lw_169 {m : Mm} {A : Ab} {x1 : Int} {x2 : Int} {x3 : Int} {x4 : Int} {x5 : Int}  (L : LIh m) (M : mA m A) (O : oA A) (tb : tbB m)  (r_x1 : rg x1) (r_x2 : rg x2) (r_x3 : rg x3) (r_x4 : rg x4) (r_x5 : rg x5) : CK 60 169 [.ref 284, iv x1, iv x2, iv x3, iv x4, iv x5] m (fun m2 v => LIh m2 ∧ ((feR m m2 285 284 2 x1 x2 x3 x4 x5 ∧ kp m m2 ∧ kT m m2) ∧ tbB m2) ∧ (∀ B, cA m B → cA m2 B) ∧ mA m2 A ∧ True) :=
  CK.mono (mx_169 L.1 r_x1 r_x2 r_x3 r_x4 r_x5) (by decide) (fun m2 v _ h => ⟨(LI_T L h.1).1, ⟨⟨h.2.1, kp_T h.1, kT_T h.1⟩, tb_T tb h.1⟩, fun B b => cA_T b h.1, ⟨mA_T M (ty_284_18 L.1) h.1, trivial⟩⟩)
theorem lw_123 {m : Mm} {A : Ab} {x1 : Int}  (L : LIh m) (S : SA m A) (tb : tbB m)  (r_x1 : rg x1) : CK 60 123 [.ref 0, iv x1] m (fun m2 v => LIh m2 ∧ ((((0 ≤ x1 ∧ x1 ≤ rd m 1 0 ∧ v = rd m 1 0 - x1 ∧ rd m2 1 0 = rd m 1 0 - x1) ∨ (¬ (0 ≤ x1 ∧ x1 ≤ rd m 1 0) ∧ v = -1 ∧ rd m2 1 0 = rd m 1 0)) ∧ ks m m2 ∧ kM m m2) ∧ tbB m2) ∧ mA m2 A ∧ cA m2 A ∧ True) :=
  CK.mono (fy_123 (CIX_rf L) r_x1) (by decide) (fun m2 v _ h => ⟨(LI_C L h.1).1, ⟨⟨h.2.1.1.1, h.2.1.1.2, kM_C h.1⟩, tb_C tb h.1 h.2.2⟩, mA_hi S.2.1 (ty_284_18 L.1) (fun i j q => (h.1.2.2 i j q).1), ⟨h.2.1.2 A S.1, trivial⟩⟩)
theorem lw_171 {m : Mm} {A : Ab} {x1 : Int}  (L : LIh m) (M : mA m A) (O : oA A) (tb : tbB m)  (r_x1 : rg x1) : CK 60 171 [.ref 284, iv x1] m (fun m2 v => LIh m2 ∧ ((((0 ≤ x1 ∧ x1 ≤ rd m 284 2 ∧ v = rd m 284 2 - x1 ∧ rd m2 284 2 = rd m 284 2 - x1) ∨ (¬ (0 ≤ x1 ∧ x1 ≤ rd m 284 2) ∧ v = -1 ∧ rd m2 284 2 = rd m 284 2)) ∧ (∀ j, rd m2 285 j = rd m 285 j) ∧ kp m m2 ∧ kT m m2) ∧ tbB m2) ∧ (∀ B, cA m B → cA m2 B) ∧ mA m2 A ∧ True) :=
  CK.mono (mx_171 L.1 r_x1) (by decide) (fun m2 v _ h => ⟨(LI_T L h.1).1, ⟨⟨h.2.1, h.2.2, kp_T h.1, kT_T h.1⟩, tb_T tb h.1⟩, fun B b => cA_T b h.1, ⟨mA_T M (ty_284_18 L.1) h.1, trivial⟩⟩)
theorem lw_124 {m : Mm} {A : Ab}   (L : LIh m) (S : SA m A) (tb : tbB m)   : CK 60 124 [.ref 0] m (fun m2 v => LIh m2 ∧ ((rd m2 1 0 = 0 ∧ rdE m m2 v ∧ kM m m2) ∧ tbB m2) ∧ mA m2 A ∧ rdN m m2 v) :=
  CK.mono (fy_124 (CIX_rf L)) (by decide) (fun m2 v _ h => ⟨(LI_C L h.1).1, ⟨⟨h.2.1, h.2.2.1, kM_C h.1⟩, tb_C tb h.1 h.2.2.2.2⟩, mA_hi S.2.1 (ty_284_18 L.1) (fun i j q => (h.1.2.2 i j q).1), h.2.2.2.1⟩)
def rdPre (b : Nat → Int) (n : Int) (w : Nat → Int) (m : Mm) : Prop := tksC b n w m ∧ rd m 284 2 = n ∧ (∀ j : Nat, (j : Int) < n → uB m 285 j = b j) ∧ (∀ q : Nat, q < 21 → ld m 291 q = w q) ∧ ∀ p q : Nat, p < 21 → q < 21 → w p = w q → p = q
def rdL (m m2 : Mm) (v : Int) : Prop := ((v = 0 → pdM m2 (pRun (tX m2) 401 ps_0) (qRun (tX m2) 401 ps_0 dE) ∧ rwM m2) ∧ (¬ v = 0 → kfM m m2)) ∧ tbk m m2 ∧ tX m2 = tX m
theorem tX_B {m m2 : Mm} (g : MB m m2) : tX m2 = tX m := tX_eq (fun j => g.2.1 2 j (by decide)) (fun j => g.2.1 3 j (by decide)) (fun j => g.2.2 4 j (by decide))
theorem lw_186 {m : Mm} {A : Ab}  {b w : Nat → Int} {n : Int} (L : LIh m) (M : mA m A) (O : oA A) (tb : tbB m) (p : rdPre b n w m)  : CK 60 186 [.ref 284] m (fun m2 v => LIh m2 ∧ ((rd m2 284 2 = 0 ∧ rdM m m2 n v ∧ kp m m2) ∧ tbB m2) ∧ (∀ B, cA m B → cA m2 B) ∧ rdL m m2 v) :=
  CK.mono (me_186 (MB_rf L.1) L.2.2 p.1 p.2.1 p.2.2.1 p.2.2.2.1 p.2.2.2.2) (by decide) (fun m2 v _ h => ⟨(LI_B L h.1 h.2.1.1.1.1).1, ⟨⟨h.2.1.1.1.2, h.2.1.1.2, kp_B h.1⟩, tb_B tb h.1 h.2.2⟩, fun B b => cA_lo b (fun i j q => h.1.2.1 i j q), ⟨h.2.1.2, h.2.2, tX_B h.1⟩⟩)
theorem lw_151 {m : Mm} {A : Ab} {x1 : Int} {x2 : Int} {x3 : Int}  (L : LIh m) (S : SA m A) (tb : tbB m)  (r_x1 : rg x1) (r_x2 : rg x2) (r_x3 : rg x3) : CK 60 151 [.ref 0, iv x1, iv x2, iv x3] m (fun m2 v => LIh m2 ∧ (((((1 ≤ x1 ∧ x1 ≤ 5) ∧ (0 ≤ x2 ∧ x2 ≤ 9) ∧ rd m 49 0 < 20 ∧ v = rd m 49 0 ∧ rd m2 49 0 = rd m 49 0 + 1) ∨ (¬ ((1 ≤ x1 ∧ x1 ≤ 5) ∧ (0 ≤ x2 ∧ x2 ≤ 9) ∧ rd m 49 0 < 20) ∧ v = -1 ∧ rd m2 49 0 = rd m 49 0)) ∧ kr m m2 ∧ kM m m2) ∧ tbB m2) ∧ mA m2 A ∧ cA m2 A ∧ True) :=
  CK.mono (fy_151 (CIX_rf L) r_x1 r_x2 r_x3) (by decide) (fun m2 v _ h => ⟨(LI_C L h.1).1, ⟨⟨h.2.1.1.2.2, h.2.1.1.2.1, kM_C h.1⟩, tb_C tb h.1 h.2.2⟩, mA_hi S.2.1 (ty_284_18 L.1) (fun i j q => (h.1.2.2 i j q).1), ⟨h.2.1.2 A S.1, trivial⟩⟩)
theorem lw_277 {m : Mm} {A : Ab} {x1 : Int} {x2 : Int} {x3 : Int}  (L : LIh m) (M : mA m A) (O : oA A) (tb : tbB m)  (r_x1 : rg x1) (r_x2 : rg x2) (r_x3 : rg x3) : CK 60 277 [.ref 284, iv x1, iv x2, iv x3] m (fun m2 v => LIh m2 ∧ (((((1 ≤ x1 ∧ x1 ≤ 5) ∧ (0 ≤ x2 ∧ x2 ≤ 9) ∧ rd m 284 72 < 20 ∧ v = rd m 284 72 ∧ rd m2 284 72 = rd m 284 72 + 1) ∨ (¬ ((1 ≤ x1 ∧ x1 ≤ 5) ∧ (0 ≤ x2 ∧ x2 ≤ 9) ∧ rd m 284 72 < 20) ∧ v = -1 ∧ rd m2 284 72 = rd m 284 72)) ∧ kp m m2 ∧ kU m m2 ∧ ∀ j, rd m2 339 j = rd m 339 j) ∧ tbB m2) ∧ (∀ B, cA m B → cA m2 B) ∧ mA m2 A ∧ True) :=
  CK.mono (mz_277 L.1 r_x1 r_x2 r_x3) (by decide) (fun m2 v _ h => ⟨(LI_D L h.1).1, ⟨⟨h.2.1.2.2, kp_D h.1, kU_D h.1, h.2.1.2.1⟩, tb_D tb h.1⟩, fun B b => cA_lo b (fun i j q => h.1.2.1 i j (sMd_lo q)), ⟨h.2.2 A M, trivial⟩⟩)
theorem lw_152 {m : Mm} {A : Ab}   (L : LIh m) (S : SA m A) (tb : tbB m)   : CK 60 152 [.ref 0] m (fun m2 v => LIh m2 ∧ (((v = rd m 49 0 ∧ rd m2 49 0 = 0) ∧ kr m m2 ∧ kM m m2) ∧ tbB m2) ∧ mA m2 A ∧ cA m2 A ∧ True) :=
  CK.mono (fy_152 (CIX_rf L)) (by decide) (fun m2 v _ h => ⟨(LI_C L h.1).1, ⟨⟨h.2.1.1.2.2, h.2.1.1.2.1, kM_C h.1⟩, tb_C tb h.1 h.2.2⟩, mA_hi S.2.1 (ty_284_18 L.1) (fun i j q => (h.1.2.2 i j q).1), ⟨h.2.1.2 A S.1, trivial⟩⟩)
theorem lw_278 {m : Mm} {A : Ab}   (L : LIh m) (M : mA m A) (O : oA A) (tb : tbB m)   : CK 60 278 [.ref 284] m (fun m2 v => LIh m2 ∧ (((v = rd m 284 72 ∧ rd m2 284 72 = 0) ∧ kp m m2 ∧ kU m m2 ∧ ∀ j, rd m2 339 j = rd m 339 j) ∧ tbB m2) ∧ (∀ B, cA m B → cA m2 B) ∧ mA m2 A ∧ True) :=
  CK.mono (mz_278 L.1) (by decide) (fun m2 v _ h => ⟨(LI_D L h.1).1, ⟨⟨h.2.1.2.2, kp_D h.1, kU_D h.1, h.2.1.2.1⟩, tb_D tb h.1⟩, fun B b => cA_lo b (fun i j q => h.1.2.1 i j (sMd_lo q)), ⟨h.2.2 A M, trivial⟩⟩)
theorem lw_155 {m : Mm} {A : Ab} {x1 : Int}  (L : LIh m) (S : SA m A) (tb : tbB m)  (r_x1 : rg x1) : CK 60 155 [.ref 0, iv x1] m (fun m2 v => LIh m2 ∧ (((((0 ≤ x1 ∧ x1 ≤ 2) ∧ rd m2 58 (Int.toNat x1) = 1 ∧ ∀ j : Nat, ¬ j = Int.toNat x1 → rd m2 58 j = rd m 58 j) ∨ ((x1 < 0 ∨ 2 < x1) ∧ ∀ j, rd m2 58 j = rd m 58 j)) ∧ kq m m2 ∧ kM m m2) ∧ tbB m2) ∧ mA m2 A ∧ (((0 ≤ x1 ∧ x1 ≤ 2) → cA m2 (hoA A (Int.toNat x1))) ∧ (¬ (0 ≤ x1 ∧ x1 ≤ 2) → cA m2 A)) ∧ True) :=
  CK.mono (fy_155 (CIX_rf L) r_x1) (by decide) (fun m2 v _ h => ⟨(LI_C L h.1).1, ⟨⟨h.2.1.1.2.2, h.2.1.1.2.1, kM_C h.1⟩, tb_C tb h.1 h.2.2⟩, mA_hi S.2.1 (ty_284_18 L.1) (fun i j q => (h.1.2.2 i j q).1), ⟨h.2.1.2 A S.1, trivial⟩⟩)
theorem lw_284 {m : Mm} {A : Ab} {x1 : Int}  (L : LIh m) (M : mA m A) (O : oA A) (tb : tbB m)  (r_x1 : rg x1) : CK 60 284 [.ref 284, iv x1] m (fun m2 v => LIh m2 ∧ (((((0 ≤ x1 ∧ x1 ≤ 2) ∧ rd m2 339 (Int.toNat x1) = 1 ∧ ∀ j : Nat, ¬ j = Int.toNat x1 → rd m2 339 j = rd m 339 j) ∨ ((x1 < 0 ∨ 2 < x1) ∧ ∀ j, rd m2 339 j = rd m 339 j)) ∧ kp m m2 ∧ kU m m2 ∧ rd m2 284 72 = rd m 284 72) ∧ tbB m2) ∧ (∀ B, cA m B → cA m2 B) ∧ (((0 ≤ x1 ∧ x1 ≤ 2) → mA m2 (hoA A (Int.toNat x1))) ∧ (¬ (0 ≤ x1 ∧ x1 ≤ 2) → mA m2 A)) ∧ True) :=
  CK.mono (me_284 L.1 r_x1) (by decide) (fun m2 v _ h => ⟨(LI_D L h.1).1, ⟨⟨by rcases h.2.1.1.2 with q | q; exact Or.inl ⟨q.1, q.2.2.1, q.2.2.2⟩; exact Or.inr ⟨q.1, q.2.2⟩, kp_D h.1, kU_D h.1, by rcases h.2.1.1.2 with q | q; exact q.2.1; exact q.2.1⟩, tb_D tb h.1⟩, fun B b => cA_lo b (fun i j q => h.1.2.1 i j (sMd_lo q)), ⟨h.2.2 A O.1 O.2.1 O.2.2.1 M, trivial⟩⟩)
theorem lw_156 {m : Mm} {A : Ab} {x1 : Int}  (L : LIh m) (S : SA m A) (tb : tbB m)  (r_x1 : rg x1) : CK 60 156 [.ref 0, iv x1] m (fun m2 v => LIh m2 ∧ ((KK m m2 ∧ ((v = 1 ∧ (0 ≤ x1 ∧ x1 ≤ 2) ∧ ¬ rd m 58 (Int.toNat x1) = 0) ∨ (v = 0 ∧ ((x1 < 0 ∨ 2 < x1) ∨ rd m 58 (Int.toNat x1) = 0)))) ∧ tbB m2) ∧ mA m2 A ∧ ((v = 0 ∧ cA m2 A) ∨ (v = 1 ∧ (0 ≤ x1 ∧ x1 ≤ 2) ∧ ¬ rd m 58 (Int.toNat x1) = 0 ∧ cA m2 (reA A (Int.toNat x1))))) :=
  CK.mono (fy_156 (CIX_rf L) r_x1) (by decide) (fun m2 v _ h => ⟨(LI_C L h.1).1, ⟨⟨⟨h.2.1.1.2.1, kM_C h.1⟩, h.2.1.1.2.2⟩, tb_C tb h.1 h.2.2⟩, mA_hi S.2.1 (ty_284_18 L.1) (fun i j q => (h.1.2.2 i j q).1), h.2.1.2 A S.1⟩)
theorem lw_285 {m : Mm} {A : Ab} {x1 : Int}  (L : LIh m) (M : mA m A) (O : oA A) (tb : tbB m)  (r_x1 : rg x1) : CK 60 285 [.ref 284, iv x1] m (fun m2 v => LIh m2 ∧ ((KK m m2 ∧ ((v = 1 ∧ (0 ≤ x1 ∧ x1 ≤ 2) ∧ ¬ rd m 339 (Int.toNat x1) = 0) ∨ (v = 0 ∧ ((x1 < 0 ∨ 2 < x1) ∨ rd m 339 (Int.toNat x1) = 0)))) ∧ tbB m2) ∧ (∀ B, cA m B → cA m2 B) ∧ ((v = 0 ∧ mA m2 A) ∨ (v = 1 ∧ mA m2 (reA A (Int.toNat x1))))) :=
  CK.mono (me_285 L.1 r_x1) (by decide) (fun m2 v _ h => ⟨(LI_D L h.1).1, ⟨⟨⟨kp_D h.1, kM_D h.1 h.2.1.1.2.1⟩, h.2.1.1.2.2⟩, tb_D tb h.1⟩, fun B b => cA_lo b (fun i j q => h.1.2.1 i j (sMd_lo q)), h.2.2 A O.1 O.2.1 O.2.2.1 M⟩)
def alk (m : Mm) : Prop := rd m 1 0 = rd m 284 2 ∧ (∀ j : Nat, (j : Int) < rd m 1 0 → rd m 5 j = rd m 285 j) ∧ rd m 19 0 = rd m 284 17 ∧ rd m 49 0 = rd m 284 72 ∧ (∀ s : Nat, s < 3 → rd m 58 s = rd m 339 s) ∧ (∀ q : Nat, q < 21 → ld m 6 q = ld m00 6 q) ∧ ∀ q : Nat, q < 21 → ld m 291 q = ld m00 6 q
def LW (m : Mm) : Prop := LIh m ∧ alk m
def LZ (m : Mm) : Prop := LW m ∧ (∃ A, SA m A) ∧ tbB m
theorem wd_inj : ∀ p q : Nat, p < 21 → q < 21 → ld m00 6 p = ld m00 6 q → p = q := by
  have h : ∀ p : Nat, p < 21 → ∀ q : Nat, q < 21 → ld m00 6 p = ld m00 6 q → p = q := by decide +kernel
  exact fun p q a b => h p a q b
theorem uB_e {m : Mm} {r r2 j : Nat} {m2 : Mm} (e : rd m r j = rd m2 r2 j) : uB m r j = uB m2 r2 j := by unfold uB; rw [e]
section LWS
variable {m m1 m2 : Mm} {A : Ab} {x1 x2 x3 x4 x5 v1 v2 : Int}
theorem lw_kk (L : LW m) (a : KK m m1) (h : LIh m2 ∧ KK m1 m2) : LW m2 := by
  obtain ⟨-, a1, a2, a3, a4, a5, a6, a7⟩ := L
  obtain ⟨⟨b1, b2, b3, b4, b5, b6⟩, c1, c2, c3, c4, c5, c6⟩ := a
  obtain ⟨L2, ⟨d1, d2, d3, d4, d5, d6⟩, e1, e2, e3, e4, e5, e6⟩ := h
  refine ⟨L2, by omega, fun j hj => ?_, by omega, by omega, fun s hs => ?_, fun q hq => ?_, fun q hq => ?_⟩
  · rw [d1, b1, e2, c2]; exact a2 j (by omega)
  · rw [d6, b6, e5, c5]; exact a5 s hs
  · rw [d3, b3]; exact a6 q hq
  · rw [e6, c6]; exact a7 q hq
theorem lw_fe (L : LW m) (h1 : feR m m1 5 1 0 x1 x2 x3 x4 x5 ∧ kO m m1 ∧ kM m m1) (h2 : LIh m2 ∧ feR m1 m2 285 284 2 x1 x2 x3 x4 x5 ∧ kp m1 m2 ∧ kT m1 m2) (t : 0 ≤ rd m 1 0) : LW m2 := by
  obtain ⟨-, a1, a2, a3, a4, a5, a6, a7⟩ := L
  obtain ⟨f1, ⟨b1, b2, b3, b4⟩, c1, c2, c3, c4, c5, c6⟩ := h1
  obtain ⟨L2, f2, ⟨d1, d2, d3, d4, d5, d6⟩, e1, e2, e3, e4⟩ := h2
  have sz : rd m2 1 0 = rd m2 284 2 ∧ ∀ j : Nat, (j : Int) < rd m2 1 0 → rd m2 5 j = rd m2 285 j := by
    rcases f1 with ⟨p1, p2, p3, p4⟩ | ⟨p1, p2, p3⟩
    · rcases f2 with ⟨q1, q2, q3, q4⟩ | ⟨q1, -⟩
      · refine ⟨by omega, fun j hj => ?_⟩
        by_cases w : (j : Int) < rd m 1 0
        · rw [d1, p3 j w, q3 j (by omega), c2]; exact a2 j w
        · have ej : j = Int.toNat (rd m 1 0) + (j - Int.toNat (rd m 1 0)) := by omega
          have y1 := p4 (j - Int.toNat (rd m 1 0)) (by omega)
          have y2 := q4 (j - Int.toNat (rd m 1 0)) (by omega)
          rw [show Int.toNat (rd m1 284 2) = Int.toNat (rd m 1 0) by omega] at y2
          rw [← ej] at y1 y2
          rw [d1, y1, y2]
      · omega
    · rcases f2 with ⟨q1, -⟩ | ⟨q1, q2, q3⟩
      · omega
      · exact ⟨by omega, fun j hj => by rw [d1, p3, q3, c2]; exact a2 j (by omega)⟩
  refine ⟨L2, sz.1, sz.2, by omega, by omega, fun s hs => ?_, fun q hq => ?_, fun q hq => ?_⟩
  · rw [d6, b4, e3, c5]; exact a5 s hs
  · rw [d3, b2]; exact a6 q hq
  · rw [e4, c6]; exact a7 q hq
theorem lw_ba (L : LW m) (h1 : ((0 ≤ x1 ∧ x1 ≤ rd m 1 0 ∧ v1 = rd m 1 0 - x1 ∧ rd m1 1 0 = rd m 1 0 - x1) ∨ (¬ (0 ≤ x1 ∧ x1 ≤ rd m 1 0) ∧ v1 = -1 ∧ rd m1 1 0 = rd m 1 0)) ∧ ks m m1 ∧ kM m m1) (h2 : LIh m2 ∧ ((0 ≤ x1 ∧ x1 ≤ rd m1 284 2 ∧ v2 = rd m1 284 2 - x1 ∧ rd m2 284 2 = rd m1 284 2 - x1) ∨ (¬ (0 ≤ x1 ∧ x1 ≤ rd m1 284 2) ∧ v2 = -1 ∧ rd m2 284 2 = rd m1 284 2)) ∧ (∀ j, rd m2 285 j = rd m1 285 j) ∧ kp m1 m2 ∧ kT m1 m2) : LW m2 := by
  obtain ⟨-, a1, a2, a3, a4, a5, a6, a7⟩ := L
  obtain ⟨f1, ⟨b1, b2, b3, b4, b5⟩, c1, c2, c3, c4, c5, c6⟩ := h1
  obtain ⟨L2, f2, g2, ⟨d1, d2, d3, d4, d5, d6⟩, e1, e2, e3, e4⟩ := h2
  refine ⟨L2, by omega, fun j hj => ?_, by omega, by omega, fun s hs => ?_, fun q hq => ?_, fun q hq => ?_⟩
  · rw [d1, b1, g2, c2]; exact a2 j (by omega)
  · rw [d6, b5, e3, c5]; exact a5 s hs
  · rw [d3, b3]; exact a6 q hq
  · rw [e4, c6]; exact a7 q hq
theorem rd_pre (L : LW m) (h1 : rd m1 1 0 = 0 ∧ rdE m m1 v1 ∧ kM m m1) : rdPre (uB m 5) (rd m 1 0) (ld m 6) m1 := by
  obtain ⟨-, a1, a2, a3, a4, a5, a6, a7⟩ := L
  obtain ⟨-, r, c1, c2, c3, c4, c5, c6⟩ := h1
  refine ⟨r.1, by omega, fun j hj => uB_e ?_, fun q hq => ?_, fun p q hp hq e => ?_⟩
  · rw [c2]; exact (a2 j hj).symm
  · rw [c6, a7 q hq, a6 q hq]
  · rw [a6 p hp, a6 q hq] at e
    exact wd_inj p q hp hq e
theorem ans_u {X : Tk} {n v p v2 p2 : Int} (h : ansP X n v p) (k : ansP X n v2 p2) : v = v2 ∧ p = p2 := by
  rcases h with ⟨h1, h2, h3⟩ | ⟨h1, h2, h3, h4⟩ | ⟨h1, h2, h3, h4, h5⟩ | ⟨h1, h2, h3, h4, h5⟩
  · rcases k with ⟨k1, k2, k3⟩ | ⟨k1, k2, k3, k4⟩ | ⟨k1, k2, k3, k4, k5⟩ | ⟨k1, k2, k3, k4, k5⟩
    · exact ⟨by omega, by omega⟩
    · exact absurd k1 h1
    · exact absurd k1 h1
    · exact absurd k1 h1
  · rcases k with ⟨k1, k2, k3⟩ | ⟨k1, k2, k3, k4⟩ | ⟨k1, k2, k3, k4, k5⟩ | ⟨k1, k2, k3, k4, k5⟩
    · exact absurd h1 k1
    · exact ⟨by omega, by omega⟩
    · exact absurd k2 h2
    · exact absurd k2 h2
  · rcases k with ⟨k1, k2, k3⟩ | ⟨k1, k2, k3, k4⟩ | ⟨k1, k2, k3, k4, k5⟩ | ⟨k1, k2, k3, k4, k5⟩
    · exact absurd h1 k1
    · exact absurd h2 k2
    · exact ⟨by omega, by omega⟩
    · exact absurd h3 k3
  · rcases k with ⟨k1, k2, k3⟩ | ⟨k1, k2, k3, k4⟩ | ⟨k1, k2, k3, k4, k5⟩ | ⟨k1, k2, k3, k4, k5⟩
    · exact absurd h1 k1
    · exact absurd h2 k2
    · exact absurd k3 h3
    · exact ⟨by omega, by omega⟩
theorem re_v (h1 : rd m1 1 0 = 0 ∧ rdE m m1 v1 ∧ kM m m1) (h2 : LIh m2 ∧ rd m2 284 2 = 0 ∧ rdM m1 m2 (rd m 1 0) v2 ∧ kp m1 m2) : v1 = v2 ∧ rd m1 19 0 = rd m2 284 17 := by
  have a := h1.2.1.2.1
  have b := h2.2.2.1.1
  rw [h2.2.2.1.2.1] at b
  exact ans_u a b
theorem lw_re (L : LW m) (h1 : rd m1 1 0 = 0 ∧ rdE m m1 v1 ∧ kM m m1) (h2 : LIh m2 ∧ rd m2 284 2 = 0 ∧ rdM m1 m2 (rd m 1 0) v2 ∧ kp m1 m2) : LW m2 := by
  have e := re_v h1 h2
  obtain ⟨-, a1, a2, a3, a4, a5, a6, a7⟩ := L
  obtain ⟨z1, ⟨-, -, r3, r4, r5, r6⟩, c1, c2, c3, c4, c5, c6⟩ := h1
  obtain ⟨L2, z2, ⟨-, -, q3, q4, q5, q6⟩, d1, d2, d3, d4, d5, d6⟩ := h2
  refine ⟨L2, by omega, fun j hj => by omega, by omega, ?_, fun s hs => ?_, fun q hq => ?_, fun q hq => ?_⟩
  · by_cases z : v1 = 0
    · have := (r5 z).1; have := (q5 (by omega)).1; omega
    · have := (r6 z).1; have := (q6 (by omega)).1; omega
  · by_cases z : v1 = 0
    · rw [d6, (r5 z).2 s hs, (q5 (by omega)).2 s hs]
    · rw [d6, (r6 z).2 s, (q6 (by omega)).2 s, c5]; exact a5 s hs
  · rw [d3, r4]; exact a6 q hq
  · rw [q4, c6]; exact a7 q hq
theorem lw_to (L : LW m) (h1 : rd m1 49 0 = rd m 49 0 + (rd m1 49 0 - rd m 49 0) ∧ kr m m1 ∧ kM m m1) (h2 : LIh m2 ∧ rd m2 284 72 = rd m1 49 0 ∧ kp m1 m2 ∧ kU m1 m2 ∧ ∀ j, rd m2 339 j = rd m1 339 j) : LW m2 := by
  obtain ⟨-, a1, a2, a3, a4, a5, a6, a7⟩ := L
  obtain ⟨-, ⟨b1, b2, b3, b4, b5⟩, c1, c2, c3, c4, c5, c6⟩ := h1
  obtain ⟨L2, t, ⟨d1, d2, d3, d4, d5, d6⟩, ⟨e1, e2, e3, e4⟩, g2⟩ := h2
  refine ⟨L2, by omega, fun j hj => ?_, by omega, by omega, fun s hs => ?_, fun q hq => ?_, fun q hq => ?_⟩
  · rw [d1, b1, e2, c2]; exact a2 j (by omega)
  · rw [d6, b5, g2, c5]; exact a5 s hs
  · rw [d3, b3]; exact a6 q hq
  · rw [e4, c6]; exact a7 q hq
theorem lw_ho (L : LW m) (h1 : (((0 ≤ x1 ∧ x1 ≤ 2) ∧ rd m1 58 (Int.toNat x1) = 1 ∧ ∀ j : Nat, ¬ j = Int.toNat x1 → rd m1 58 j = rd m 58 j) ∨ ((x1 < 0 ∨ 2 < x1) ∧ ∀ j, rd m1 58 j = rd m 58 j)) ∧ kq m m1 ∧ kM m m1) (h2 : LIh m2 ∧ (((0 ≤ x1 ∧ x1 ≤ 2) ∧ rd m2 339 (Int.toNat x1) = 1 ∧ ∀ j : Nat, ¬ j = Int.toNat x1 → rd m2 339 j = rd m1 339 j) ∨ ((x1 < 0 ∨ 2 < x1) ∧ ∀ j, rd m2 339 j = rd m1 339 j)) ∧ kp m1 m2 ∧ kU m1 m2 ∧ rd m2 284 72 = rd m1 284 72) : LW m2 := by
  obtain ⟨-, a1, a2, a3, a4, a5, a6, a7⟩ := L
  obtain ⟨f1, ⟨b1, b2, b3, b4, b5⟩, c1, c2, c3, c4, c5, c6⟩ := h1
  obtain ⟨L2, f2, ⟨d1, d2, d3, d4, d5, d6⟩, ⟨e1, e2, e3, e4⟩, g2⟩ := h2
  refine ⟨L2, by omega, fun j hj => ?_, by omega, by omega, fun s hs => ?_, fun q hq => ?_, fun q hq => ?_⟩
  · rw [d1, b1, e2, c2]; exact a2 j (by omega)
  · rw [d6]
    rcases f1 with ⟨p1, p2, p3⟩ | ⟨p1, p2⟩
    · rcases f2 with ⟨-, q2, q3⟩ | ⟨q1, -⟩
      · by_cases w : s = Int.toNat x1
        · subst w; rw [p2, q2]
        · rw [p3 s w, q3 s w, c5]; exact a5 s hs
      · omega
    · rcases f2 with ⟨q1, -⟩ | ⟨-, q2⟩
      · omega
      · rw [p2, q2, c5]; exact a5 s hs
  · rw [d3, b3]; exact a6 q hq
  · rw [e4, c6]; exact a7 q hq
/-! one step of what both are about -/
theorem as_tip (S : SA m A) (C : ((((0 ≤ x1 ∧ x1 < A.Y 3) ∧ (0 ≤ x2 ∧ x2 ≤ 3) ∧ canN A.Y A.r x1 x2) ∧ cA m1 (noA A (tiN A.Y A.E A.r x1 x2)) ∧ v1 = fC (tiN A.Y A.E A.r x1 x2) x1) ∨ (¬ ((0 ≤ x1 ∧ x1 < A.Y 3) ∧ (0 ≤ x2 ∧ x2 ≤ 3) ∧ canN A.Y A.r x1 x2) ∧ cA m1 A ∧ v1 = -1))) (M : ((((0 ≤ x1 ∧ x1 < A.Y 3) ∧ (0 ≤ x2 ∧ x2 ≤ 3) ∧ canN A.Y A.r x1 x2) ∧ mA m2 (noA A (tiN A.Y A.E A.r x1 x2)) ∧ v2 = fC (tiN A.Y A.E A.r x1 x2) x1) ∨ (¬ ((0 ≤ x1 ∧ x1 < A.Y 3) ∧ (0 ≤ x2 ∧ x2 ≤ 3) ∧ canN A.Y A.r x1 x2) ∧ mA m2 A ∧ v2 = -1))) (cc : ∀ B, cA m1 B → cA m2 B) : v1 = v2 ∧ ∃ A2, SA m2 A2 := by
  rcases C with ⟨a, b, c⟩ | ⟨a, b, c⟩ <;> rcases M with ⟨d, e, f⟩ | ⟨d, e, f⟩
  · exact ⟨c.trans f.symm, _, cc _ b, e, zs_n2 S.2.2 S.1.2.2.2.1.2 (ozS_ti S.1.2.1 ⟨⟨S.1.2.2.1.1, S.2.2.1.1⟩, S.2.2.2.1⟩ a.1 a.2.1 a.2.2)⟩
  · exact absurd a d
  · exact absurd d a
  · exact ⟨c.trans f.symm, A, cc _ b, e, S.2.2⟩
theorem as_paint (S : SA m A) (C : ((paP A x1 x2 ∧ cA m1 (noA A (ro_u A.r (Int.toNat x1) x2)) ∧ v1 = 1) ∨ (¬ paP A x1 x2 ∧ cA m1 A ∧ v1 = 0))) (M : ((paP A x1 x2 ∧ mA m2 (noA A (ro_u A.r (Int.toNat x1) x2)) ∧ v2 = 1) ∨ (¬ paP A x1 x2 ∧ mA m2 A ∧ v2 = 0))) (cc : ∀ B, cA m1 B → cA m2 B) : v1 = v2 ∧ ∃ A2, SA m2 A2 := by
  rcases C with ⟨a, b, c⟩ | ⟨a, b, c⟩ <;> rcases M with ⟨d, e, f⟩ | ⟨d, e, f⟩
  · exact ⟨c.trans f.symm, _, cc _ b, e, zs_no S.2.2 S.1.2.2.2.1.2 (zR_pa S.2.2.1.1 a.1 (wh_b S.1.2.1.1 S.1.2.1.2.1).2 S.1.2.1.2.2.1) (zS_pa S.2.2.2.1 a.1 (wh_b S.1.2.1.1 S.1.2.1.2.1).2 S.1.2.1.2.2.1)⟩
  · exact absurd a d
  · exact absurd d a
  · exact ⟨c.trans f.symm, A, cc _ b, e, S.2.2⟩
theorem as_min (S : SA m A) (C : ((¬ (0 ≤ x1 ∧ x1 ≤ 60) ∧ cA m1 A ∧ v1 = -1) ∨ (x1 = 0 ∧ cA m1 A ∧ v1 = A.r 49) ∨ ((1 ≤ x1 ∧ x1 ≤ 60) ∧ cA m1 (noA A (goN A.Y A.E (A.Y 4) A.r (Int.toNat x1))) ∧ v1 = goN A.Y A.E (A.Y 4) A.r (Int.toNat x1) 49))) (M : ((¬ (0 ≤ x1 ∧ x1 ≤ 60) ∧ mA m2 A ∧ v2 = -1) ∨ (x1 = 0 ∧ mA m2 A ∧ v2 = A.r 49) ∨ ((1 ≤ x1 ∧ x1 ≤ 60) ∧ mA m2 (noA A (goN A.Y A.E (A.Y 4) A.r (Int.toNat x1))) ∧ v2 = goN A.Y A.E (A.Y 4) A.r (Int.toNat x1) 49))) (cc : ∀ B, cA m1 B → cA m2 B) : v1 = v2 ∧ ∃ A2, SA m2 A2 := by
  rcases C with ⟨a, b, c⟩ | ⟨a, b, c⟩ | ⟨a, b, c⟩ <;> rcases M with ⟨d, e, f⟩ | ⟨d, e, f⟩ | ⟨d, e, f⟩
  · exact ⟨c.trans f.symm, A, cc _ b, e, S.2.2⟩
  · omega
  · omega
  · omega
  · exact ⟨c.trans f.symm, A, cc _ b, e, S.2.2⟩
  · omega
  · omega
  · omega
  · exact ⟨c.trans f.symm, _, cc _ b, e, zs_n2 S.2.2 S.1.2.2.2.1.2 (ozS_go S.1.2.1 ⟨⟨S.1.2.2.1.1, S.2.2.1.1⟩, S.2.2.2.1⟩ _)⟩
theorem as_undo (S : SA m A) (C : ((v1 = 0 ∧ A.n = 0 ∧ cA m1 A) ∨ (v1 = 1 ∧ ¬ A.n = 0 ∧ cA m1 (unB A)))) (M : ((v2 = 0 ∧ A.n = 0 ∧ mA m2 A) ∨ (v2 = 1 ∧ ¬ A.n = 0 ∧ mA m2 (unB A)))) (cc : ∀ B, cA m1 B → cA m2 B) : v1 = v2 ∧ ∃ A2, SA m2 A2 := by
  rcases C with ⟨c, a, b⟩ | ⟨c, a, b⟩ <;> rcases M with ⟨f, d, e⟩ | ⟨f, d, e⟩
  · exact ⟨c.trans f.symm, A, cc _ b, e, S.2.2⟩
  · exact absurd a d
  · exact absurd d a
  · exact ⟨c.trans f.symm, _, cc _ b, e, zs_un S.2.2 a⟩
theorem as_hold (S : SA m A) (C : (((0 ≤ x1 ∧ x1 ≤ 2) → cA m1 (hoA A (Int.toNat x1))) ∧ (¬ (0 ≤ x1 ∧ x1 ≤ 2) → cA m1 A))) (M : (((0 ≤ x1 ∧ x1 ≤ 2) → mA m2 (hoA A (Int.toNat x1))) ∧ (¬ (0 ≤ x1 ∧ x1 ≤ 2) → mA m2 A))) (cc : ∀ B, cA m1 B → cA m2 B) : ∃ A2, SA m2 A2 := by
  by_cases h : 0 ≤ x1 ∧ x1 ≤ 2
  · exact ⟨_, cc _ (C.1 h), M.1 h, zs_ho S.2.2⟩
  · exact ⟨A, cc _ (C.2 h), M.2 h, S.2.2⟩
theorem as_rest (S : SA m A) (C : (v1 = 0 ∧ cA m1 A) ∨ (v1 = 1 ∧ (0 ≤ x1 ∧ x1 ≤ 2) ∧ ¬ rd m 58 (Int.toNat x1) = 0 ∧ cA m1 (reA A (Int.toNat x1)))) (M : (v2 = 0 ∧ mA m2 A) ∨ (v2 = 1 ∧ mA m2 (reA A (Int.toNat x1)))) (cc : ∀ B, cA m1 B → cA m2 B) (ev : v1 = v2) : ∃ A2, SA m2 A2 := by
  rcases C with ⟨c, b⟩ | ⟨c, a, d, b⟩ <;> rcases M with ⟨f, e⟩ | ⟨f, e⟩
  · exact ⟨A, cc _ b, e, S.2.2⟩
  · omega
  · omega
  · exact ⟨_, cc _ b, e, zs_re S.2.2 (by omega) (by rw [← (S.1.2.2.2.2.2 (Int.toNat x1) (by omega)).1]; exact d)⟩
theorem as_read {n : Int} (S : SA m A) (C : rdN m m1 v1) (M1 : mA m1 A) (cc : ∀ B, cA m1 B → cA m2 B) (p : rdL m1 m2 v2) (r : rdM m1 m2 n v2) (ev : v1 = v2) (l : 0 ≤ rd m1 284 18 ∧ rd m1 284 18 ≤ 1) (tm2 : Ty m2) {k pp : Int} (an : ansP (tX m1) k v1 pp) : ∃ A2, SA m2 A2 := by
  obtain ⟨p, tb, x⟩ := p
  obtain ⟨-, -, -, -, q5, -⟩ := r
  by_cases z : v1 = 0
  · have c := C.1 z
    have q := p.1 (ev.symm.trans z)
    rw [x] at q
    exact ⟨_, cc _ c.1, bg_M q (tbM_fr M1.1.2.2 tb) (ls_W c.1.1.2.2) (q5 (ev.symm.trans z)).2 c.1.2.1.2.2.1, zs_bg c.2 (zS_read q.1 tm2 (ans_n an z) c.1.2.1)⟩
  · exact ⟨A, cc _ (C.2 z A S.1), kf_mA M1 (p.2 (fun w => z (ev.trans w))) l, S.2.2⟩
theorem as_look {p q : Prop} (S : SA m A) (C : cA m1 A ∧ p) (M : mA m2 A ∧ q) (cc : ∀ B, cA m1 B → cA m2 B) : ∃ A2, SA m2 A2 := ⟨A, cc _ C.1, M.1, S.2.2⟩
theorem ow_e {p : Prop} {a b : Int} (h : (¬ p ∧ v1 = a) ∨ (p ∧ v1 = b)) (k : (¬ p ∧ v2 = a) ∨ (p ∧ v2 = b)) : v1 = v2 := by
  rcases h with ⟨c, d⟩ | ⟨c, d⟩ <;> rcases k with ⟨e, f⟩ | ⟨e, f⟩
  · exact d.trans f.symm
  · exact absurd e c
  · exact absurd c e
  · exact d.trans f.symm
end LWS
