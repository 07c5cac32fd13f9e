/-! What range each place of memory keeps to -/
def ty51 (j : Nat) : Int × Int := if j % 51 < 43 then (0, 9) else if j % 51 < 46 then (0, 24) else ((-2147483648), 2147483647)
def tyS (r j : Nat) : Int × Int := if r = 0 then (if j = 4 then (0, 3) else ((-2147483648), 2147483647)) else if r = 1 then (0, 9) else if r = 2 then (-1, 24) else if r = 3 then (0, 9999) else ((-2147483648), 2147483647)
def tyT (i j : Nat) : Int × Int := bif Nat.blt i 341 then (bif Nat.blt i 58 then (bif Nat.blt i 29 then (bif Nat.blt i 14 then (bif Nat.blt i 7 then (bif Nat.blt i 3 then (bif Nat.blt i 1 then (((-2147483648), 2147483647)) else (bif Nat.blt i 2 then (bif Nat.beq j 0 then (0, 2000) else bif Nat.beq j 6 then (0, 2000) else ((-2147483648), 2147483647)) else ((-2147483648), 2147483647))) else (bif Nat.blt i 5 then (bif Nat.blt i 4 then ((-2147483648), 2147483647) else ((-2147483648), 2147483647)) else (bif Nat.blt i 6 then ((-128), 127) else ((-2147483648), 2147483647)))) else (bif Nat.blt i 10 then (bif Nat.blt i 8 then (bif Nat.beq j 0 then (2, 5) else bif Nat.beq j 1 then (2, 5) else bif Nat.beq j 3 then (0, 3) else ((-2147483648), 2147483647)) else (bif Nat.blt i 9 then (0, 9) else ((-1), 24))) else (bif Nat.blt i 12 then (bif Nat.blt i 11 then (0, 9999) else (bif Nat.beq j 4 then (0, 420) else ((-2147483648), 2147483647))) else (bif Nat.blt i 13 then ((-2147483648), 2147483647) else (0, 79999))))) else (bif Nat.blt i 21 then (bif Nat.blt i 17 then (bif Nat.blt i 15 then (0, 420) else (bif Nat.blt i 16 then ((-2147483648), 2147483647) else ((-2147483648), 2147483647))) else (bif Nat.blt i 19 then (bif Nat.blt i 18 then ((-2147483648), 2147483647) else ((-1), 24)) else (bif Nat.blt i 20 then (bif Nat.beq j 4 then (0, 400) else bif Nat.beq j 8 then (0, 9999) else bif Nat.beq j 9 then (0, 9999) else bif Nat.beq j 11 then (0, 8) else bif Nat.beq j 12 then (0, 10) else bif Nat.beq j 13 then (0, 3) else ((-2147483648), 2147483647)) else (bif Nat.beq j 4 then (0, 420) else ((-2147483648), 2147483647))))) else (bif Nat.blt i 25 then (bif Nat.blt i 23 then (bif Nat.blt i 22 then ((-2147483648), 2147483647) else (0, 79999)) else (bif Nat.blt i 24 then (0, 420) else ((-2147483648), 2147483647))) else (bif Nat.blt i 27 then (bif Nat.blt i 26 then (0, 9999) else (0, 9999)) else (bif Nat.blt i 28 then (0, 9999) else (0, 9999)))))) else (bif Nat.blt i 43 then (bif Nat.blt i 36 then (bif Nat.blt i 32 then (bif Nat.blt i 30 then ((-2147483648), 2147483647) else (bif Nat.blt i 31 then (((-2147483648), 2147483647)) else (((-2147483648), 2147483647)))) else (bif Nat.blt i 34 then (bif Nat.blt i 33 then (0, 5) else (0, 23)) else (bif Nat.blt i 35 then ((-2147483648), 2147483647) else ((-2147483648), 2147483647)))) else (bif Nat.blt i 39 then (bif Nat.blt i 37 then (bif Nat.beq j 1 then (0, 599) else ((-2147483648), 2147483647)) else (bif Nat.blt i 38 then ((-1), 24) else (0, 9))) else (bif Nat.blt i 41 then (bif Nat.blt i 40 then (bif Nat.beq j 0 then (0, 600) else bif Nat.beq j 7 then (44, 45) else bif Nat.beq j 8 then (44, 45) else ((-2147483648), 2147483647)) else (0, 599)) else (bif Nat.blt i 42 then ((-2147483648), 2147483647) else ((-1), 599))))) else (bif Nat.blt i 50 then (bif Nat.blt i 46 then (bif Nat.blt i 44 then ((-2147483648), 2147483647) else (bif Nat.blt i 45 then ((-2147483648), 2147483647) else ((-2147483648), 2147483647))) else (bif Nat.blt i 48 then (bif Nat.blt i 47 then ((-1), 599) else ((-1), 599)) else (bif Nat.blt i 49 then ((-1), 599) else (bif Nat.beq j 0 then (0, 20) else bif Nat.beq j 9 then (0, 20) else bif Nat.beq j 10 then (0, 5) else ((-2147483648), 2147483647))))) else (bif Nat.blt i 54 then (bif Nat.blt i 52 then (bif Nat.blt i 51 then (0, 5) else ((-2147483648), 2147483647)) else (bif Nat.blt i 53 then ((-2147483648), 2147483647) else (0, 9))) else (bif Nat.blt i 56 then (bif Nat.blt i 55 then ((-2147483648), 2147483647) else (bif Nat.beq j 0 then (0, 40) else bif Nat.beq j 4 then (0, 39) else ((-2147483648), 2147483647))) else (bif Nat.blt i 57 then ((-2147483648), 2147483647) else ((-2147483648), 2147483647))))))) else (bif Nat.blt i 312 then (bif Nat.blt i 297 then (bif Nat.blt i 290 then (bif Nat.blt i 286 then (bif Nat.blt i 284 then ((-2147483648), 2147483647) else (bif Nat.blt i 285 then (bif Nat.beq j 2 then (0, 2000) else bif Nat.beq j 4 then (0, 2000) else bif Nat.beq j 10 then (0, 402) else bif Nat.beq j 11 then (0, 400) else bif Nat.beq j 12 then (0, 9) else bif Nat.beq j 18 then (0, 1) else bif Nat.beq j 19 then (0, 1) else bif Nat.beq j 20 then (0, 3) else bif Nat.beq j 38 then (0, 260) else bif Nat.beq j 44 then (0, 840) else bif Nat.beq j 48 then (0, 64) else bif Nat.beq j 60 then (0, 40) else bif Nat.beq j 67 then (0, 600) else bif Nat.beq j 72 then (0, 20) else ((-2147483648), 2147483647)) else ((-128), 127))) else (bif Nat.blt i 288 then (bif Nat.blt i 287 then ((-128), 127) else (0, 40)) else (bif Nat.blt i 289 then ((-2147483648), 2147483647) else (0, 9999)))) else (bif Nat.blt i 293 then (bif Nat.blt i 291 then ((-2147483648), 2147483647) else (bif Nat.blt i 292 then ((-2147483648), 2147483647) else ((-2147483648), 2147483647))) else (bif Nat.blt i 295 then (bif Nat.blt i 294 then (0, 9999) else (0, 9999)) else (bif Nat.blt i 296 then (0, 8) else (0, 9999))))) else (bif Nat.blt i 304 then (bif Nat.blt i 300 then (bif Nat.blt i 298 then (0, 9999) else (bif Nat.blt i 299 then (0, 10) else (0, 9999))) else (bif Nat.blt i 302 then (bif Nat.blt i 301 then (0, 9999) else (0, 9999)) else (bif Nat.blt i 303 then (0, 3) else (0, 9999)))) else (bif Nat.blt i 308 then (bif Nat.blt i 306 then (bif Nat.blt i 305 then (0, 9999) else (0, 9999)) else (bif Nat.blt i 307 then (0, 9999) else (0, 260))) else (bif Nat.blt i 310 then (bif Nat.blt i 309 then (0, 260) else ((-2147483648), 2147483647)) else (bif Nat.blt i 311 then (0, 840) else (0, 840)))))) else (bif Nat.blt i 326 then (bif Nat.blt i 319 then (bif Nat.blt i 315 then (bif Nat.blt i 313 then (0, 840) else (bif Nat.blt i 314 then (0, 840) else (0, 5))) else (bif Nat.blt i 317 then (bif Nat.blt i 316 then (0, 9999) else ((-2147483648), 2147483647)) else (bif Nat.blt i 318 then ((-2147483648), 2147483647) else ((-2147483648), 2147483647)))) else (bif Nat.blt i 322 then (bif Nat.blt i 320 then (0, 5) else (bif Nat.blt i 321 then (0, 23) else (0, 9))) else (bif Nat.blt i 324 then (bif Nat.blt i 323 then ty51 j else ty51 j) else (bif Nat.blt i 325 then ty51 j else ((-1), 599))))) else (bif Nat.blt i 333 then (bif Nat.blt i 329 then (bif Nat.blt i 327 then ((-2147483648), 2147483647) else (bif Nat.blt i 328 then (0, 599) else ((-2147483648), 2147483647))) else (bif Nat.blt i 331 then (bif Nat.blt i 330 then (0, 599) else ((-2147483648), 2147483647)) else (bif Nat.blt i 332 then (0, 99) else ((-2147483648), 2147483647)))) else (bif Nat.blt i 337 then (bif Nat.blt i 335 then (bif Nat.blt i 334 then ((-2147483648), 2147483647) else (0, 5)) else (bif Nat.blt i 336 then ((-2147483648), 2147483647) else ((-2147483648), 2147483647))) else (bif Nat.blt i 339 then (bif Nat.blt i 338 then (0, 9) else ((-2147483648), 2147483647)) else (bif Nat.blt i 340 then ((-2147483648), 2147483647) else ty51 j))))))) else ((-2147483648), 2147483647)
def tyB (i j : Nat) : Int × Int := if 59 ≤ i ∧ i < 284 then tyS ((i - 59) % 5) j else tyT i j
def Ty (m : Mm) : Prop := ∀ i j, (tyB i j).1 ≤ rd m i j ∧ rd m i j ≤ (tyB i j).2
theorem Ty.wt {m : Mm} {i j : Nat} {v : Int} (h : Ty m) (hr : rg v) (hb : (tyB i j).1 ≤ v ∧ v ≤ (tyB i j).2) : Ty (wt m i j v) := by
  intro a b
  rw [rd_wt]
  by_cases e : a = i ∧ b = j
  · rw [if_pos e, wr_i hr, e.1, e.2]
    exact hb
  · rw [if_neg e]
    exact h a b
theorem Ty.wl {m : Mm} {i j : Nat} {v : Int} (h : Ty m) : Ty (wl m i j v) := h
theorem Ty.cp {m : Mm} {b sp d dp n : Nat} (h : Ty m) (hb : ∀ j, dp ≤ j → j < dp + n → (tyB d j).1 ≤ rd m b (j - dp + sp) ∧ rd m b (j - dp + sp) ≤ (tyB d j).2) : Ty (cpm m b sp d dp n) := by
  intro x y
  rw [rd_cpm]
  by_cases e : x = d ∧ dp ≤ y ∧ y < dp + n
  · rw [if_pos e, e.1]
    exact hb y e.2.1 e.2.2
  · rw [if_neg e]
    exact h x y
theorem tyB_st {a : Nat} (h : isSt a) (j : Nat) : tyB a j = tyS 0 j ∧ tyB (a + 1) j = tyS 1 j ∧ tyB (a + 2) j = tyS 2 j ∧ tyB (a + 3) j = tyS 3 j ∧ tyB (a + 4) j = tyS 4 j := by
  unfold isSt at h
  unfold tyB
  refine ⟨?_, ?_, ?_, ?_, ?_⟩
  all_goals (rw [if_pos (by omega)]; congr 1; omega)
theorem ty_s4 {m : Mm} {a : Nat} (h : Ty m) (ha : isSt a) : 0 ≤ rd m a 4 ∧ rd m a 4 ≤ 3 := by have := h a 4; rw [(tyB_st ha 4).1] at this; exact this
theorem ty_sM {m : Mm} {a : Nat} (h : Ty m) (ha : isSt a) (j : Nat) : 0 ≤ rd m (a + 1) j ∧ rd m (a + 1) j ≤ 9 := by have := h (a + 1) j; rw [(tyB_st ha j).2.1] at this; exact this
theorem ty_sF {m : Mm} {a : Nat} (h : Ty m) (ha : isSt a) (j : Nat) : -1 ≤ rd m (a + 2) j ∧ rd m (a + 2) j ≤ 24 := by have := h (a + 2) j; rw [(tyB_st ha j).2.2.1] at this; exact this
theorem ty_sC {m : Mm} {a : Nat} (h : Ty m) (ha : isSt a) (j : Nat) : 0 ≤ rd m (a + 3) j ∧ rd m (a + 3) j ≤ 9999 := by have := h (a + 3) j; rw [(tyB_st ha j).2.2.2.1] at this; exact this
theorem tw_s4 {m : Mm} {a : Nat} {v : Int} (h : Ty m) (ha : isSt a) (hv : 0 ≤ v ∧ v ≤ 3) : Ty (wt m a 4 v) := h.wt (by unfold rg; omega) (by rw [(tyB_st ha 4).1]; exact hv)
theorem tw_s5 {m : Mm} {a : Nat} {v : Int} (h : Ty m) (ha : isSt a) (hv : rg v) : Ty (wt m a 5 v) := h.wt hv (by rw [(tyB_st ha 5).1]; exact hv)
theorem tw_s6 {m : Mm} {a : Nat} {v : Int} (h : Ty m) (ha : isSt a) (hv : rg v) : Ty (wt m a 6 v) := h.wt hv (by rw [(tyB_st ha 6).1]; exact hv)
theorem tw_sM {m : Mm} {a j : Nat} {v : Int} (h : Ty m) (ha : isSt a) (hv : 0 ≤ v ∧ v ≤ 9) : Ty (wt m (a + 1) j v) := h.wt (by unfold rg; omega) (by rw [(tyB_st ha j).2.1]; exact hv)
theorem tw_sF {m : Mm} {a j : Nat} {v : Int} (h : Ty m) (ha : isSt a) (hv : -1 ≤ v ∧ v ≤ 24) : Ty (wt m (a + 2) j v) := h.wt (by unfold rg; omega) (by rw [(tyB_st ha j).2.2.1]; exact hv)
theorem tw_sC {m : Mm} {a j : Nat} {v : Int} (h : Ty m) (ha : isSt a) (hv : 0 ≤ v ∧ v ≤ 9999) : Ty (wt m (a + 3) j v) := h.wt (by unfold rg; omega) (by rw [(tyB_st ha j).2.2.2.1]; exact hv)
theorem tw_sT {m : Mm} {a j : Nat} {v : Int} (h : Ty m) (ha : isSt a) (hv : rg v) : Ty (wt m (a + 4) j v) := h.wt hv (by rw [(tyB_st ha j).2.2.2.2]; exact hv)
theorem ty_1_0 {m : Mm} (h : Ty m) : 0 ≤ rd m 1 0 ∧ rd m 1 0 ≤ 2000 := h 1 0
theorem tw_1_0 {m : Mm} {v : Int} (h : Ty m) (hv : 0 ≤ v ∧ v ≤ 2000) : Ty (wt m 1 0 v) := h.wt (by unfold rg; omega) hv
theorem ty_1_6 {m : Mm} (h : Ty m) : 0 ≤ rd m 1 6 ∧ rd m 1 6 ≤ 2000 := h 1 6
theorem tw_1_6 {m : Mm} {v : Int} (h : Ty m) (hv : 0 ≤ v ∧ v ≤ 2000) : Ty (wt m 1 6 v) := h.wt (by unfold rg; omega) hv
theorem tw_2 {m : Mm} {j : Nat} {v : Int} (h : Ty m) (hv : rg v) : Ty (wt m 2 j v) := h.wt hv hv
theorem tw_3 {m : Mm} {j : Nat} {v : Int} (h : Ty m) (hv : rg v) : Ty (wt m 3 j v) := h.wt hv hv
theorem ty_5 {m : Mm} (h : Ty m) (j : Nat) : (-128) ≤ rd m 5 j ∧ rd m 5 j ≤ 127 := h 5 j
theorem tw_5 {m : Mm} {j : Nat} {v : Int} (h : Ty m) (hv : (-128) ≤ v ∧ v ≤ 127) : Ty (wt m 5 j v) := h.wt (by unfold rg; omega) hv
theorem ty_7_0 {m : Mm} (h : Ty m) : 2 ≤ rd m 7 0 ∧ rd m 7 0 ≤ 5 := h 7 0
theorem tw_7_0 {m : Mm} {v : Int} (h : Ty m) (hv : 2 ≤ v ∧ v ≤ 5) : Ty (wt m 7 0 v) := h.wt (by unfold rg; omega) hv
theorem ty_7_1 {m : Mm} (h : Ty m) : 2 ≤ rd m 7 1 ∧ rd m 7 1 ≤ 5 := h 7 1
theorem tw_7_1 {m : Mm} {v : Int} (h : Ty m) (hv : 2 ≤ v ∧ v ≤ 5) : Ty (wt m 7 1 v) := h.wt (by unfold rg; omega) hv
theorem tw_7_2 {m : Mm} {v : Int} (h : Ty m) (hv : rg v) : Ty (wt m 7 2 v) := h.wt hv hv
theorem ty_7_3 {m : Mm} (h : Ty m) : 0 ≤ rd m 7 3 ∧ rd m 7 3 ≤ 3 := h 7 3
theorem tw_7_3 {m : Mm} {v : Int} (h : Ty m) (hv : 0 ≤ v ∧ v ≤ 3) : Ty (wt m 7 3 v) := h.wt (by unfold rg; omega) hv
theorem tw_7_4 {m : Mm} {v : Int} (h : Ty m) (hv : rg v) : Ty (wt m 7 4 v) := h.wt hv hv
theorem ty_8 {m : Mm} (h : Ty m) (j : Nat) : 0 ≤ rd m 8 j ∧ rd m 8 j ≤ 9 := h 8 j
theorem tw_8 {m : Mm} {j : Nat} {v : Int} (h : Ty m) (hv : 0 ≤ v ∧ v ≤ 9) : Ty (wt m 8 j v) := h.wt (by unfold rg; omega) hv
theorem ty_9 {m : Mm} (h : Ty m) (j : Nat) : (-1) ≤ rd m 9 j ∧ rd m 9 j ≤ 24 := h 9 j
theorem tw_9 {m : Mm} {j : Nat} {v : Int} (h : Ty m) (hv : (-1) ≤ v ∧ v ≤ 24) : Ty (wt m 9 j v) := h.wt (by unfold rg; omega) hv
theorem ty_10 {m : Mm} (h : Ty m) (j : Nat) : 0 ≤ rd m 10 j ∧ rd m 10 j ≤ 9999 := h 10 j
theorem tw_10 {m : Mm} {j : Nat} {v : Int} (h : Ty m) (hv : 0 ≤ v ∧ v ≤ 9999) : Ty (wt m 10 j v) := h.wt (by unfold rg; omega) hv
theorem ty_11_4 {m : Mm} (h : Ty m) : 0 ≤ rd m 11 4 ∧ rd m 11 4 ≤ 420 := h 11 4
theorem tw_11_4 {m : Mm} {v : Int} (h : Ty m) (hv : 0 ≤ v ∧ v ≤ 420) : Ty (wt m 11 4 v) := h.wt (by unfold rg; omega) hv
theorem tw_12 {m : Mm} {j : Nat} {v : Int} (h : Ty m) (hv : rg v) : Ty (wt m 12 j v) := h.wt hv hv
theorem ty_13 {m : Mm} (h : Ty m) (j : Nat) : 0 ≤ rd m 13 j ∧ rd m 13 j ≤ 79999 := h 13 j
theorem tw_13 {m : Mm} {j : Nat} {v : Int} (h : Ty m) (hv : 0 ≤ v ∧ v ≤ 79999) : Ty (wt m 13 j v) := h.wt (by unfold rg; omega) hv
theorem ty_14 {m : Mm} (h : Ty m) (j : Nat) : 0 ≤ rd m 14 j ∧ rd m 14 j ≤ 420 := h 14 j
theorem tw_14 {m : Mm} {j : Nat} {v : Int} (h : Ty m) (hv : 0 ≤ v ∧ v ≤ 420) : Ty (wt m 14 j v) := h.wt (by unfold rg; omega) hv
theorem tw_15 {m : Mm} {j : Nat} {v : Int} (h : Ty m) (hv : rg v) : Ty (wt m 15 j v) := h.wt hv hv
theorem tw_16 {m : Mm} {j : Nat} {v : Int} (h : Ty m) (hv : rg v) : Ty (wt m 16 j v) := h.wt hv hv
theorem tw_17 {m : Mm} {j : Nat} {v : Int} (h : Ty m) (hv : rg v) : Ty (wt m 17 j v) := h.wt hv hv
theorem ty_18 {m : Mm} (h : Ty m) (j : Nat) : (-1) ≤ rd m 18 j ∧ rd m 18 j ≤ 24 := h 18 j
theorem tw_18 {m : Mm} {j : Nat} {v : Int} (h : Ty m) (hv : (-1) ≤ v ∧ v ≤ 24) : Ty (wt m 18 j v) := h.wt (by unfold rg; omega) hv
theorem tw_19_0 {m : Mm} {v : Int} (h : Ty m) (hv : rg v) : Ty (wt m 19 0 v) := h.wt hv hv
theorem ty_19_4 {m : Mm} (h : Ty m) : 0 ≤ rd m 19 4 ∧ rd m 19 4 ≤ 400 := h 19 4
theorem tw_19_4 {m : Mm} {v : Int} (h : Ty m) (hv : 0 ≤ v ∧ v ≤ 400) : Ty (wt m 19 4 v) := h.wt (by unfold rg; omega) hv
theorem tw_19_5 {m : Mm} {v : Int} (h : Ty m) (hv : rg v) : Ty (wt m 19 5 v) := h.wt hv hv
theorem tw_19_6 {m : Mm} {v : Int} (h : Ty m) (hv : rg v) : Ty (wt m 19 6 v) := h.wt hv hv
theorem tw_19_7 {m : Mm} {v : Int} (h : Ty m) (hv : rg v) : Ty (wt m 19 7 v) := h.wt hv hv
theorem ty_19_8 {m : Mm} (h : Ty m) : 0 ≤ rd m 19 8 ∧ rd m 19 8 ≤ 9999 := h 19 8
theorem tw_19_8 {m : Mm} {v : Int} (h : Ty m) (hv : 0 ≤ v ∧ v ≤ 9999) : Ty (wt m 19 8 v) := h.wt (by unfold rg; omega) hv
theorem ty_19_9 {m : Mm} (h : Ty m) : 0 ≤ rd m 19 9 ∧ rd m 19 9 ≤ 9999 := h 19 9
theorem tw_19_9 {m : Mm} {v : Int} (h : Ty m) (hv : 0 ≤ v ∧ v ≤ 9999) : Ty (wt m 19 9 v) := h.wt (by unfold rg; omega) hv
theorem tw_19_10 {m : Mm} {v : Int} (h : Ty m) (hv : rg v) : Ty (wt m 19 10 v) := h.wt hv hv
theorem ty_19_11 {m : Mm} (h : Ty m) : 0 ≤ rd m 19 11 ∧ rd m 19 11 ≤ 8 := h 19 11
theorem tw_19_11 {m : Mm} {v : Int} (h : Ty m) (hv : 0 ≤ v ∧ v ≤ 8) : Ty (wt m 19 11 v) := h.wt (by unfold rg; omega) hv
theorem ty_19_12 {m : Mm} (h : Ty m) : 0 ≤ rd m 19 12 ∧ rd m 19 12 ≤ 10 := h 19 12
theorem tw_19_12 {m : Mm} {v : Int} (h : Ty m) (hv : 0 ≤ v ∧ v ≤ 10) : Ty (wt m 19 12 v) := h.wt (by unfold rg; omega) hv
theorem ty_19_13 {m : Mm} (h : Ty m) : 0 ≤ rd m 19 13 ∧ rd m 19 13 ≤ 3 := h 19 13
theorem tw_19_13 {m : Mm} {v : Int} (h : Ty m) (hv : 0 ≤ v ∧ v ≤ 3) : Ty (wt m 19 13 v) := h.wt (by unfold rg; omega) hv
theorem ty_20_4 {m : Mm} (h : Ty m) : 0 ≤ rd m 20 4 ∧ rd m 20 4 ≤ 420 := h 20 4
theorem tw_20_4 {m : Mm} {v : Int} (h : Ty m) (hv : 0 ≤ v ∧ v ≤ 420) : Ty (wt m 20 4 v) := h.wt (by unfold rg; omega) hv
theorem tw_21 {m : Mm} {j : Nat} {v : Int} (h : Ty m) (hv : rg v) : Ty (wt m 21 j v) := h.wt hv hv
theorem ty_22 {m : Mm} (h : Ty m) (j : Nat) : 0 ≤ rd m 22 j ∧ rd m 22 j ≤ 79999 := h 22 j
theorem tw_22 {m : Mm} {j : Nat} {v : Int} (h : Ty m) (hv : 0 ≤ v ∧ v ≤ 79999) : Ty (wt m 22 j v) := h.wt (by unfold rg; omega) hv
theorem ty_23 {m : Mm} (h : Ty m) (j : Nat) : 0 ≤ rd m 23 j ∧ rd m 23 j ≤ 420 := h 23 j
theorem tw_23 {m : Mm} {j : Nat} {v : Int} (h : Ty m) (hv : 0 ≤ v ∧ v ≤ 420) : Ty (wt m 23 j v) := h.wt (by unfold rg; omega) hv
theorem tw_24 {m : Mm} {j : Nat} {v : Int} (h : Ty m) (hv : rg v) : Ty (wt m 24 j v) := h.wt hv hv
theorem ty_25 {m : Mm} (h : Ty m) (j : Nat) : 0 ≤ rd m 25 j ∧ rd m 25 j ≤ 9999 := h 25 j
theorem tw_25 {m : Mm} {j : Nat} {v : Int} (h : Ty m) (hv : 0 ≤ v ∧ v ≤ 9999) : Ty (wt m 25 j v) := h.wt (by unfold rg; omega) hv
theorem ty_26 {m : Mm} (h : Ty m) (j : Nat) : 0 ≤ rd m 26 j ∧ rd m 26 j ≤ 9999 := h 26 j
theorem tw_26 {m : Mm} {j : Nat} {v : Int} (h : Ty m) (hv : 0 ≤ v ∧ v ≤ 9999) : Ty (wt m 26 j v) := h.wt (by unfold rg; omega) hv
theorem ty_27 {m : Mm} (h : Ty m) (j : Nat) : 0 ≤ rd m 27 j ∧ rd m 27 j ≤ 9999 := h 27 j
theorem tw_27 {m : Mm} {j : Nat} {v : Int} (h : Ty m) (hv : 0 ≤ v ∧ v ≤ 9999) : Ty (wt m 27 j v) := h.wt (by unfold rg; omega) hv
theorem ty_28 {m : Mm} (h : Ty m) (j : Nat) : 0 ≤ rd m 28 j ∧ rd m 28 j ≤ 9999 := h 28 j
theorem tw_28 {m : Mm} {j : Nat} {v : Int} (h : Ty m) (hv : 0 ≤ v ∧ v ≤ 9999) : Ty (wt m 28 j v) := h.wt (by unfold rg; omega) hv
theorem ty_32 {m : Mm} (h : Ty m) (j : Nat) : 0 ≤ rd m 32 j ∧ rd m 32 j ≤ 5 := h 32 j
theorem tw_32 {m : Mm} {j : Nat} {v : Int} (h : Ty m) (hv : 0 ≤ v ∧ v ≤ 5) : Ty (wt m 32 j v) := h.wt (by unfold rg; omega) hv
theorem ty_33 {m : Mm} (h : Ty m) (j : Nat) : 0 ≤ rd m 33 j ∧ rd m 33 j ≤ 23 := h 33 j
theorem tw_33 {m : Mm} {j : Nat} {v : Int} (h : Ty m) (hv : 0 ≤ v ∧ v ≤ 23) : Ty (wt m 33 j v) := h.wt (by unfold rg; omega) hv
theorem tw_34 {m : Mm} {j : Nat} {v : Int} (h : Ty m) (hv : rg v) : Ty (wt m 34 j v) := h.wt hv hv
theorem tw_35 {m : Mm} {j : Nat} {v : Int} (h : Ty m) (hv : rg v) : Ty (wt m 35 j v) := h.wt hv hv
theorem ty_36_1 {m : Mm} (h : Ty m) : 0 ≤ rd m 36 1 ∧ rd m 36 1 ≤ 599 := h 36 1
theorem tw_36_1 {m : Mm} {v : Int} (h : Ty m) (hv : 0 ≤ v ∧ v ≤ 599) : Ty (wt m 36 1 v) := h.wt (by unfold rg; omega) hv
theorem ty_37 {m : Mm} (h : Ty m) (j : Nat) : (-1) ≤ rd m 37 j ∧ rd m 37 j ≤ 24 := h 37 j
theorem tw_37 {m : Mm} {j : Nat} {v : Int} (h : Ty m) (hv : (-1) ≤ v ∧ v ≤ 24) : Ty (wt m 37 j v) := h.wt (by unfold rg; omega) hv
theorem ty_38 {m : Mm} (h : Ty m) (j : Nat) : 0 ≤ rd m 38 j ∧ rd m 38 j ≤ 9 := h 38 j
theorem tw_38 {m : Mm} {j : Nat} {v : Int} (h : Ty m) (hv : 0 ≤ v ∧ v ≤ 9) : Ty (wt m 38 j v) := h.wt (by unfold rg; omega) hv
theorem ty_39_0 {m : Mm} (h : Ty m) : 0 ≤ rd m 39 0 ∧ rd m 39 0 ≤ 600 := h 39 0
theorem tw_39_0 {m : Mm} {v : Int} (h : Ty m) (hv : 0 ≤ v ∧ v ≤ 600) : Ty (wt m 39 0 v) := h.wt (by unfold rg; omega) hv
theorem ty_39_7 {m : Mm} (h : Ty m) : 44 ≤ rd m 39 7 ∧ rd m 39 7 ≤ 45 := h 39 7
theorem tw_39_7 {m : Mm} {v : Int} (h : Ty m) (hv : 44 ≤ v ∧ v ≤ 45) : Ty (wt m 39 7 v) := h.wt (by unfold rg; omega) hv
theorem ty_39_8 {m : Mm} (h : Ty m) : 44 ≤ rd m 39 8 ∧ rd m 39 8 ≤ 45 := h 39 8
theorem tw_39_8 {m : Mm} {v : Int} (h : Ty m) (hv : 44 ≤ v ∧ v ≤ 45) : Ty (wt m 39 8 v) := h.wt (by unfold rg; omega) hv
theorem tw_39_12 {m : Mm} {v : Int} (h : Ty m) (hv : rg v) : Ty (wt m 39 12 v) := h.wt hv hv
theorem ty_40 {m : Mm} (h : Ty m) (j : Nat) : 0 ≤ rd m 40 j ∧ rd m 40 j ≤ 599 := h 40 j
theorem tw_40 {m : Mm} {j : Nat} {v : Int} (h : Ty m) (hv : 0 ≤ v ∧ v ≤ 599) : Ty (wt m 40 j v) := h.wt (by unfold rg; omega) hv
theorem tw_41 {m : Mm} {j : Nat} {v : Int} (h : Ty m) (hv : rg v) : Ty (wt m 41 j v) := h.wt hv hv
theorem ty_42 {m : Mm} (h : Ty m) (j : Nat) : (-1) ≤ rd m 42 j ∧ rd m 42 j ≤ 599 := h 42 j
theorem tw_42 {m : Mm} {j : Nat} {v : Int} (h : Ty m) (hv : (-1) ≤ v ∧ v ≤ 599) : Ty (wt m 42 j v) := h.wt (by unfold rg; omega) hv
theorem tw_43 {m : Mm} {j : Nat} {v : Int} (h : Ty m) (hv : rg v) : Ty (wt m 43 j v) := h.wt hv hv
theorem tw_44 {m : Mm} {j : Nat} {v : Int} (h : Ty m) (hv : rg v) : Ty (wt m 44 j v) := h.wt hv hv
theorem tw_45 {m : Mm} {j : Nat} {v : Int} (h : Ty m) (hv : rg v) : Ty (wt m 45 j v) := h.wt hv hv
theorem ty_46 {m : Mm} (h : Ty m) (j : Nat) : (-1) ≤ rd m 46 j ∧ rd m 46 j ≤ 599 := h 46 j
theorem tw_46 {m : Mm} {j : Nat} {v : Int} (h : Ty m) (hv : (-1) ≤ v ∧ v ≤ 599) : Ty (wt m 46 j v) := h.wt (by unfold rg; omega) hv
theorem ty_47 {m : Mm} (h : Ty m) (j : Nat) : (-1) ≤ rd m 47 j ∧ rd m 47 j ≤ 599 := h 47 j
theorem tw_47 {m : Mm} {j : Nat} {v : Int} (h : Ty m) (hv : (-1) ≤ v ∧ v ≤ 599) : Ty (wt m 47 j v) := h.wt (by unfold rg; omega) hv
theorem ty_48 {m : Mm} (h : Ty m) (j : Nat) : (-1) ≤ rd m 48 j ∧ rd m 48 j ≤ 599 := h 48 j
theorem tw_48 {m : Mm} {j : Nat} {v : Int} (h : Ty m) (hv : (-1) ≤ v ∧ v ≤ 599) : Ty (wt m 48 j v) := h.wt (by unfold rg; omega) hv
theorem ty_49_0 {m : Mm} (h : Ty m) : 0 ≤ rd m 49 0 ∧ rd m 49 0 ≤ 20 := h 49 0
theorem tw_49_0 {m : Mm} {v : Int} (h : Ty m) (hv : 0 ≤ v ∧ v ≤ 20) : Ty (wt m 49 0 v) := h.wt (by unfold rg; omega) hv
theorem tw_49_1 {m : Mm} {v : Int} (h : Ty m) (hv : rg v) : Ty (wt m 49 1 v) := h.wt hv hv
theorem tw_49_2 {m : Mm} {v : Int} (h : Ty m) (hv : rg v) : Ty (wt m 49 2 v) := h.wt hv hv
theorem ty_49_9 {m : Mm} (h : Ty m) : 0 ≤ rd m 49 9 ∧ rd m 49 9 ≤ 20 := h 49 9
theorem tw_49_9 {m : Mm} {v : Int} (h : Ty m) (hv : 0 ≤ v ∧ v ≤ 20) : Ty (wt m 49 9 v) := h.wt (by unfold rg; omega) hv
theorem ty_49_10 {m : Mm} (h : Ty m) : 0 ≤ rd m 49 10 ∧ rd m 49 10 ≤ 5 := h 49 10
theorem tw_49_10 {m : Mm} {v : Int} (h : Ty m) (hv : 0 ≤ v ∧ v ≤ 5) : Ty (wt m 49 10 v) := h.wt (by unfold rg; omega) hv
theorem ty_50 {m : Mm} (h : Ty m) (j : Nat) : 0 ≤ rd m 50 j ∧ rd m 50 j ≤ 5 := h 50 j
theorem tw_50 {m : Mm} {j : Nat} {v : Int} (h : Ty m) (hv : 0 ≤ v ∧ v ≤ 5) : Ty (wt m 50 j v) := h.wt (by unfold rg; omega) hv
theorem tw_51 {m : Mm} {j : Nat} {v : Int} (h : Ty m) (hv : rg v) : Ty (wt m 51 j v) := h.wt hv hv
theorem tw_52 {m : Mm} {j : Nat} {v : Int} (h : Ty m) (hv : rg v) : Ty (wt m 52 j v) := h.wt hv hv
theorem ty_53 {m : Mm} (h : Ty m) (j : Nat) : 0 ≤ rd m 53 j ∧ rd m 53 j ≤ 9 := h 53 j
theorem tw_53 {m : Mm} {j : Nat} {v : Int} (h : Ty m) (hv : 0 ≤ v ∧ v ≤ 9) : Ty (wt m 53 j v) := h.wt (by unfold rg; omega) hv
theorem tw_54 {m : Mm} {j : Nat} {v : Int} (h : Ty m) (hv : rg v) : Ty (wt m 54 j v) := h.wt hv hv
theorem ty_55_0 {m : Mm} (h : Ty m) : 0 ≤ rd m 55 0 ∧ rd m 55 0 ≤ 40 := h 55 0
theorem tw_55_0 {m : Mm} {v : Int} (h : Ty m) (hv : 0 ≤ v ∧ v ≤ 40) : Ty (wt m 55 0 v) := h.wt (by unfold rg; omega) hv
theorem ty_55_4 {m : Mm} (h : Ty m) : 0 ≤ rd m 55 4 ∧ rd m 55 4 ≤ 39 := h 55 4
theorem tw_55_4 {m : Mm} {v : Int} (h : Ty m) (hv : 0 ≤ v ∧ v ≤ 39) : Ty (wt m 55 4 v) := h.wt (by unfold rg; omega) hv
theorem tw_58 {m : Mm} {j : Nat} {v : Int} (h : Ty m) (hv : rg v) : Ty (wt m 58 j v) := h.wt hv hv
theorem tw_284_0 {m : Mm} {v : Int} (h : Ty m) (hv : rg v) : Ty (wt m 284 0 v) := h.wt hv hv
theorem ty_284_2 {m : Mm} (h : Ty m) : 0 ≤ rd m 284 2 ∧ rd m 284 2 ≤ 2000 := h 284 2
theorem tw_284_2 {m : Mm} {v : Int} (h : Ty m) (hv : 0 ≤ v ∧ v ≤ 2000) : Ty (wt m 284 2 v) := h.wt (by unfold rg; omega) hv
theorem ty_284_4 {m : Mm} (h : Ty m) : 0 ≤ rd m 284 4 ∧ rd m 284 4 ≤ 2000 := h 284 4
theorem tw_284_4 {m : Mm} {v : Int} (h : Ty m) (hv : 0 ≤ v ∧ v ≤ 2000) : Ty (wt m 284 4 v) := h.wt (by unfold rg; omega) hv
theorem ty_284_10 {m : Mm} (h : Ty m) : 0 ≤ rd m 284 10 ∧ rd m 284 10 ≤ 402 := h 284 10
theorem tw_284_10 {m : Mm} {v : Int} (h : Ty m) (hv : 0 ≤ v ∧ v ≤ 402) : Ty (wt m 284 10 v) := h.wt (by unfold rg; omega) hv
theorem ty_284_11 {m : Mm} (h : Ty m) : 0 ≤ rd m 284 11 ∧ rd m 284 11 ≤ 400 := h 284 11
theorem tw_284_11 {m : Mm} {v : Int} (h : Ty m) (hv : 0 ≤ v ∧ v ≤ 400) : Ty (wt m 284 11 v) := h.wt (by unfold rg; omega) hv
theorem ty_284_12 {m : Mm} (h : Ty m) : 0 ≤ rd m 284 12 ∧ rd m 284 12 ≤ 9 := h 284 12
theorem tw_284_12 {m : Mm} {v : Int} (h : Ty m) (hv : 0 ≤ v ∧ v ≤ 9) : Ty (wt m 284 12 v) := h.wt (by unfold rg; omega) hv
theorem tw_284_13 {m : Mm} {v : Int} (h : Ty m) (hv : rg v) : Ty (wt m 284 13 v) := h.wt hv hv
theorem tw_284_14 {m : Mm} {v : Int} (h : Ty m) (hv : rg v) : Ty (wt m 284 14 v) := h.wt hv hv
theorem tw_284_15 {m : Mm} {v : Int} (h : Ty m) (hv : rg v) : Ty (wt m 284 15 v) := h.wt hv hv
theorem tw_284_16 {m : Mm} {v : Int} (h : Ty m) (hv : rg v) : Ty (wt m 284 16 v) := h.wt hv hv
theorem tw_284_17 {m : Mm} {v : Int} (h : Ty m) (hv : rg v) : Ty (wt m 284 17 v) := h.wt hv hv
theorem ty_284_18 {m : Mm} (h : Ty m) : 0 ≤ rd m 284 18 ∧ rd m 284 18 ≤ 1 := h 284 18
theorem tw_284_18 {m : Mm} {v : Int} (h : Ty m) (hv : 0 ≤ v ∧ v ≤ 1) : Ty (wt m 284 18 v) := h.wt (by unfold rg; omega) hv
theorem ty_284_19 {m : Mm} (h : Ty m) : 0 ≤ rd m 284 19 ∧ rd m 284 19 ≤ 1 := h 284 19
theorem tw_284_19 {m : Mm} {v : Int} (h : Ty m) (hv : 0 ≤ v ∧ v ≤ 1) : Ty (wt m 284 19 v) := h.wt (by unfold rg; omega) hv
theorem ty_284_20 {m : Mm} (h : Ty m) : 0 ≤ rd m 284 20 ∧ rd m 284 20 ≤ 3 := h 284 20
theorem tw_284_20 {m : Mm} {v : Int} (h : Ty m) (hv : 0 ≤ v ∧ v ≤ 3) : Ty (wt m 284 20 v) := h.wt (by unfold rg; omega) hv
theorem ty_284_38 {m : Mm} (h : Ty m) : 0 ≤ rd m 284 38 ∧ rd m 284 38 ≤ 260 := h 284 38
theorem tw_284_38 {m : Mm} {v : Int} (h : Ty m) (hv : 0 ≤ v ∧ v ≤ 260) : Ty (wt m 284 38 v) := h.wt (by unfold rg; omega) hv
theorem ty_284_44 {m : Mm} (h : Ty m) : 0 ≤ rd m 284 44 ∧ rd m 284 44 ≤ 840 := h 284 44
theorem tw_284_44 {m : Mm} {v : Int} (h : Ty m) (hv : 0 ≤ v ∧ v ≤ 840) : Ty (wt m 284 44 v) := h.wt (by unfold rg; omega) hv
theorem ty_284_48 {m : Mm} (h : Ty m) : 0 ≤ rd m 284 48 ∧ rd m 284 48 ≤ 64 := h 284 48
theorem tw_284_48 {m : Mm} {v : Int} (h : Ty m) (hv : 0 ≤ v ∧ v ≤ 64) : Ty (wt m 284 48 v) := h.wt (by unfold rg; omega) hv
theorem tw_284_51 {m : Mm} {v : Int} (h : Ty m) (hv : rg v) : Ty (wt m 284 51 v) := h.wt hv hv
theorem tw_284_55 {m : Mm} {v : Int} (h : Ty m) (hv : rg v) : Ty (wt m 284 55 v) := h.wt hv hv
theorem tw_284_58 {m : Mm} {v : Int} (h : Ty m) (hv : rg v) : Ty (wt m 284 58 v) := h.wt hv hv
theorem tw_284_59 {m : Mm} {v : Int} (h : Ty m) (hv : rg v) : Ty (wt m 284 59 v) := h.wt hv hv
theorem ty_284_60 {m : Mm} (h : Ty m) : 0 ≤ rd m 284 60 ∧ rd m 284 60 ≤ 40 := h 284 60
theorem tw_284_60 {m : Mm} {v : Int} (h : Ty m) (hv : 0 ≤ v ∧ v ≤ 40) : Ty (wt m 284 60 v) := h.wt (by unfold rg; omega) hv
theorem ty_284_67 {m : Mm} (h : Ty m) : 0 ≤ rd m 284 67 ∧ rd m 284 67 ≤ 600 := h 284 67
theorem tw_284_67 {m : Mm} {v : Int} (h : Ty m) (hv : 0 ≤ v ∧ v ≤ 600) : Ty (wt m 284 67 v) := h.wt (by unfold rg; omega) hv
theorem ty_284_72 {m : Mm} (h : Ty m) : 0 ≤ rd m 284 72 ∧ rd m 284 72 ≤ 20 := h 284 72
theorem tw_284_72 {m : Mm} {v : Int} (h : Ty m) (hv : 0 ≤ v ∧ v ≤ 20) : Ty (wt m 284 72 v) := h.wt (by unfold rg; omega) hv
theorem ty_285 {m : Mm} (h : Ty m) (j : Nat) : (-128) ≤ rd m 285 j ∧ rd m 285 j ≤ 127 := h 285 j
theorem tw_285 {m : Mm} {j : Nat} {v : Int} (h : Ty m) (hv : (-128) ≤ v ∧ v ≤ 127) : Ty (wt m 285 j v) := h.wt (by unfold rg; omega) hv
theorem ty_286 {m : Mm} (h : Ty m) (j : Nat) : (-128) ≤ rd m 286 j ∧ rd m 286 j ≤ 127 := h 286 j
theorem tw_286 {m : Mm} {j : Nat} {v : Int} (h : Ty m) (hv : (-128) ≤ v ∧ v ≤ 127) : Ty (wt m 286 j v) := h.wt (by unfold rg; omega) hv
theorem ty_287 {m : Mm} (h : Ty m) (j : Nat) : 0 ≤ rd m 287 j ∧ rd m 287 j ≤ 40 := h 287 j
theorem tw_287 {m : Mm} {j : Nat} {v : Int} (h : Ty m) (hv : 0 ≤ v ∧ v ≤ 40) : Ty (wt m 287 j v) := h.wt (by unfold rg; omega) hv
theorem tw_288 {m : Mm} {j : Nat} {v : Int} (h : Ty m) (hv : rg v) : Ty (wt m 288 j v) := h.wt hv hv
theorem ty_289 {m : Mm} (h : Ty m) (j : Nat) : 0 ≤ rd m 289 j ∧ rd m 289 j ≤ 9999 := h 289 j
theorem tw_289 {m : Mm} {j : Nat} {v : Int} (h : Ty m) (hv : 0 ≤ v ∧ v ≤ 9999) : Ty (wt m 289 j v) := h.wt (by unfold rg; omega) hv
theorem ty_293 {m : Mm} (h : Ty m) (j : Nat) : 0 ≤ rd m 293 j ∧ rd m 293 j ≤ 9999 := h 293 j
theorem tw_293 {m : Mm} {j : Nat} {v : Int} (h : Ty m) (hv : 0 ≤ v ∧ v ≤ 9999) : Ty (wt m 293 j v) := h.wt (by unfold rg; omega) hv
theorem ty_294 {m : Mm} (h : Ty m) (j : Nat) : 0 ≤ rd m 294 j ∧ rd m 294 j ≤ 9999 := h 294 j
theorem tw_294 {m : Mm} {j : Nat} {v : Int} (h : Ty m) (hv : 0 ≤ v ∧ v ≤ 9999) : Ty (wt m 294 j v) := h.wt (by unfold rg; omega) hv
theorem ty_295 {m : Mm} (h : Ty m) (j : Nat) : 0 ≤ rd m 295 j ∧ rd m 295 j ≤ 8 := h 295 j
theorem tw_295 {m : Mm} {j : Nat} {v : Int} (h : Ty m) (hv : 0 ≤ v ∧ v ≤ 8) : Ty (wt m 295 j v) := h.wt (by unfold rg; omega) hv
theorem ty_296 {m : Mm} (h : Ty m) (j : Nat) : 0 ≤ rd m 296 j ∧ rd m 296 j ≤ 9999 := h 296 j
theorem tw_296 {m : Mm} {j : Nat} {v : Int} (h : Ty m) (hv : 0 ≤ v ∧ v ≤ 9999) : Ty (wt m 296 j v) := h.wt (by unfold rg; omega) hv
theorem ty_297 {m : Mm} (h : Ty m) (j : Nat) : 0 ≤ rd m 297 j ∧ rd m 297 j ≤ 9999 := h 297 j
theorem tw_297 {m : Mm} {j : Nat} {v : Int} (h : Ty m) (hv : 0 ≤ v ∧ v ≤ 9999) : Ty (wt m 297 j v) := h.wt (by unfold rg; omega) hv
theorem ty_298 {m : Mm} (h : Ty m) (j : Nat) : 0 ≤ rd m 298 j ∧ rd m 298 j ≤ 10 := h 298 j
theorem tw_298 {m : Mm} {j : Nat} {v : Int} (h : Ty m) (hv : 0 ≤ v ∧ v ≤ 10) : Ty (wt m 298 j v) := h.wt (by unfold rg; omega) hv
theorem ty_299 {m : Mm} (h : Ty m) (j : Nat) : 0 ≤ rd m 299 j ∧ rd m 299 j ≤ 9999 := h 299 j
theorem tw_299 {m : Mm} {j : Nat} {v : Int} (h : Ty m) (hv : 0 ≤ v ∧ v ≤ 9999) : Ty (wt m 299 j v) := h.wt (by unfold rg; omega) hv
theorem ty_300 {m : Mm} (h : Ty m) (j : Nat) : 0 ≤ rd m 300 j ∧ rd m 300 j ≤ 9999 := h 300 j
theorem tw_300 {m : Mm} {j : Nat} {v : Int} (h : Ty m) (hv : 0 ≤ v ∧ v ≤ 9999) : Ty (wt m 300 j v) := h.wt (by unfold rg; omega) hv
theorem ty_301 {m : Mm} (h : Ty m) (j : Nat) : 0 ≤ rd m 301 j ∧ rd m 301 j ≤ 9999 := h 301 j
theorem tw_301 {m : Mm} {j : Nat} {v : Int} (h : Ty m) (hv : 0 ≤ v ∧ v ≤ 9999) : Ty (wt m 301 j v) := h.wt (by unfold rg; omega) hv
theorem ty_302 {m : Mm} (h : Ty m) (j : Nat) : 0 ≤ rd m 302 j ∧ rd m 302 j ≤ 3 := h 302 j
theorem tw_302 {m : Mm} {j : Nat} {v : Int} (h : Ty m) (hv : 0 ≤ v ∧ v ≤ 3) : Ty (wt m 302 j v) := h.wt (by unfold rg; omega) hv
theorem ty_303 {m : Mm} (h : Ty m) (j : Nat) : 0 ≤ rd m 303 j ∧ rd m 303 j ≤ 9999 := h 303 j
theorem tw_303 {m : Mm} {j : Nat} {v : Int} (h : Ty m) (hv : 0 ≤ v ∧ v ≤ 9999) : Ty (wt m 303 j v) := h.wt (by unfold rg; omega) hv
theorem ty_304 {m : Mm} (h : Ty m) (j : Nat) : 0 ≤ rd m 304 j ∧ rd m 304 j ≤ 9999 := h 304 j
theorem tw_304 {m : Mm} {j : Nat} {v : Int} (h : Ty m) (hv : 0 ≤ v ∧ v ≤ 9999) : Ty (wt m 304 j v) := h.wt (by unfold rg; omega) hv
theorem ty_305 {m : Mm} (h : Ty m) (j : Nat) : 0 ≤ rd m 305 j ∧ rd m 305 j ≤ 9999 := h 305 j
theorem tw_305 {m : Mm} {j : Nat} {v : Int} (h : Ty m) (hv : 0 ≤ v ∧ v ≤ 9999) : Ty (wt m 305 j v) := h.wt (by unfold rg; omega) hv
theorem ty_306 {m : Mm} (h : Ty m) (j : Nat) : 0 ≤ rd m 306 j ∧ rd m 306 j ≤ 9999 := h 306 j
theorem tw_306 {m : Mm} {j : Nat} {v : Int} (h : Ty m) (hv : 0 ≤ v ∧ v ≤ 9999) : Ty (wt m 306 j v) := h.wt (by unfold rg; omega) hv
theorem ty_307 {m : Mm} (h : Ty m) (j : Nat) : 0 ≤ rd m 307 j ∧ rd m 307 j ≤ 260 := h 307 j
theorem tw_307 {m : Mm} {j : Nat} {v : Int} (h : Ty m) (hv : 0 ≤ v ∧ v ≤ 260) : Ty (wt m 307 j v) := h.wt (by unfold rg; omega) hv
theorem ty_308 {m : Mm} (h : Ty m) (j : Nat) : 0 ≤ rd m 308 j ∧ rd m 308 j ≤ 260 := h 308 j
theorem tw_308 {m : Mm} {j : Nat} {v : Int} (h : Ty m) (hv : 0 ≤ v ∧ v ≤ 260) : Ty (wt m 308 j v) := h.wt (by unfold rg; omega) hv
theorem tw_309 {m : Mm} {j : Nat} {v : Int} (h : Ty m) (hv : rg v) : Ty (wt m 309 j v) := h.wt hv hv
theorem ty_310 {m : Mm} (h : Ty m) (j : Nat) : 0 ≤ rd m 310 j ∧ rd m 310 j ≤ 840 := h 310 j
theorem tw_310 {m : Mm} {j : Nat} {v : Int} (h : Ty m) (hv : 0 ≤ v ∧ v ≤ 840) : Ty (wt m 310 j v) := h.wt (by unfold rg; omega) hv
theorem ty_311 {m : Mm} (h : Ty m) (j : Nat) : 0 ≤ rd m 311 j ∧ rd m 311 j ≤ 840 := h 311 j
theorem tw_311 {m : Mm} {j : Nat} {v : Int} (h : Ty m) (hv : 0 ≤ v ∧ v ≤ 840) : Ty (wt m 311 j v) := h.wt (by unfold rg; omega) hv
theorem ty_312 {m : Mm} (h : Ty m) (j : Nat) : 0 ≤ rd m 312 j ∧ rd m 312 j ≤ 840 := h 312 j
theorem tw_312 {m : Mm} {j : Nat} {v : Int} (h : Ty m) (hv : 0 ≤ v ∧ v ≤ 840) : Ty (wt m 312 j v) := h.wt (by unfold rg; omega) hv
theorem ty_313 {m : Mm} (h : Ty m) (j : Nat) : 0 ≤ rd m 313 j ∧ rd m 313 j ≤ 840 := h 313 j
theorem tw_313 {m : Mm} {j : Nat} {v : Int} (h : Ty m) (hv : 0 ≤ v ∧ v ≤ 840) : Ty (wt m 313 j v) := h.wt (by unfold rg; omega) hv
theorem ty_314 {m : Mm} (h : Ty m) (j : Nat) : 0 ≤ rd m 314 j ∧ rd m 314 j ≤ 5 := h 314 j
theorem tw_314 {m : Mm} {j : Nat} {v : Int} (h : Ty m) (hv : 0 ≤ v ∧ v ≤ 5) : Ty (wt m 314 j v) := h.wt (by unfold rg; omega) hv
theorem ty_315 {m : Mm} (h : Ty m) (j : Nat) : 0 ≤ rd m 315 j ∧ rd m 315 j ≤ 9999 := h 315 j
theorem tw_315 {m : Mm} {j : Nat} {v : Int} (h : Ty m) (hv : 0 ≤ v ∧ v ≤ 9999) : Ty (wt m 315 j v) := h.wt (by unfold rg; omega) hv
theorem tw_316 {m : Mm} {j : Nat} {v : Int} (h : Ty m) (hv : rg v) : Ty (wt m 316 j v) := h.wt hv hv
theorem tw_317 {m : Mm} {j : Nat} {v : Int} (h : Ty m) (hv : rg v) : Ty (wt m 317 j v) := h.wt hv hv
theorem tw_318 {m : Mm} {j : Nat} {v : Int} (h : Ty m) (hv : rg v) : Ty (wt m 318 j v) := h.wt hv hv
theorem ty_319 {m : Mm} (h : Ty m) (j : Nat) : 0 ≤ rd m 319 j ∧ rd m 319 j ≤ 5 := h 319 j
theorem tw_319 {m : Mm} {j : Nat} {v : Int} (h : Ty m) (hv : 0 ≤ v ∧ v ≤ 5) : Ty (wt m 319 j v) := h.wt (by unfold rg; omega) hv
theorem ty_320 {m : Mm} (h : Ty m) (j : Nat) : 0 ≤ rd m 320 j ∧ rd m 320 j ≤ 23 := h 320 j
theorem tw_320 {m : Mm} {j : Nat} {v : Int} (h : Ty m) (hv : 0 ≤ v ∧ v ≤ 23) : Ty (wt m 320 j v) := h.wt (by unfold rg; omega) hv
theorem ty_321 {m : Mm} (h : Ty m) (j : Nat) : 0 ≤ rd m 321 j ∧ rd m 321 j ≤ 9 := h 321 j
theorem tw_321 {m : Mm} {j : Nat} {v : Int} (h : Ty m) (hv : 0 ≤ v ∧ v ≤ 9) : Ty (wt m 321 j v) := h.wt (by unfold rg; omega) hv
theorem ty_322 {m : Mm} (h : Ty m) (j : Nat) : (ty51 j).1 ≤ rd m 322 j ∧ rd m 322 j ≤ (ty51 j).2 := h 322 j
theorem tw_322 {m : Mm} {j : Nat} {v : Int} (h : Ty m) (hr : rg v) (hv : (ty51 j).1 ≤ v ∧ v ≤ (ty51 j).2) : Ty (wt m 322 j v) := h.wt hr hv
theorem ty_323 {m : Mm} (h : Ty m) (j : Nat) : (ty51 j).1 ≤ rd m 323 j ∧ rd m 323 j ≤ (ty51 j).2 := h 323 j
theorem tw_323 {m : Mm} {j : Nat} {v : Int} (h : Ty m) (hr : rg v) (hv : (ty51 j).1 ≤ v ∧ v ≤ (ty51 j).2) : Ty (wt m 323 j v) := h.wt hr hv
theorem ty_324 {m : Mm} (h : Ty m) (j : Nat) : (ty51 j).1 ≤ rd m 324 j ∧ rd m 324 j ≤ (ty51 j).2 := h 324 j
theorem tw_324 {m : Mm} {j : Nat} {v : Int} (h : Ty m) (hr : rg v) (hv : (ty51 j).1 ≤ v ∧ v ≤ (ty51 j).2) : Ty (wt m 324 j v) := h.wt hr hv
theorem ty_325 {m : Mm} (h : Ty m) (j : Nat) : (-1) ≤ rd m 325 j ∧ rd m 325 j ≤ 599 := h 325 j
theorem tw_325 {m : Mm} {j : Nat} {v : Int} (h : Ty m) (hv : (-1) ≤ v ∧ v ≤ 599) : Ty (wt m 325 j v) := h.wt (by unfold rg; omega) hv
theorem tw_326 {m : Mm} {j : Nat} {v : Int} (h : Ty m) (hv : rg v) : Ty (wt m 326 j v) := h.wt hv hv
theorem ty_327 {m : Mm} (h : Ty m) (j : Nat) : 0 ≤ rd m 327 j ∧ rd m 327 j ≤ 599 := h 327 j
theorem tw_327 {m : Mm} {j : Nat} {v : Int} (h : Ty m) (hv : 0 ≤ v ∧ v ≤ 599) : Ty (wt m 327 j v) := h.wt (by unfold rg; omega) hv
theorem tw_328 {m : Mm} {j : Nat} {v : Int} (h : Ty m) (hv : rg v) : Ty (wt m 328 j v) := h.wt hv hv
theorem ty_329 {m : Mm} (h : Ty m) (j : Nat) : 0 ≤ rd m 329 j ∧ rd m 329 j ≤ 599 := h 329 j
theorem tw_329 {m : Mm} {j : Nat} {v : Int} (h : Ty m) (hv : 0 ≤ v ∧ v ≤ 599) : Ty (wt m 329 j v) := h.wt (by unfold rg; omega) hv
theorem tw_330 {m : Mm} {j : Nat} {v : Int} (h : Ty m) (hv : rg v) : Ty (wt m 330 j v) := h.wt hv hv
theorem ty_331 {m : Mm} (h : Ty m) (j : Nat) : 0 ≤ rd m 331 j ∧ rd m 331 j ≤ 99 := h 331 j
theorem tw_331 {m : Mm} {j : Nat} {v : Int} (h : Ty m) (hv : 0 ≤ v ∧ v ≤ 99) : Ty (wt m 331 j v) := h.wt (by unfold rg; omega) hv
theorem tw_332 {m : Mm} {j : Nat} {v : Int} (h : Ty m) (hv : rg v) : Ty (wt m 332 j v) := h.wt hv hv
theorem tw_333 {m : Mm} {j : Nat} {v : Int} (h : Ty m) (hv : rg v) : Ty (wt m 333 j v) := h.wt hv hv
theorem ty_334 {m : Mm} (h : Ty m) (j : Nat) : 0 ≤ rd m 334 j ∧ rd m 334 j ≤ 5 := h 334 j
theorem tw_334 {m : Mm} {j : Nat} {v : Int} (h : Ty m) (hv : 0 ≤ v ∧ v ≤ 5) : Ty (wt m 334 j v) := h.wt (by unfold rg; omega) hv
theorem tw_335 {m : Mm} {j : Nat} {v : Int} (h : Ty m) (hv : rg v) : Ty (wt m 335 j v) := h.wt hv hv
theorem tw_336 {m : Mm} {j : Nat} {v : Int} (h : Ty m) (hv : rg v) : Ty (wt m 336 j v) := h.wt hv hv
theorem ty_337 {m : Mm} (h : Ty m) (j : Nat) : 0 ≤ rd m 337 j ∧ rd m 337 j ≤ 9 := h 337 j
theorem tw_337 {m : Mm} {j : Nat} {v : Int} (h : Ty m) (hv : 0 ≤ v ∧ v ≤ 9) : Ty (wt m 337 j v) := h.wt (by unfold rg; omega) hv
theorem tw_338 {m : Mm} {j : Nat} {v : Int} (h : Ty m) (hv : rg v) : Ty (wt m 338 j v) := h.wt hv hv
theorem tw_339 {m : Mm} {j : Nat} {v : Int} (h : Ty m) (hv : rg v) : Ty (wt m 339 j v) := h.wt hv hv
theorem ty_340 {m : Mm} (h : Ty m) (j : Nat) : (ty51 j).1 ≤ rd m 340 j ∧ rd m 340 j ≤ (ty51 j).2 := h 340 j
theorem tw_340 {m : Mm} {j : Nat} {v : Int} (h : Ty m) (hr : rg v) (hv : (ty51 j).1 ≤ v ∧ v ≤ (ty51 j).2) : Ty (wt m 340 j v) := h.wt hr hv
/-- scratch: what no later call rests on -/
def scr (i j : Nat) : Bool := (bif Nat.blt i 170 then (bif Nat.blt i 85 then (bif Nat.blt i 42 then (bif Nat.blt i 21 then (bif Nat.blt i 10 then false else (bif Nat.blt i 15 then (bif Nat.blt i 12 then false else (bif Nat.blt i 13 then true else false)) else (bif Nat.blt i 18 then (bif Nat.blt i 16 then true else false) else false))) else (bif Nat.blt i 31 then false else (bif Nat.blt i 36 then (bif Nat.blt i 33 then false else (bif Nat.blt i 34 then false else (bif Nat.blt i 35 then false else true))) else (bif Nat.blt i 39 then (bif Nat.blt i 37 then (Nat.beq j 1) else true) else (bif Nat.blt i 40 then (Nat.beq j 0 || Nat.beq j 12) else true))))) else (bif Nat.blt i 63 then (bif Nat.blt i 52 then (bif Nat.blt i 47 then true else (bif Nat.blt i 49 then true else (bif Nat.blt i 50 then (Nat.beq j 1 || Nat.beq j 2 || Nat.beq j 9 || Nat.beq j 10) else false))) else (bif Nat.blt i 57 then (bif Nat.blt i 54 then (bif Nat.blt i 53 then false else true) else (bif Nat.blt i 55 then true else false)) else false)) else false)) else false) else (bif Nat.blt i 255 then false else (bif Nat.blt i 298 then (bif Nat.blt i 276 then false else (bif Nat.blt i 287 then (bif Nat.blt i 281 then (bif Nat.blt i 278 then false else (bif Nat.blt i 279 then false else true)) else (bif Nat.blt i 284 then true else (bif Nat.blt i 285 then (Nat.beq j 51 || Nat.beq j 58 || Nat.beq j 67) else false))) else false)) else (bif Nat.blt i 319 then (bif Nat.blt i 308 then false else (bif Nat.blt i 313 then false else (bif Nat.blt i 316 then false else (bif Nat.blt i 317 then false else true)))) else (bif Nat.blt i 330 then (bif Nat.blt i 324 then (bif Nat.blt i 321 then false else (bif Nat.blt i 322 then true else (bif Nat.blt i 323 then false else true))) else (bif Nat.blt i 327 then (bif Nat.blt i 325 then false else true) else true)) else (bif Nat.blt i 335 then (bif Nat.blt i 332 then true else (bif Nat.blt i 333 then true else (bif Nat.blt i 334 then true else false))) else (bif Nat.blt i 338 then (bif Nat.blt i 336 then false else (bif Nat.blt i 337 then false else true)) else (bif Nat.blt i 339 then true else false))))))))
/-- .. and the two fields that the richest exchanges -/
def scrB (i j : Nat) : Bool := scr i j || (Nat.beq i 39 && (Nat.beq j 7 || Nat.beq j 8))
theorem in_scr_scrB (i j : Nat) (h : scr i j = true) : scrB i j = true := by unfold scrB; rw [h]; rfl
def Fr (m0 m : Mm) : Prop := (∀ i j, scr i j = false → rd m i j = rd m0 i j) ∧ ∀ i j, ld m i j = ld m0 i j
def G (m0 m : Mm) : Prop := Ty m ∧ Fr m0 m
theorem Fr.rfl (m : Mm) : Fr m m := ⟨fun _ _ _ => Eq.refl _, fun _ _ => Eq.refl _⟩
theorem Fr.trans {a b c : Mm} (h : Fr a b) (k : Fr b c) : Fr a c := ⟨fun i j e => (k.1 i j e).trans (h.1 i j e), fun i j => (k.2 i j).trans (h.2 i j)⟩
theorem Fr.wt {m0 m : Mm} {i j : Nat} {v : Int} (h : Fr m0 m) (hs : scr i j = true) : Fr m0 (wt m i j v) := by
  refine ⟨fun a b e => ?_, h.2⟩
  rw [rd_wt, if_neg (fun q => by rw [q.1, q.2, hs] at e; cases e)]
  exact h.1 a b e
theorem Fr.cp {m0 m : Mm} {b sp d dp n : Nat} (h : Fr m0 m) (hs : ∀ j, scr d j = true) : Fr m0 (cpm m b sp d dp n) := by
  refine ⟨fun x y e => ?_, h.2⟩
  rw [rd_cpm, if_neg (fun q => by rw [q.1, hs] at e; cases e)]
  exact h.1 x y e
theorem G.trans {a b c : Mm} (h : Fr a b) (k : G b c) : G a c := ⟨k.1, h.trans k.2⟩
theorem gw_12 {m0 m : Mm} {j : Nat} {v : Int} (h : G m0 m) (hv : rg v) : G m0 (wt m 12 j v) := ⟨tw_12 h.1 hv, h.2.wt (Eq.refl true)⟩
theorem gw_15 {m0 m : Mm} {j : Nat} {v : Int} (h : G m0 m) (hv : rg v) : G m0 (wt m 15 j v) := ⟨tw_15 h.1 hv, h.2.wt (Eq.refl true)⟩
theorem gw_35 {m0 m : Mm} {j : Nat} {v : Int} (h : G m0 m) (hv : rg v) : G m0 (wt m 35 j v) := ⟨tw_35 h.1 hv, h.2.wt (Eq.refl true)⟩
theorem gw_37 {m0 m : Mm} {j : Nat} {v : Int} (h : G m0 m) (hv : (-1) ≤ v ∧ v ≤ 24) : G m0 (wt m 37 j v) := ⟨tw_37 h.1 hv, h.2.wt (Eq.refl true)⟩
theorem gw_38 {m0 m : Mm} {j : Nat} {v : Int} (h : G m0 m) (hv : 0 ≤ v ∧ v ≤ 9) : G m0 (wt m 38 j v) := ⟨tw_38 h.1 hv, h.2.wt (Eq.refl true)⟩
theorem gw_40 {m0 m : Mm} {j : Nat} {v : Int} (h : G m0 m) (hv : 0 ≤ v ∧ v ≤ 599) : G m0 (wt m 40 j v) := ⟨tw_40 h.1 hv, h.2.wt (Eq.refl true)⟩
theorem gw_41 {m0 m : Mm} {j : Nat} {v : Int} (h : G m0 m) (hv : rg v) : G m0 (wt m 41 j v) := ⟨tw_41 h.1 hv, h.2.wt (Eq.refl true)⟩
theorem gw_42 {m0 m : Mm} {j : Nat} {v : Int} (h : G m0 m) (hv : (-1) ≤ v ∧ v ≤ 599) : G m0 (wt m 42 j v) := ⟨tw_42 h.1 hv, h.2.wt (Eq.refl true)⟩
theorem gw_43 {m0 m : Mm} {j : Nat} {v : Int} (h : G m0 m) (hv : rg v) : G m0 (wt m 43 j v) := ⟨tw_43 h.1 hv, h.2.wt (Eq.refl true)⟩
theorem gw_44 {m0 m : Mm} {j : Nat} {v : Int} (h : G m0 m) (hv : rg v) : G m0 (wt m 44 j v) := ⟨tw_44 h.1 hv, h.2.wt (Eq.refl true)⟩
theorem gw_45 {m0 m : Mm} {j : Nat} {v : Int} (h : G m0 m) (hv : rg v) : G m0 (wt m 45 j v) := ⟨tw_45 h.1 hv, h.2.wt (Eq.refl true)⟩
theorem gw_46 {m0 m : Mm} {j : Nat} {v : Int} (h : G m0 m) (hv : (-1) ≤ v ∧ v ≤ 599) : G m0 (wt m 46 j v) := ⟨tw_46 h.1 hv, h.2.wt (Eq.refl true)⟩
theorem gw_47 {m0 m : Mm} {j : Nat} {v : Int} (h : G m0 m) (hv : (-1) ≤ v ∧ v ≤ 599) : G m0 (wt m 47 j v) := ⟨tw_47 h.1 hv, h.2.wt (Eq.refl true)⟩
theorem gw_48 {m0 m : Mm} {j : Nat} {v : Int} (h : G m0 m) (hv : (-1) ≤ v ∧ v ≤ 599) : G m0 (wt m 48 j v) := ⟨tw_48 h.1 hv, h.2.wt (Eq.refl true)⟩
theorem gw_53 {m0 m : Mm} {j : Nat} {v : Int} (h : G m0 m) (hv : 0 ≤ v ∧ v ≤ 9) : G m0 (wt m 53 j v) := ⟨tw_53 h.1 hv, h.2.wt (Eq.refl true)⟩
theorem gw_54 {m0 m : Mm} {j : Nat} {v : Int} (h : G m0 m) (hv : rg v) : G m0 (wt m 54 j v) := ⟨tw_54 h.1 hv, h.2.wt (Eq.refl true)⟩
theorem gw_317 {m0 m : Mm} {j : Nat} {v : Int} (h : G m0 m) (hv : rg v) : G m0 (wt m 317 j v) := ⟨tw_317 h.1 hv, h.2.wt (Eq.refl true)⟩
theorem gw_318 {m0 m : Mm} {j : Nat} {v : Int} (h : G m0 m) (hv : rg v) : G m0 (wt m 318 j v) := ⟨tw_318 h.1 hv, h.2.wt (Eq.refl true)⟩
theorem gw_321 {m0 m : Mm} {j : Nat} {v : Int} (h : G m0 m) (hv : 0 ≤ v ∧ v ≤ 9) : G m0 (wt m 321 j v) := ⟨tw_321 h.1 hv, h.2.wt (Eq.refl true)⟩
theorem gw_323 {m0 m : Mm} {j : Nat} {v : Int} (h : G m0 m) (hr : rg v) (hv : (ty51 j).1 ≤ v ∧ v ≤ (ty51 j).2) : G m0 (wt m 323 j v) := ⟨tw_323 h.1 hr hv, h.2.wt (Eq.refl true)⟩
theorem gw_325 {m0 m : Mm} {j : Nat} {v : Int} (h : G m0 m) (hv : (-1) ≤ v ∧ v ≤ 599) : G m0 (wt m 325 j v) := ⟨tw_325 h.1 hv, h.2.wt (Eq.refl true)⟩
theorem gw_326 {m0 m : Mm} {j : Nat} {v : Int} (h : G m0 m) (hv : rg v) : G m0 (wt m 326 j v) := ⟨tw_326 h.1 hv, h.2.wt (Eq.refl true)⟩
theorem gw_327 {m0 m : Mm} {j : Nat} {v : Int} (h : G m0 m) (hv : 0 ≤ v ∧ v ≤ 599) : G m0 (wt m 327 j v) := ⟨tw_327 h.1 hv, h.2.wt (Eq.refl true)⟩
theorem gw_328 {m0 m : Mm} {j : Nat} {v : Int} (h : G m0 m) (hv : rg v) : G m0 (wt m 328 j v) := ⟨tw_328 h.1 hv, h.2.wt (Eq.refl true)⟩
theorem gw_329 {m0 m : Mm} {j : Nat} {v : Int} (h : G m0 m) (hv : 0 ≤ v ∧ v ≤ 599) : G m0 (wt m 329 j v) := ⟨tw_329 h.1 hv, h.2.wt (Eq.refl true)⟩
theorem gw_330 {m0 m : Mm} {j : Nat} {v : Int} (h : G m0 m) (hv : rg v) : G m0 (wt m 330 j v) := ⟨tw_330 h.1 hv, h.2.wt (Eq.refl true)⟩
theorem gw_331 {m0 m : Mm} {j : Nat} {v : Int} (h : G m0 m) (hv : 0 ≤ v ∧ v ≤ 99) : G m0 (wt m 331 j v) := ⟨tw_331 h.1 hv, h.2.wt (Eq.refl true)⟩
theorem gw_332 {m0 m : Mm} {j : Nat} {v : Int} (h : G m0 m) (hv : rg v) : G m0 (wt m 332 j v) := ⟨tw_332 h.1 hv, h.2.wt (Eq.refl true)⟩
theorem gw_333 {m0 m : Mm} {j : Nat} {v : Int} (h : G m0 m) (hv : rg v) : G m0 (wt m 333 j v) := ⟨tw_333 h.1 hv, h.2.wt (Eq.refl true)⟩
theorem gw_337 {m0 m : Mm} {j : Nat} {v : Int} (h : G m0 m) (hv : 0 ≤ v ∧ v ≤ 9) : G m0 (wt m 337 j v) := ⟨tw_337 h.1 hv, h.2.wt (Eq.refl true)⟩
theorem gw_338 {m0 m : Mm} {j : Nat} {v : Int} (h : G m0 m) (hv : rg v) : G m0 (wt m 338 j v) := ⟨tw_338 h.1 hv, h.2.wt (Eq.refl true)⟩
theorem gw_36_1 {m0 m : Mm} {v : Int} (h : G m0 m) (hv : 0 ≤ v ∧ v ≤ 599) : G m0 (wt m 36 1 v) := ⟨tw_36_1 h.1 hv, h.2.wt (Eq.refl true)⟩
theorem gw_39_0 {m0 m : Mm} {v : Int} (h : G m0 m) (hv : 0 ≤ v ∧ v ≤ 600) : G m0 (wt m 39 0 v) := ⟨tw_39_0 h.1 hv, h.2.wt (Eq.refl true)⟩
theorem gw_39_12 {m0 m : Mm} {v : Int} (h : G m0 m) (hv : rg v) : G m0 (wt m 39 12 v) := ⟨tw_39_12 h.1 hv, h.2.wt (Eq.refl true)⟩
theorem gw_49_1 {m0 m : Mm} {v : Int} (h : G m0 m) (hv : rg v) : G m0 (wt m 49 1 v) := ⟨tw_49_1 h.1 hv, h.2.wt (Eq.refl true)⟩
theorem gw_49_2 {m0 m : Mm} {v : Int} (h : G m0 m) (hv : rg v) : G m0 (wt m 49 2 v) := ⟨tw_49_2 h.1 hv, h.2.wt (Eq.refl true)⟩
theorem gw_49_9 {m0 m : Mm} {v : Int} (h : G m0 m) (hv : 0 ≤ v ∧ v ≤ 20) : G m0 (wt m 49 9 v) := ⟨tw_49_9 h.1 hv, h.2.wt (Eq.refl true)⟩
theorem gw_49_10 {m0 m : Mm} {v : Int} (h : G m0 m) (hv : 0 ≤ v ∧ v ≤ 5) : G m0 (wt m 49 10 v) := ⟨tw_49_10 h.1 hv, h.2.wt (Eq.refl true)⟩
theorem gw_284_51 {m0 m : Mm} {v : Int} (h : G m0 m) (hv : rg v) : G m0 (wt m 284 51 v) := ⟨tw_284_51 h.1 hv, h.2.wt (Eq.refl true)⟩
theorem gw_284_58 {m0 m : Mm} {v : Int} (h : G m0 m) (hv : rg v) : G m0 (wt m 284 58 v) := ⟨tw_284_58 h.1 hv, h.2.wt (Eq.refl true)⟩
theorem gw_284_67 {m0 m : Mm} {v : Int} (h : G m0 m) (hv : 0 ≤ v ∧ v ≤ 600) : G m0 (wt m 284 67 v) := ⟨tw_284_67 h.1 hv, h.2.wt (Eq.refl true)⟩
