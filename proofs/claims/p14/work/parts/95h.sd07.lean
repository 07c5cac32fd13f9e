set_option maxRecDepth 100000 in
set_option maxHeartbeats 8000000 in
/-- TippedCratesModel.isLie -/
theorem sd_203 (l : Launch) (f : Nat → Nat) (D : va_G) (cA : FieldType → ClassId) (d : Nat) : mm_Ok2 l f D cA d (yX12_isLie, cX12_isLie, 3, (some .boolean), mc_203) := by
  intro p e R s m args below meth c C hRf hRl pc
  obtain ⟨hx, hb, hml, hr, hlk, hnm, hown, hts, hEX, hgo, hf⟩ := C
  obtain ⟨hK, hA, hX, hZs, hZc, hZq, hTx, hSR0, hSR1, hAO, hN⟩ := id hEX
  have hAW : ∀ w ∈ mm_AW, w ∈ (Cond.code yX12_isLie cX12_isLie 3 (some .boolean) :: mm_AW) := fun w h => List.mem_cons_of_mem _ h
  have hown : s.vm.findClass "TippedCratesModel" = some m.cls := hown
  show mm_S p l e R s m args below meth c f D mm_cl cA 3 _ pc (mc_203 pc)
  unfold mc_203
  exact (ms_b (ms_b (ms_b (ms_b (ms_lf (ms_iconst hx hb (by decide) (by decide +kernel : decode cX12_isLie 0 = .ok (.iconst 0, 1))))
    (ms_b (ms_lf (ms_istore_n (k := 2) hx hb rfl (by decide : 2 < 3) (by decide +kernel : decode cX12_isLie 1 = .ok (.istore_n 2, 1))))
    (ms_lf (ms_iload_n (k := 2) hx hb rfl (by decide +kernel : decode cX12_isLie 2 = .ok (.iload_n 2, 1))))))
    (ms_b (ms_lf (ms_bipush hx hb (by decide) (by decide +kernel : decode cX12_isLie 3 = .ok (.bipush 6, 2))))
    (ms_b (ms_lf (ms_ic_ge hx hb (by decide) (by decide +kernel : decode cX12_isLie 5 = .ok (.if_icmp .ge 31, 3))))
    (ms_lf (ms_aload_n (k := 0) hx hb rfl (by decide +kernel : decode cX12_isLie 8 = .ok (.aload_n 0, 1)))))))
    (ms_b (ms_b (ms_lf (ms_getf (C := RX12) (T := TX12) (N := 80) hx hb hf hts (fun w h => hAW w (inq_12 w h)) hown hK rfl (by decide) (hts _ (hAW _ qw_1467)) rfl (by decide +kernel : decode cX12_isLie 9 = .ok (.getfield 122, 3))))
    (ms_b (ms_lf (ms_bipush hx hb (by decide) (by decide +kernel : decode cX12_isLie 12 = .ok (.bipush 6, 2))))
    (ms_lf (ms_iload_n (k := 1) hx hb rfl (by decide +kernel : decode cX12_isLie 14 = .ok (.iload_n 1, 1))))))
    (ms_b (ms_lf (ms_imul hx hb (by decide +kernel : decode cX12_isLie 15 = .ok (.imul, 1))))
    (ms_b (ms_lf (ms_iload_n (k := 2) hx hb rfl (by decide +kernel : decode cX12_isLie 16 = .ok (.iload_n 2, 1))))
    (ms_lf (ms_iadd hx hb (by decide +kernel : decode cX12_isLie 17 = .ok (.iadd, 1))))))))
    (ms_b (ms_b (ms_b (ms_lf (ms_iald hx hb hf hA hX (by decide +kernel : decode cX12_isLie 18 = .ok (.iaload, 1))))
    (ms_b (ms_lf (ms_aload_n (k := 0) hx hb rfl (by decide +kernel : decode cX12_isLie 19 = .ok (.aload_n 0, 1))))
    (ms_lf (ms_getf (C := RX12) (T := TX12) (N := 80) hx hb hf hts (fun w h => hAW w (inq_12 w h)) hown hK rfl (by decide) (hts _ (hAW _ qw_1469)) rfl (by decide +kernel : decode cX12_isLie 20 = .ok (.getfield 128, 3))))))
    (ms_b (ms_lf (ms_iload_n (k := 2) hx hb rfl (by decide +kernel : decode cX12_isLie 23 = .ok (.iload_n 2, 1))))
    (ms_b (ms_lf (ms_iald hx hb hf hA hX (by decide +kernel : decode cX12_isLie 24 = .ok (.iaload, 1))))
    (ms_lf (ms_ic_eq hx hb (by decide) (by decide +kernel : decode cX12_isLie 25 = .ok (.if_icmp .eq 5, 3)))))))
    (ms_b (ms_b (ms_lf (ms_iconst hx hb (by decide) (by decide +kernel : decode cX12_isLie 28 = .ok (.iconst 0, 1))))
    (ms_b (ms_lf (ms_iret hx hb hr hlk (by decide +kernel : decode cX12_isLie 29 = .ok (.ireturn, 1))))
    (ms_lf (ms_iinc hx hb (by decide) (by decide : 2 < 3) (by decide +kernel : decode cX12_isLie 30 = .ok (.iinc 2 1, 3))))))
    (ms_b (ms_lf (ms_goto hx hb (by decide) (by decide +kernel : decode cX12_isLie 33 = .ok (.goto (-31), 3))))
    (ms_b (ms_lf (ms_iconst hx hb (by decide) (by decide +kernel : decode cX12_isLie 36 = .ok (.iconst 1, 1))))
    (ms_lf (ms_iret hx hb hr hlk (by decide +kernel : decode cX12_isLie 37 = .ok (.ireturn, 1)))))))))
set_option maxRecDepth 100000 in
set_option maxHeartbeats 8000000 in
/-- TippedCratesModel.lieOf -/
theorem sd_204 (l : Launch) (f : Nat → Nat) (D : va_G) (cA : FieldType → ClassId) (d : Nat) : mm_Ok2 l f D cA d (yX12_lieOf, cX12_lieOf, 2, (some .int), mc_204) := by
  intro p e R s m args below meth c C hRf hRl pc
  obtain ⟨hx, hb, hml, hr, hlk, hnm, hown, hts, hEX, hgo, hf⟩ := C
  obtain ⟨hK, hA, hX, hZs, hZc, hZq, hTx, hSR0, hSR1, hAO, hN⟩ := id hEX
  have hAW : ∀ w ∈ mm_AW, w ∈ (Cond.code yX12_lieOf cX12_lieOf 2 (some .int) :: mm_AW) := fun w h => List.mem_cons_of_mem _ h
  have hown : s.vm.findClass "TippedCratesModel" = some m.cls := hown
  show mm_S p l e R s m args below meth c f D mm_cl cA 2 _ pc (mc_204 pc)
  unfold mc_204
  exact (ms_b (ms_b (ms_b (ms_b (ms_b (ms_lf (ms_iconst hx hb (by decide) (by decide +kernel : decode cX12_lieOf 0 = .ok (.iconst 0, 1))))
    (ms_lf (ms_istore_n (k := 1) hx hb rfl (by decide : 1 < 2) (by decide +kernel : decode cX12_lieOf 1 = .ok (.istore_n 1, 1)))))
    (ms_b (ms_lf (ms_iload_n (k := 1) hx hb rfl (by decide +kernel : decode cX12_lieOf 2 = .ok (.iload_n 1, 1))))
    (ms_b (ms_lf (ms_aload_n (k := 0) hx hb rfl (by decide +kernel : decode cX12_lieOf 3 = .ok (.aload_n 0, 1))))
    (ms_lf (ms_getf (C := RX12) (T := TX12) (N := 80) hx hb hf hts (fun w h => hAW w (inq_12 w h)) hown hK rfl (by decide) (hts _ (hAW _ qw_1470)) rfl (by decide +kernel : decode cX12_lieOf 4 = .ok (.getfield 350, 3)))))))
    (ms_b (ms_b (ms_lf (ms_ic_ge hx hb (by decide) (by decide +kernel : decode cX12_lieOf 7 = .ok (.if_icmp .ge 19, 3))))
    (ms_b (ms_lf (ms_aload_n (k := 0) hx hb rfl (by decide +kernel : decode cX12_lieOf 10 = .ok (.aload_n 0, 1))))
    (ms_lf (ms_iload_n (k := 1) hx hb rfl (by decide +kernel : decode cX12_lieOf 11 = .ok (.iload_n 1, 1))))))
    (ms_b (ms_lf (ms_ivV (C := RX12) (T := TX12) (N := 80) hx hb hml hown hts hgo hEX hf hK rfl (mm_GV hAW (mm_GI hAW gi_203) qw_1401 qw_1403 qw_48 qw_137) rfl ⟨rfl, hd_203⟩ (mm_rm hRf hRl (Nat.le_of_ble_eq_true rfl)) (by decide +kernel : decode cX12_lieOf 12 = .ok (.invokevirtual 353, 3))))
    (ms_b (ms_lf (ms_if_eq hx hb (by decide) (by decide +kernel : decode cX12_lieOf 15 = .ok (.ifCond .eq 5, 3))))
    (ms_lf (ms_iload_n (k := 1) hx hb rfl (by decide +kernel : decode cX12_lieOf 18 = .ok (.iload_n 1, 1))))))))
    (ms_b (ms_b (ms_b (ms_lf (ms_iret hx hb hr hlk (by decide +kernel : decode cX12_lieOf 19 = .ok (.ireturn, 1))))
    (ms_lf (ms_iinc hx hb (by decide) (by decide : 1 < 2) (by decide +kernel : decode cX12_lieOf 20 = .ok (.iinc 1 1, 3)))))
    (ms_b (ms_lf (ms_goto hx hb (by decide) (by decide +kernel : decode cX12_lieOf 23 = .ok (.goto (-21), 3))))
    (ms_b (ms_lf (ms_iconst hx hb (by decide) (by decide +kernel : decode cX12_lieOf 26 = .ok (.iconst 0, 1))))
    (ms_lf (ms_istore_n (k := 1) hx hb rfl (by decide : 1 < 2) (by decide +kernel : decode cX12_lieOf 27 = .ok (.istore_n 1, 1)))))))
    (ms_b (ms_b (ms_lf (ms_iload_n (k := 1) hx hb rfl (by decide +kernel : decode cX12_lieOf 28 = .ok (.iload_n 1, 1))))
    (ms_b (ms_lf (ms_bipush hx hb (by decide) (by decide +kernel : decode cX12_lieOf 29 = .ok (.bipush 6, 2))))
    (ms_lf (ms_ic_ge hx hb (by decide) (by decide +kernel : decode cX12_lieOf 31 = .ok (.if_icmp .ge 29, 3))))))
    (ms_b (ms_lf (ms_aload_n (k := 0) hx hb rfl (by decide +kernel : decode cX12_lieOf 34 = .ok (.aload_n 0, 1))))
    (ms_b (ms_lf (ms_getf (C := RX12) (T := TX12) (N := 80) hx hb hf hts (fun w h => hAW w (inq_12 w h)) hown hK rfl (by decide) (hts _ (hAW _ qw_1467)) rfl (by decide +kernel : decode cX12_lieOf 35 = .ok (.getfield 122, 3))))
    (ms_lf (ms_bipush hx hb (by decide) (by decide +kernel : decode cX12_lieOf 38 = .ok (.bipush 6, 2)))))))))
    (ms_b (ms_b (ms_b (ms_b (ms_lf (ms_aload_n (k := 0) hx hb rfl (by decide +kernel : decode cX12_lieOf 40 = .ok (.aload_n 0, 1))))
    (ms_lf (ms_getf (C := RX12) (T := TX12) (N := 80) hx hb hf hts (fun w h => hAW w (inq_12 w h)) hown hK rfl (by decide) (hts _ (hAW _ qw_1470)) rfl (by decide +kernel : decode cX12_lieOf 41 = .ok (.getfield 350, 3)))))
    (ms_b (ms_lf (ms_imul hx hb (by decide +kernel : decode cX12_lieOf 44 = .ok (.imul, 1))))
    (ms_b (ms_lf (ms_iload_n (k := 1) hx hb rfl (by decide +kernel : decode cX12_lieOf 45 = .ok (.iload_n 1, 1))))
    (ms_lf (ms_iadd hx hb (by decide +kernel : decode cX12_lieOf 46 = .ok (.iadd, 1)))))))
    (ms_b (ms_b (ms_lf (ms_aload_n (k := 0) hx hb rfl (by decide +kernel : decode cX12_lieOf 47 = .ok (.aload_n 0, 1))))
    (ms_b (ms_lf (ms_getf (C := RX12) (T := TX12) (N := 80) hx hb hf hts (fun w h => hAW w (inq_12 w h)) hown hK rfl (by decide) (hts _ (hAW _ qw_1469)) rfl (by decide +kernel : decode cX12_lieOf 48 = .ok (.getfield 128, 3))))
    (ms_lf (ms_iload_n (k := 1) hx hb rfl (by decide +kernel : decode cX12_lieOf 51 = .ok (.iload_n 1, 1))))))
    (ms_b (ms_lf (ms_iald hx hb hf hA hX (by decide +kernel : decode cX12_lieOf 52 = .ok (.iaload, 1))))
    (ms_b (ms_lf (ms_iast hx hb hf hA (by decide +kernel : decode cX12_lieOf 53 = .ok (.iastore, 1))))
    (ms_lf (ms_iinc hx hb (by decide) (by decide : 1 < 2) (by decide +kernel : decode cX12_lieOf 54 = .ok (.iinc 1 1, 3))))))))
    (ms_b (ms_b (ms_b (ms_lf (ms_goto hx hb (by decide) (by decide +kernel : decode cX12_lieOf 57 = .ok (.goto (-29), 3))))
    (ms_b (ms_lf (ms_aload_n (k := 0) hx hb rfl (by decide +kernel : decode cX12_lieOf 60 = .ok (.aload_n 0, 1))))
    (ms_lf (ms_dup hx hb (by decide +kernel : decode cX12_lieOf 61 = .ok (.dup, 1))))))
    (ms_b (ms_lf (ms_getf (C := RX12) (T := TX12) (N := 80) hx hb hf hts (fun w h => hAW w (inq_12 w h)) hown hK rfl (by decide) (hts _ (hAW _ qw_1470)) rfl (by decide +kernel : decode cX12_lieOf 62 = .ok (.getfield 350, 3))))
    (ms_b (ms_lf (ms_iconst hx hb (by decide) (by decide +kernel : decode cX12_lieOf 65 = .ok (.iconst 1, 1))))
    (ms_lf (ms_iadd hx hb (by decide +kernel : decode cX12_lieOf 66 = .ok (.iadd, 1)))))))
    (ms_b (ms_b (ms_lf (ms_put (C := RX12) (T := TX12) (N := 80) hx hb hf hts (fun w h => hAW w (inq_12 w h)) tyX12 tyX12_ok nmX12 hown hK rfl (by decide) (hts _ (hAW _ qw_1470)) rfl rfl rfl (by decide +kernel : decode cX12_lieOf 67 = .ok (.putfield 350, 3))))
    (ms_b (ms_lf (ms_aload_n (k := 0) hx hb rfl (by decide +kernel : decode cX12_lieOf 70 = .ok (.aload_n 0, 1))))
    (ms_lf (ms_getf (C := RX12) (T := TX12) (N := 80) hx hb hf hts (fun w h => hAW w (inq_12 w h)) hown hK rfl (by decide) (hts _ (hAW _ qw_1470)) rfl (by decide +kernel : decode cX12_lieOf 71 = .ok (.getfield 350, 3))))))
    (ms_b (ms_lf (ms_iconst hx hb (by decide) (by decide +kernel : decode cX12_lieOf 74 = .ok (.iconst 1, 1))))
    (ms_b (ms_lf (ms_isub hx hb (by decide +kernel : decode cX12_lieOf 75 = .ok (.isub, 1))))
    (ms_lf (ms_iret hx hb hr hlk (by decide +kernel : decode cX12_lieOf 76 = .ok (.ireturn, 1))))))))))
set_option maxRecDepth 100000 in
set_option maxHeartbeats 8000000 in
/-- TippedCratesModel.fillsLies -/
theorem sd_205 (l : Launch) (f : Nat → Nat) (D : va_G) (cA : FieldType → ClassId) (d : Nat) : mm_Ok2 l f D cA d (yX12_fillsLies, cX12_fillsLies, 4, none, mc_205) := by
  intro p e R s m args below meth c C hRf hRl pc
  obtain ⟨hx, hb, hml, hr, hlk, hnm, hown, hts, hEX, hgo, hf⟩ := C
  obtain ⟨hK, hA, hX, hZs, hZc, hZq, hTx, hSR0, hSR1, hAO, hN⟩ := id hEX
  have hAW : ∀ w ∈ mm_AW, w ∈ (Cond.code yX12_fillsLies cX12_fillsLies 4 none :: mm_AW) := fun w h => List.mem_cons_of_mem _ h
  have hown : s.vm.findClass "TippedCratesModel" = some m.cls := hown
  show mm_S p l e R s m args below meth c f D mm_cl cA 4 _ pc (mc_205 pc)
  unfold mc_205
  exact (ms_b (ms_b (ms_b (ms_b (ms_b (ms_b (ms_lf (ms_iconst hx hb (by decide) (by decide +kernel : decode cX12_fillsLies 0 = .ok (.iconst 0, 1))))
    (ms_lf (ms_istore_n (k := 1) hx hb rfl (by decide : 1 < 4) (by decide +kernel : decode cX12_fillsLies 1 = .ok (.istore_n 1, 1)))))
    (ms_b (ms_lf (ms_iload_n (k := 1) hx hb rfl (by decide +kernel : decode cX12_fillsLies 2 = .ok (.iload_n 1, 1))))
    (ms_lf (ms_bipush hx hb (by decide) (by decide +kernel : decode cX12_fillsLies 3 = .ok (.bipush 6, 2))))))
    (ms_b (ms_b (ms_lf (ms_ic_ge hx hb (by decide) (by decide +kernel : decode cX12_fillsLies 5 = .ok (.if_icmp .ge 16, 3))))
    (ms_lf (ms_aload_n (k := 0) hx hb rfl (by decide +kernel : decode cX12_fillsLies 8 = .ok (.aload_n 0, 1)))))
    (ms_b (ms_lf (ms_getf (C := RX12) (T := TX12) (N := 80) hx hb hf hts (fun w h => hAW w (inq_12 w h)) hown hK rfl (by decide) (hts _ (hAW _ qw_1469)) rfl (by decide +kernel : decode cX12_fillsLies 9 = .ok (.getfield 128, 3))))
    (ms_lf (ms_iload_n (k := 1) hx hb rfl (by decide +kernel : decode cX12_fillsLies 12 = .ok (.iload_n 1, 1)))))))
    (ms_b (ms_b (ms_b (ms_lf (ms_iload_n (k := 1) hx hb rfl (by decide +kernel : decode cX12_fillsLies 13 = .ok (.iload_n 1, 1))))
    (ms_lf (ms_iast hx hb hf hA (by decide +kernel : decode cX12_fillsLies 14 = .ok (.iastore, 1)))))
    (ms_b (ms_lf (ms_iinc hx hb (by decide) (by decide : 1 < 4) (by decide +kernel : decode cX12_fillsLies 15 = .ok (.iinc 1 1, 3))))
    (ms_lf (ms_goto hx hb (by decide) (by decide +kernel : decode cX12_fillsLies 18 = .ok (.goto (-16), 3))))))
    (ms_b (ms_b (ms_lf (ms_aload_n (k := 0) hx hb rfl (by decide +kernel : decode cX12_fillsLies 21 = .ok (.aload_n 0, 1))))
    (ms_lf (ms_iconst hx hb (by decide) (by decide +kernel : decode cX12_fillsLies 22 = .ok (.iconst 0, 1)))))
    (ms_b (ms_lf (ms_put (C := RX12) (T := TX12) (N := 80) hx hb hf hts (fun w h => hAW w (inq_12 w h)) tyX12 tyX12_ok nmX12 hown hK rfl (by decide) (hts _ (hAW _ qw_1470)) rfl rfl rfl (by decide +kernel : decode cX12_fillsLies 23 = .ok (.putfield 350, 3))))
    (ms_lf (ms_aload_n (k := 0) hx hb rfl (by decide +kernel : decode cX12_fillsLies 26 = .ok (.aload_n 0, 1))))))))
    (ms_b (ms_b (ms_b (ms_b (ms_lf (ms_ivV (C := RX12) (T := TX12) (N := 80) hx hb hml hown hts hgo hEX hf hK rfl (mm_GV hAW (mm_GI hAW gi_204) qw_1397 qw_1399 qw_47 qw_137) rfl ⟨rfl, hd_204⟩ (mm_rm hRf hRl (Nat.le_of_ble_eq_true rfl)) (by decide +kernel : decode cX12_fillsLies 27 = .ok (.invokevirtual 356, 3))))
    (ms_lf (ms_pop hx hb (by decide +kernel : decode cX12_fillsLies 30 = .ok (.pop, 1)))))
    (ms_b (ms_lf (ms_iconst hx hb (by decide) (by decide +kernel : decode cX12_fillsLies 31 = .ok (.iconst 0, 1))))
    (ms_lf (ms_istore_n (k := 1) hx hb rfl (by decide : 1 < 4) (by decide +kernel : decode cX12_fillsLies 32 = .ok (.istore_n 1, 1))))))
    (ms_b (ms_b (ms_lf (ms_iload_n (k := 1) hx hb rfl (by decide +kernel : decode cX12_fillsLies 33 = .ok (.iload_n 1, 1))))
    (ms_lf (ms_aload_n (k := 0) hx hb rfl (by decide +kernel : decode cX12_fillsLies 34 = .ok (.aload_n 0, 1)))))
    (ms_b (ms_lf (ms_getf (C := RX12) (T := TX12) (N := 80) hx hb hf hts (fun w h => hAW w (inq_12 w h)) hown hK rfl (by decide) (hts _ (hAW _ qw_1470)) rfl (by decide +kernel : decode cX12_fillsLies 35 = .ok (.getfield 350, 3))))
    (ms_lf (ms_ic_ge hx hb (by decide) (by decide +kernel : decode cX12_fillsLies 38 = .ok (.if_icmp .ge 71, 3)))))))
    (ms_b (ms_b (ms_b (ms_lf (ms_iconst hx hb (by decide) (by decide +kernel : decode cX12_fillsLies 41 = .ok (.iconst 0, 1))))
    (ms_lf (ms_istore_n (k := 2) hx hb rfl (by decide : 2 < 4) (by decide +kernel : decode cX12_fillsLies 42 = .ok (.istore_n 2, 1)))))
    (ms_b (ms_lf (ms_iload_n (k := 2) hx hb rfl (by decide +kernel : decode cX12_fillsLies 43 = .ok (.iload_n 2, 1))))
    (ms_lf (ms_iconst hx hb (by decide) (by decide +kernel : decode cX12_fillsLies 44 = .ok (.iconst 4, 1))))))
    (ms_b (ms_b (ms_lf (ms_ic_ge hx hb (by decide) (by decide +kernel : decode cX12_fillsLies 45 = .ok (.if_icmp .ge 58, 3))))
    (ms_lf (ms_iconst hx hb (by decide) (by decide +kernel : decode cX12_fillsLies 48 = .ok (.iconst 0, 1)))))
    (ms_b (ms_lf (ms_istore_n (k := 3) hx hb rfl (by decide : 3 < 4) (by decide +kernel : decode cX12_fillsLies 49 = .ok (.istore_n 3, 1))))
    (ms_lf (ms_iload_n (k := 3) hx hb rfl (by decide +kernel : decode cX12_fillsLies 50 = .ok (.iload_n 3, 1)))))))))
    (ms_b (ms_b (ms_b (ms_b (ms_b (ms_lf (ms_bipush hx hb (by decide) (by decide +kernel : decode cX12_fillsLies 51 = .ok (.bipush 6, 2))))
    (ms_lf (ms_ic_ge hx hb (by decide) (by decide +kernel : decode cX12_fillsLies 53 = .ok (.if_icmp .ge 30, 3)))))
    (ms_b (ms_lf (ms_aload_n (k := 0) hx hb rfl (by decide +kernel : decode cX12_fillsLies 56 = .ok (.aload_n 0, 1))))
    (ms_lf (ms_getf (C := RX12) (T := TX12) (N := 80) hx hb hf hts (fun w h => hAW w (inq_12 w h)) hown hK rfl (by decide) (hts _ (hAW _ qw_1469)) rfl (by decide +kernel : decode cX12_fillsLies 57 = .ok (.getfield 128, 3))))))
    (ms_b (ms_b (ms_lf (ms_iload_n (k := 3) hx hb rfl (by decide +kernel : decode cX12_fillsLies 60 = .ok (.iload_n 3, 1))))
    (ms_lf (ms_aload_n (k := 0) hx hb rfl (by decide +kernel : decode cX12_fillsLies 61 = .ok (.aload_n 0, 1)))))
    (ms_b (ms_lf (ms_getf (C := RX12) (T := TX12) (N := 80) hx hb hf hts (fun w h => hAW w (inq_12 w h)) hown hK rfl (by decide) (hts _ (hAW _ qw_1467)) rfl (by decide +kernel : decode cX12_fillsLies 62 = .ok (.getfield 122, 3))))
    (ms_lf (ms_bipush hx hb (by decide) (by decide +kernel : decode cX12_fillsLies 65 = .ok (.bipush 6, 2)))))))
    (ms_b (ms_b (ms_b (ms_lf (ms_iload_n (k := 1) hx hb rfl (by decide +kernel : decode cX12_fillsLies 67 = .ok (.iload_n 1, 1))))
    (ms_lf (ms_imul hx hb (by decide +kernel : decode cX12_fillsLies 68 = .ok (.imul, 1)))))
    (ms_b (ms_lf (ms_iload_n (k := 2) hx hb rfl (by decide +kernel : decode cX12_fillsLies 69 = .ok (.iload_n 2, 1))))
    (ms_lf (ms_iload_n (k := 3) hx hb rfl (by decide +kernel : decode cX12_fillsLies 70 = .ok (.iload_n 3, 1))))))
    (ms_b (ms_b (ms_lf (ms_ivS hx hb hml hown hts hgo hEX (mm_GS hAW (mm_GI hAW gi_202) qw_1405 qw_1406 qw_137) rfl hd_202 (mm_rm hRf hRl (Nat.le_of_ble_eq_true rfl)) (by decide +kernel : decode cX12_fillsLies 71 = .ok (.invokestatic 360, 3))))
    (ms_lf (ms_iadd hx hb (by decide +kernel : decode cX12_fillsLies 74 = .ok (.iadd, 1)))))
    (ms_b (ms_lf (ms_iald hx hb hf hA hX (by decide +kernel : decode cX12_fillsLies 75 = .ok (.iaload, 1))))
    (ms_lf (ms_iast hx hb hf hA (by decide +kernel : decode cX12_fillsLies 76 = .ok (.iastore, 1))))))))
    (ms_b (ms_b (ms_b (ms_b (ms_lf (ms_iinc hx hb (by decide) (by decide : 3 < 4) (by decide +kernel : decode cX12_fillsLies 77 = .ok (.iinc 3 1, 3))))
    (ms_lf (ms_goto hx hb (by decide) (by decide +kernel : decode cX12_fillsLies 80 = .ok (.goto (-30), 3)))))
    (ms_b (ms_lf (ms_aload_n (k := 0) hx hb rfl (by decide +kernel : decode cX12_fillsLies 83 = .ok (.aload_n 0, 1))))
    (ms_lf (ms_getf (C := RX12) (T := TX12) (N := 80) hx hb hf hts (fun w h => hAW w (inq_12 w h)) hown hK rfl (by decide) (hts _ (hAW _ qw_1468)) rfl (by decide +kernel : decode cX12_fillsLies 84 = .ok (.getfield 125, 3))))))
    (ms_b (ms_b (ms_lf (ms_iconst hx hb (by decide) (by decide +kernel : decode cX12_fillsLies 87 = .ok (.iconst 4, 1))))
    (ms_lf (ms_iload_n (k := 1) hx hb rfl (by decide +kernel : decode cX12_fillsLies 88 = .ok (.iload_n 1, 1)))))
    (ms_b (ms_lf (ms_imul hx hb (by decide +kernel : decode cX12_fillsLies 89 = .ok (.imul, 1))))
    (ms_lf (ms_iload_n (k := 2) hx hb rfl (by decide +kernel : decode cX12_fillsLies 90 = .ok (.iload_n 2, 1)))))))
    (ms_b (ms_b (ms_b (ms_lf (ms_iadd hx hb (by decide +kernel : decode cX12_fillsLies 91 = .ok (.iadd, 1))))
    (ms_lf (ms_aload_n (k := 0) hx hb rfl (by decide +kernel : decode cX12_fillsLies 92 = .ok (.aload_n 0, 1)))))
    (ms_b (ms_lf (ms_ivV (C := RX12) (T := TX12) (N := 80) hx hb hml hown hts hgo hEX hf hK rfl (mm_GV hAW (mm_GI hAW gi_204) qw_1397 qw_1399 qw_47 qw_137) rfl ⟨rfl, hd_204⟩ (mm_rm hRf hRl (Nat.le_of_ble_eq_true rfl)) (by decide +kernel : decode cX12_fillsLies 93 = .ok (.invokevirtual 356, 3))))
    (ms_lf (ms_iast hx hb hf hA (by decide +kernel : decode cX12_fillsLies 96 = .ok (.iastore, 1))))))
    (ms_b (ms_b (ms_lf (ms_iinc hx hb (by decide) (by decide : 2 < 4) (by decide +kernel : decode cX12_fillsLies 97 = .ok (.iinc 2 1, 3))))
    (ms_lf (ms_goto hx hb (by decide) (by decide +kernel : decode cX12_fillsLies 100 = .ok (.goto (-57), 3)))))
    (ms_b (ms_lf (ms_iinc hx hb (by decide) (by decide : 1 < 4) (by decide +kernel : decode cX12_fillsLies 103 = .ok (.iinc 1 1, 3))))
    (ms_b (ms_lf (ms_goto hx hb (by decide) (by decide +kernel : decode cX12_fillsLies 106 = .ok (.goto (-73), 3))))
    (ms_lf (ms_ret hx hb hr hlk (by decide +kernel : decode cX12_fillsLies 109 = .ok (.return_, 1)))))))))))
set_option maxRecDepth 100000 in
set_option maxHeartbeats 8000000 in
/-- TippedCratesModel.in -/
theorem sd_206 (l : Launch) (f : Nat → Nat) (D : va_G) (cA : FieldType → ClassId) (d : Nat) : mm_Ok2 l f D cA d (yX12_in, cX12_in, 3, (some .boolean), mc_206) := by
  intro p e R s m args below meth c C hRf hRl pc
  obtain ⟨hx, hb, hml, hr, hlk, hnm, hown, hts, hEX, hgo, hf⟩ := C
  obtain ⟨hK, hA, hX, hZs, hZc, hZq, hTx, hSR0, hSR1, hAO, hN⟩ := id hEX
  have hAW : ∀ w ∈ mm_AW, w ∈ (Cond.code yX12_in cX12_in 3 (some .boolean) :: mm_AW) := fun w h => List.mem_cons_of_mem _ h
  have hown : s.vm.findClass "TippedCratesModel" = some m.cls := hown
  show mm_S p l e R s m args below meth c f D mm_cl cA 3 _ pc (mc_206 pc)
  unfold mc_206
  exact (ms_b (ms_b (ms_b (ms_lf (ms_iload_n (k := 0) hx hb rfl (by decide +kernel : decode cX12_in 0 = .ok (.iload_n 0, 1))))
    (ms_lf (ms_iload_n (k := 1) hx hb rfl (by decide +kernel : decode cX12_in 1 = .ok (.iload_n 1, 1)))))
    (ms_b (ms_lf (ms_ic_lt hx hb (by decide) (by decide +kernel : decode cX12_in 2 = .ok (.if_icmp .lt 12, 3))))
    (ms_b (ms_lf (ms_iload_n (k := 0) hx hb rfl (by decide +kernel : decode cX12_in 5 = .ok (.iload_n 0, 1))))
    (ms_lf (ms_iload_n (k := 2) hx hb rfl (by decide +kernel : decode cX12_in 6 = .ok (.iload_n 2, 1)))))))
    (ms_b (ms_b (ms_lf (ms_ic_gt hx hb (by decide) (by decide +kernel : decode cX12_in 7 = .ok (.if_icmp .gt 7, 3))))
    (ms_lf (ms_iconst hx hb (by decide) (by decide +kernel : decode cX12_in 10 = .ok (.iconst 1, 1)))))
    (ms_b (ms_lf (ms_goto hx hb (by decide) (by decide +kernel : decode cX12_in 11 = .ok (.goto 4, 3))))
    (ms_b (ms_lf (ms_iconst hx hb (by decide) (by decide +kernel : decode cX12_in 14 = .ok (.iconst 0, 1))))
    (ms_lf (ms_iret hx hb hr hlk (by decide +kernel : decode cX12_in 15 = .ok (.ireturn, 1))))))))
set_option maxRecDepth 100000 in
set_option maxHeartbeats 8000000 in
/-- TippedCratesModel.within -/
theorem sd_207 (l : Launch) (f : Nat → Nat) (D : va_G) (cA : FieldType → ClassId) (d : Nat) : mm_Ok2 l f D cA d (yX12_within, cX12_within, 3, (some .int), mc_207) := by
  intro p e R s m args below meth c C hRf hRl pc
  obtain ⟨hx, hb, hml, hr, hlk, hnm, hown, hts, hEX, hgo, hf⟩ := C
  obtain ⟨hK, hA, hX, hZs, hZc, hZq, hTx, hSR0, hSR1, hAO, hN⟩ := id hEX
  have hAW : ∀ w ∈ mm_AW, w ∈ (Cond.code yX12_within cX12_within 3 (some .int) :: mm_AW) := fun w h => List.mem_cons_of_mem _ h
  have hown : s.vm.findClass "TippedCratesModel" = some m.cls := hown
  show mm_S p l e R s m args below meth c f D mm_cl cA 3 _ pc (mc_207 pc)
  unfold mc_207
  exact (ms_b (ms_b (ms_b (ms_lf (ms_iload_n (k := 0) hx hb rfl (by decide +kernel : decode cX12_within 0 = .ok (.iload_n 0, 1))))
    (ms_b (ms_lf (ms_iload_n (k := 1) hx hb rfl (by decide +kernel : decode cX12_within 1 = .ok (.iload_n 1, 1))))
    (ms_lf (ms_ic_ge hx hb (by decide) (by decide +kernel : decode cX12_within 2 = .ok (.if_icmp .ge 7, 3))))))
    (ms_b (ms_lf (ms_iload_n (k := 1) hx hb rfl (by decide +kernel : decode cX12_within 5 = .ok (.iload_n 1, 1))))
    (ms_b (ms_lf (ms_goto hx hb (by decide) (by decide +kernel : decode cX12_within 6 = .ok (.goto 13, 3))))
    (ms_lf (ms_iload_n (k := 0) hx hb rfl (by decide +kernel : decode cX12_within 9 = .ok (.iload_n 0, 1)))))))
    (ms_b (ms_b (ms_lf (ms_iload_n (k := 2) hx hb rfl (by decide +kernel : decode cX12_within 10 = .ok (.iload_n 2, 1))))
    (ms_b (ms_lf (ms_ic_le hx hb (by decide) (by decide +kernel : decode cX12_within 11 = .ok (.if_icmp .le 7, 3))))
    (ms_lf (ms_iload_n (k := 2) hx hb rfl (by decide +kernel : decode cX12_within 14 = .ok (.iload_n 2, 1))))))
    (ms_b (ms_lf (ms_goto hx hb (by decide) (by decide +kernel : decode cX12_within 15 = .ok (.goto 4, 3))))
    (ms_b (ms_lf (ms_iload_n (k := 0) hx hb rfl (by decide +kernel : decode cX12_within 18 = .ok (.iload_n 0, 1))))
    (ms_lf (ms_iret hx hb hr hlk (by decide +kernel : decode cX12_within 19 = .ok (.ireturn, 1))))))))
set_option maxRecDepth 100000 in
set_option maxHeartbeats 8000000 in
/-- TippedCratesModel.flags -/
theorem sd_208 (l : Launch) (f : Nat → Nat) (D : va_G) (cA : FieldType → ClassId) (d : Nat) : mm_Ok2 l f D cA d (yX12_flags, cX12_flags, 1, (some .int), mc_208) := by
  intro p e R s m args below meth c C hRf hRl pc
  obtain ⟨hx, hb, hml, hr, hlk, hnm, hown, hts, hEX, hgo, hf⟩ := C
  obtain ⟨hK, hA, hX, hZs, hZc, hZq, hTx, hSR0, hSR1, hAO, hN⟩ := id hEX
  have hAW : ∀ w ∈ mm_AW, w ∈ (Cond.code yX12_flags cX12_flags 1 (some .int) :: mm_AW) := fun w h => List.mem_cons_of_mem _ h
  have hown : s.vm.findClass "TippedCratesModel" = some m.cls := hown
  show mm_S p l e R s m args below meth c f D mm_cl cA 1 _ pc (mc_208 pc)
  unfold mc_208
  exact (ms_b (ms_b (ms_b (ms_lf (ms_aload_n (k := 0) hx hb rfl (by decide +kernel : decode cX12_flags 0 = .ok (.aload_n 0, 1))))
    (ms_b (ms_lf (ms_getf (C := RX12) (T := TX12) (N := 80) hx hb hf hts (fun w h => hAW w (inq_12 w h)) hown hK rfl (by decide) (hts _ (hAW _ qw_1437)) rfl (by decide +kernel : decode cX12_flags 1 = .ok (.getfield 43, 3))))
    (ms_lf (ms_aload_n (k := 0) hx hb rfl (by decide +kernel : decode cX12_flags 4 = .ok (.aload_n 0, 1))))))
    (ms_b (ms_lf (ms_getf (C := RX12) (T := TX12) (N := 80) hx hb hf hts (fun w h => hAW w (inq_12 w h)) hown hK rfl (by decide) (hts _ (hAW _ qw_1433)) rfl (by decide +kernel : decode cX12_flags 5 = .ok (.getfield 272, 3))))
    (ms_b (ms_lf (ms_iald hx hb hf hA hX (by decide +kernel : decode cX12_flags 8 = .ok (.iaload, 1))))
    (ms_lf (ms_aload_n (k := 0) hx hb rfl (by decide +kernel : decode cX12_flags 9 = .ok (.aload_n 0, 1)))))))
    (ms_b (ms_b (ms_lf (ms_getf (C := RX12) (T := TX12) (N := 80) hx hb hf hts (fun w h => hAW w (inq_12 w h)) hown hK rfl (by decide) (hts _ (hAW _ qw_1438)) rfl (by decide +kernel : decode cX12_flags 10 = .ok (.getfield 46, 3))))
    (ms_b (ms_lf (ms_aload_n (k := 0) hx hb rfl (by decide +kernel : decode cX12_flags 13 = .ok (.aload_n 0, 1))))
    (ms_lf (ms_getf (C := RX12) (T := TX12) (N := 80) hx hb hf hts (fun w h => hAW w (inq_12 w h)) hown hK rfl (by decide) (hts _ (hAW _ qw_1433)) rfl (by decide +kernel : decode cX12_flags 14 = .ok (.getfield 272, 3))))))
    (ms_b (ms_lf (ms_iald hx hb hf hA hX (by decide +kernel : decode cX12_flags 17 = .ok (.iaload, 1))))
    (ms_b (ms_lf (ms_imul hx hb (by decide +kernel : decode cX12_flags 18 = .ok (.imul, 1))))
    (ms_lf (ms_iret hx hb hr hlk (by decide +kernel : decode cX12_flags 19 = .ok (.ireturn, 1))))))))
set_option maxRecDepth 100000 in
set_option maxHeartbeats 8000000 in
/-- TippedCratesModel.isFlag -/
theorem sd_209 (l : Launch) (f : Nat → Nat) (D : va_G) (cA : FieldType → ClassId) (d : Nat) : mm_Ok2 l f D cA d (yX12_isFlag, cX12_isFlag, 2, (some .boolean), mc_209) := by
  intro p e R s m args below meth c C hRf hRl pc
  obtain ⟨hx, hb, hml, hr, hlk, hnm, hown, hts, hEX, hgo, hf⟩ := C
  obtain ⟨hK, hA, hX, hZs, hZc, hZq, hTx, hSR0, hSR1, hAO, hN⟩ := id hEX
  have hAW : ∀ w ∈ mm_AW, w ∈ (Cond.code yX12_isFlag cX12_isFlag 2 (some .boolean) :: mm_AW) := fun w h => List.mem_cons_of_mem _ h
  have hown : s.vm.findClass "TippedCratesModel" = some m.cls := hown
  show mm_S p l e R s m args below meth c f D mm_cl cA 2 _ pc (mc_209 pc)
  unfold mc_209
  exact (ms_b (ms_b (ms_b (ms_lf (ms_iload_n (k := 1) hx hb rfl (by decide +kernel : decode cX12_isFlag 0 = .ok (.iload_n 1, 1))))
    (ms_lf (ms_iconst hx hb (by decide) (by decide +kernel : decode cX12_isFlag 1 = .ok (.iconst 0, 1)))))
    (ms_b (ms_lf (ms_aload_n (k := 0) hx hb rfl (by decide +kernel : decode cX12_isFlag 2 = .ok (.aload_n 0, 1))))
    (ms_lf (ms_ivV (C := RX12) (T := TX12) (N := 80) hx hb hml hown hts hgo hEX hf hK rfl (mm_GV hAW (mm_GI hAW gi_208) qw_1778 qw_1780 qw_75 qw_137) rfl ⟨rfl, hd_208⟩ (mm_rm hRf hRl (Nat.le_of_ble_eq_true rfl)) (by decide +kernel : decode cX12_isFlag 3 = .ok (.invokevirtual 363, 3))))))
    (ms_b (ms_b (ms_lf (ms_iconst hx hb (by decide) (by decide +kernel : decode cX12_isFlag 6 = .ok (.iconst 1, 1))))
    (ms_lf (ms_isub hx hb (by decide +kernel : decode cX12_isFlag 7 = .ok (.isub, 1)))))
    (ms_b (ms_lf (ms_ivS hx hb hml hown hts hgo hEX (mm_GS hAW (mm_GI hAW gi_206) qw_1782 qw_1783 qw_137) rfl hd_206 (mm_rm hRf hRl (Nat.le_of_ble_eq_true rfl)) (by decide +kernel : decode cX12_isFlag 8 = .ok (.invokestatic 366, 3))))
    (ms_lf (ms_iret hx hb hr hlk (by decide +kernel : decode cX12_isFlag 11 = .ok (.ireturn, 1)))))))
set_option maxRecDepth 100000 in
set_option maxHeartbeats 8000000 in
/-- TippedCratesModel.isCrate -/
theorem sd_210 (l : Launch) (f : Nat → Nat) (D : va_G) (cA : FieldType → ClassId) (d : Nat) : mm_Ok2 l f D cA d (yX12_isCrate, cX12_isCrate, 2, (some .boolean), mc_210) := by
  intro p e R s m args below meth c C hRf hRl pc
  obtain ⟨hx, hb, hml, hr, hlk, hnm, hown, hts, hEX, hgo, hf⟩ := C
  obtain ⟨hK, hA, hX, hZs, hZc, hZq, hTx, hSR0, hSR1, hAO, hN⟩ := id hEX
  have hAW : ∀ w ∈ mm_AW, w ∈ (Cond.code yX12_isCrate cX12_isCrate 2 (some .boolean) :: mm_AW) := fun w h => List.mem_cons_of_mem _ h
  have hown : s.vm.findClass "TippedCratesModel" = some m.cls := hown
  show mm_S p l e R s m args below meth c f D mm_cl cA 2 _ pc (mc_210 pc)
  unfold mc_210
  exact (ms_b (ms_b (ms_b (ms_lf (ms_iload_n (k := 1) hx hb rfl (by decide +kernel : decode cX12_isCrate 0 = .ok (.iload_n 1, 1))))
    (ms_lf (ms_iconst hx hb (by decide) (by decide +kernel : decode cX12_isCrate 1 = .ok (.iconst 0, 1)))))
    (ms_b (ms_lf (ms_aload_n (k := 0) hx hb rfl (by decide +kernel : decode cX12_isCrate 2 = .ok (.aload_n 0, 1))))
    (ms_b (ms_lf (ms_getf (C := RX12) (T := TX12) (N := 80) hx hb hf hts (fun w h => hAW w (inq_12 w h)) hown hK rfl (by decide) (hts _ (hAW _ qw_1446)) rfl (by decide +kernel : decode cX12_isCrate 3 = .ok (.getfield 70, 3))))
    (ms_lf (ms_aload_n (k := 0) hx hb rfl (by decide +kernel : decode cX12_isCrate 6 = .ok (.aload_n 0, 1)))))))
    (ms_b (ms_b (ms_lf (ms_getf (C := RX12) (T := TX12) (N := 80) hx hb hf hts (fun w h => hAW w (inq_12 w h)) hown hK rfl (by decide) (hts _ (hAW _ qw_1433)) rfl (by decide +kernel : decode cX12_isCrate 7 = .ok (.getfield 272, 3))))
    (ms_b (ms_lf (ms_iald hx hb hf hA hX (by decide +kernel : decode cX12_isCrate 10 = .ok (.iaload, 1))))
    (ms_lf (ms_iconst hx hb (by decide) (by decide +kernel : decode cX12_isCrate 11 = .ok (.iconst 1, 1))))))
    (ms_b (ms_lf (ms_isub hx hb (by decide +kernel : decode cX12_isCrate 12 = .ok (.isub, 1))))
    (ms_b (ms_lf (ms_ivS hx hb hml hown hts hgo hEX (mm_GS hAW (mm_GI hAW gi_206) qw_1782 qw_1783 qw_137) rfl hd_206 (mm_rm hRf hRl (Nat.le_of_ble_eq_true rfl)) (by decide +kernel : decode cX12_isCrate 13 = .ok (.invokestatic 366, 3))))
    (ms_lf (ms_iret hx hb hr hlk (by decide +kernel : decode cX12_isCrate 16 = .ok (.ireturn, 1))))))))
set_option maxRecDepth 100000 in
set_option maxHeartbeats 8000000 in
/-- TippedCratesModel.isMark -/
theorem sd_211 (l : Launch) (f : Nat → Nat) (D : va_G) (cA : FieldType → ClassId) (d : Nat) : mm_Ok2 l f D cA d (yX12_isMark, cX12_isMark, 1, (some .boolean), mc_211) := by
  intro p e R s m args below meth c C hRf hRl pc
  obtain ⟨hx, hb, hml, hr, hlk, hnm, hown, hts, hEX, hgo, hf⟩ := C
  obtain ⟨hK, hA, hX, hZs, hZc, hZq, hTx, hSR0, hSR1, hAO, hN⟩ := id hEX
  have hAW : ∀ w ∈ mm_AW, w ∈ (Cond.code yX12_isMark cX12_isMark 1 (some .boolean) :: mm_AW) := fun w h => List.mem_cons_of_mem _ h
  have hown : s.vm.findClass "TippedCratesModel" = some m.cls := hown
  show mm_S p l e R s m args below meth c f D mm_cl cA 1 _ pc (mc_211 pc)
  unfold mc_211
  exact (ms_b (ms_b (ms_lf (ms_iload_n (k := 0) hx hb rfl (by decide +kernel : decode cX12_isMark 0 = .ok (.iload_n 0, 1))))
    (ms_lf (ms_iconst hx hb (by decide) (by decide +kernel : decode cX12_isMark 1 = .ok (.iconst 0, 1)))))
    (ms_b (ms_lf (ms_bipush hx hb (by decide) (by decide +kernel : decode cX12_isMark 2 = .ok (.bipush 9, 2))))
    (ms_b (ms_lf (ms_ivS hx hb hml hown hts hgo hEX (mm_GS hAW (mm_GI hAW gi_206) qw_1782 qw_1783 qw_137) rfl hd_206 (mm_rm hRf hRl (Nat.le_of_ble_eq_true rfl)) (by decide +kernel : decode cX12_isMark 4 = .ok (.invokestatic 366, 3))))
    (ms_lf (ms_iret hx hb hr hlk (by decide +kernel : decode cX12_isMark 7 = .ok (.ireturn, 1)))))))
set_option maxRecDepth 100000 in
set_option maxHeartbeats 8000000 in
/-- TippedCratesModel.isWay -/
theorem sd_212 (l : Launch) (f : Nat → Nat) (D : va_G) (cA : FieldType → ClassId) (d : Nat) : mm_Ok2 l f D cA d (yX12_isWay, cX12_isWay, 1, (some .boolean), mc_212) := by
  intro p e R s m args below meth c C hRf hRl pc
  obtain ⟨hx, hb, hml, hr, hlk, hnm, hown, hts, hEX, hgo, hf⟩ := C
  obtain ⟨hK, hA, hX, hZs, hZc, hZq, hTx, hSR0, hSR1, hAO, hN⟩ := id hEX
  have hAW : ∀ w ∈ mm_AW, w ∈ (Cond.code yX12_isWay cX12_isWay 1 (some .boolean) :: mm_AW) := fun w h => List.mem_cons_of_mem _ h
  have hown : s.vm.findClass "TippedCratesModel" = some m.cls := hown
  show mm_S p l e R s m args below meth c f D mm_cl cA 1 _ pc (mc_212 pc)
  unfold mc_212
  exact (ms_b (ms_b (ms_lf (ms_iload_n (k := 0) hx hb rfl (by decide +kernel : decode cX12_isWay 0 = .ok (.iload_n 0, 1))))
    (ms_lf (ms_iconst hx hb (by decide) (by decide +kernel : decode cX12_isWay 1 = .ok (.iconst 0, 1)))))
    (ms_b (ms_lf (ms_iconst hx hb (by decide) (by decide +kernel : decode cX12_isWay 2 = .ok (.iconst 3, 1))))
    (ms_b (ms_lf (ms_ivS hx hb hml hown hts hgo hEX (mm_GS hAW (mm_GI hAW gi_206) qw_1782 qw_1783 qw_137) rfl hd_206 (mm_rm hRf hRl (Nat.le_of_ble_eq_true rfl)) (by decide +kernel : decode cX12_isWay 3 = .ok (.invokestatic 366, 3))))
    (ms_lf (ms_iret hx hb hr hlk (by decide +kernel : decode cX12_isWay 6 = .ok (.ireturn, 1)))))))
set_option maxRecDepth 100000 in
set_option maxHeartbeats 8000000 in
/-- TippedCratesModel.isShut -/
theorem sd_213 (l : Launch) (f : Nat → Nat) (D : va_G) (cA : FieldType → ClassId) (d : Nat) : mm_Ok2 l f D cA d (yX12_isShut, cX12_isShut, 2, (some .boolean), mc_213) := by
  intro p e R s m args below meth c C hRf hRl pc
  obtain ⟨hx, hb, hml, hr, hlk, hnm, hown, hts, hEX, hgo, hf⟩ := C
  obtain ⟨hK, hA, hX, hZs, hZc, hZq, hTx, hSR0, hSR1, hAO, hN⟩ := id hEX
  have hAW : ∀ w ∈ mm_AW, w ∈ (Cond.code yX12_isShut cX12_isShut 2 (some .boolean) :: mm_AW) := fun w h => List.mem_cons_of_mem _ h
  have hown : s.vm.findClass "TippedCratesModel" = some m.cls := hown
  show mm_S p l e R s m args below meth c f D mm_cl cA 2 _ pc (mc_213 pc)
  unfold mc_213
  exact (ms_b (ms_b (ms_b (ms_lf (ms_aload_n (k := 0) hx hb rfl (by decide +kernel : decode cX12_isShut 0 = .ok (.aload_n 0, 1))))
    (ms_b (ms_lf (ms_getf (C := RX12) (T := TX12) (N := 80) hx hb hf hts (fun w h => hAW w (inq_12 w h)) hown hK rfl (by decide) (hts _ (hAW _ qw_1474)) rfl (by decide +kernel : decode cX12_isShut 1 = .ok (.getfield 370, 3))))
    (ms_lf (ms_iload_n (k := 1) hx hb rfl (by decide +kernel : decode cX12_isShut 4 = .ok (.iload_n 1, 1))))))
    (ms_b (ms_lf (ms_ishr hx hb (by decide +kernel : decode cX12_isShut 5 = .ok (.ishr, 1))))
    (ms_b (ms_lf (ms_iconst hx hb (by decide) (by decide +kernel : decode cX12_isShut 6 = .ok (.iconst 1, 1))))
    (ms_lf (ms_iand hx hb (by decide +kernel : decode cX12_isShut 7 = .ok (.iand, 1)))))))
    (ms_b (ms_b (ms_lf (ms_iconst hx hb (by decide) (by decide +kernel : decode cX12_isShut 8 = .ok (.iconst 1, 1))))
    (ms_b (ms_lf (ms_ic_ne hx hb (by decide) (by decide +kernel : decode cX12_isShut 9 = .ok (.if_icmp .ne 7, 3))))
    (ms_lf (ms_iconst hx hb (by decide) (by decide +kernel : decode cX12_isShut 12 = .ok (.iconst 1, 1))))))
    (ms_b (ms_lf (ms_goto hx hb (by decide) (by decide +kernel : decode cX12_isShut 13 = .ok (.goto 4, 3))))
    (ms_b (ms_lf (ms_iconst hx hb (by decide) (by decide +kernel : decode cX12_isShut 16 = .ok (.iconst 0, 1))))
    (ms_lf (ms_iret hx hb hr hlk (by decide +kernel : decode cX12_isShut 17 = .ok (.ireturn, 1))))))))
set_option maxRecDepth 100000 in
set_option maxHeartbeats 8000000 in
/-- TippedCratesModel.begins -/
theorem sd_214 (l : Launch) (f : Nat → Nat) (D : va_G) (cA : FieldType → ClassId) (d : Nat) : mm_Ok2 l f D cA d (yX12_begins, cX12_begins, 4, none, mc_214) := by
  intro p e R s m args below meth c C hRf hRl pc
  obtain ⟨hx, hb, hml, hr, hlk, hnm, hown, hts, hEX, hgo, hf⟩ := C
  obtain ⟨hK, hA, hX, hZs, hZc, hZq, hTx, hSR0, hSR1, hAO, hN⟩ := id hEX
  have hAW : ∀ w ∈ mm_AW, w ∈ (Cond.code yX12_begins cX12_begins 4 none :: mm_AW) := fun w h => List.mem_cons_of_mem _ h
  have hown : s.vm.findClass "TippedCratesModel" = some m.cls := hown
  show mm_S p l e R s m args below meth c f D mm_cl cA 4 _ pc (mc_214 pc)
  unfold mc_214
  exact (ms_b (ms_b (ms_b (ms_b (ms_b (ms_b (ms_b (ms_lf (ms_aload_n (k := 0) hx hb rfl (by decide +kernel : decode cX12_begins 0 = .ok (.aload_n 0, 1))))
    (ms_lf (ms_getf (C := RX12) (T := TX12) (N := 80) hx hb hf hts (fun w h => hAW w (inq_12 w h)) hown hK rfl (by decide) (hts _ (hAW _ qw_1437)) rfl (by decide +kernel : decode cX12_begins 1 = .ok (.getfield 43, 3)))))
    (ms_b (ms_lf (ms_aload_n (k := 0) hx hb rfl (by decide +kernel : decode cX12_begins 4 = .ok (.aload_n 0, 1))))
    (ms_b (ms_lf (ms_getf (C := RX12) (T := TX12) (N := 80) hx hb hf hts (fun w h => hAW w (inq_12 w h)) hown hK rfl (by decide) (hts _ (hAW _ qw_1433)) rfl (by decide +kernel : decode cX12_begins 5 = .ok (.getfield 272, 3))))
    (ms_lf (ms_iald hx hb hf hA hX (by decide +kernel : decode cX12_begins 8 = .ok (.iaload, 1)))))))
    (ms_b (ms_b (ms_lf (ms_istore_n (k := 1) hx hb rfl (by decide : 1 < 4) (by decide +kernel : decode cX12_begins 9 = .ok (.istore_n 1, 1))))
    (ms_lf (ms_iconst hx hb (by decide) (by decide +kernel : decode cX12_begins 10 = .ok (.iconst 0, 1)))))
    (ms_b (ms_lf (ms_istore_n (k := 2) hx hb rfl (by decide : 2 < 4) (by decide +kernel : decode cX12_begins 11 = .ok (.istore_n 2, 1))))
    (ms_b (ms_lf (ms_iload_n (k := 2) hx hb rfl (by decide +kernel : decode cX12_begins 12 = .ok (.iload_n 2, 1))))
    (ms_lf (ms_bipush hx hb (by decide) (by decide +kernel : decode cX12_begins 13 = .ok (.bipush 51, 2))))))))
    (ms_b (ms_b (ms_b (ms_lf (ms_ic_ge hx hb (by decide) (by decide +kernel : decode cX12_begins 15 = .ok (.if_icmp .ge 16, 3))))
    (ms_lf (ms_aload_n (k := 0) hx hb rfl (by decide +kernel : decode cX12_begins 18 = .ok (.aload_n 0, 1)))))
    (ms_b (ms_lf (ms_getf (C := RX12) (T := TX12) (N := 80) hx hb hf hts (fun w h => hAW w (inq_12 w h)) hown hK rfl (by decide) (hts _ (hAW _ qw_1472)) rfl (by decide +kernel : decode cX12_begins 19 = .ok (.getfield 134, 3))))
    (ms_b (ms_lf (ms_iload_n (k := 2) hx hb rfl (by decide +kernel : decode cX12_begins 22 = .ok (.iload_n 2, 1))))
    (ms_lf (ms_iconst hx hb (by decide) (by decide +kernel : decode cX12_begins 23 = .ok (.iconst 0, 1)))))))
    (ms_b (ms_b (ms_lf (ms_iast hx hb hf hA (by decide +kernel : decode cX12_begins 24 = .ok (.iastore, 1))))
    (ms_b (ms_lf (ms_iinc hx hb (by decide) (by decide : 2 < 4) (by decide +kernel : decode cX12_begins 25 = .ok (.iinc 2 1, 3))))
    (ms_lf (ms_goto hx hb (by decide) (by decide +kernel : decode cX12_begins 28 = .ok (.goto (-16), 3))))))
    (ms_b (ms_lf (ms_aload_n (k := 0) hx hb rfl (by decide +kernel : decode cX12_begins 31 = .ok (.aload_n 0, 1))))
    (ms_b (ms_lf (ms_iconst hx hb (by decide) (by decide +kernel : decode cX12_begins 32 = .ok (.iconst 0, 1))))
    (ms_lf (ms_put (C := RX12) (T := TX12) (N := 80) hx hb hf hts (fun w h => hAW w (inq_12 w h)) tyX12 tyX12_ok nmX12 hown hK rfl (by decide) (hts _ (hAW _ qw_1474)) rfl rfl rfl (by decide +kernel : decode cX12_begins 33 = .ok (.putfield 370, 3)))))))))
    (ms_b (ms_b (ms_b (ms_b (ms_lf (ms_bipush hx hb (by decide) (by decide +kernel : decode cX12_begins 36 = .ok (.bipush 8, 2))))
    (ms_lf (ms_aload_n (k := 0) hx hb rfl (by decide +kernel : decode cX12_begins 38 = .ok (.aload_n 0, 1)))))
    (ms_b (ms_lf (ms_getf (C := RX12) (T := TX12) (N := 80) hx hb hf hts (fun w h => hAW w (inq_12 w h)) hown hK rfl (by decide) (hts _ (hAW _ qw_1433)) rfl (by decide +kernel : decode cX12_begins 39 = .ok (.getfield 272, 3))))
    (ms_b (ms_lf (ms_imul hx hb (by decide +kernel : decode cX12_begins 42 = .ok (.imul, 1))))
    (ms_lf (ms_istore_n (k := 2) hx hb rfl (by decide : 2 < 4) (by decide +kernel : decode cX12_begins 43 = .ok (.istore_n 2, 1)))))))
    (ms_b (ms_b (ms_lf (ms_iload_n (k := 2) hx hb rfl (by decide +kernel : decode cX12_begins 44 = .ok (.iload_n 2, 1))))
    (ms_lf (ms_bipush hx hb (by decide) (by decide +kernel : decode cX12_begins 45 = .ok (.bipush 8, 2)))))
    (ms_b (ms_lf (ms_aload_n (k := 0) hx hb rfl (by decide +kernel : decode cX12_begins 47 = .ok (.aload_n 0, 1))))
    (ms_b (ms_lf (ms_getf (C := RX12) (T := TX12) (N := 80) hx hb hf hts (fun w h => hAW w (inq_12 w h)) hown hK rfl (by decide) (hts _ (hAW _ qw_1433)) rfl (by decide +kernel : decode cX12_begins 48 = .ok (.getfield 272, 3))))
    (ms_lf (ms_imul hx hb (by decide +kernel : decode cX12_begins 51 = .ok (.imul, 1))))))))
    (ms_b (ms_b (ms_b (ms_lf (ms_aload_n (k := 0) hx hb rfl (by decide +kernel : decode cX12_begins 52 = .ok (.aload_n 0, 1))))
    (ms_lf (ms_getf (C := RX12) (T := TX12) (N := 80) hx hb hf hts (fun w h => hAW w (inq_12 w h)) hown hK rfl (by decide) (hts _ (hAW _ qw_1439)) rfl (by decide +kernel : decode cX12_begins 53 = .ok (.getfield 49, 3)))))
    (ms_b (ms_lf (ms_aload_n (k := 0) hx hb rfl (by decide +kernel : decode cX12_begins 56 = .ok (.aload_n 0, 1))))
    (ms_b (ms_lf (ms_getf (C := RX12) (T := TX12) (N := 80) hx hb hf hts (fun w h => hAW w (inq_12 w h)) hown hK rfl (by decide) (hts _ (hAW _ qw_1433)) rfl (by decide +kernel : decode cX12_begins 57 = .ok (.getfield 272, 3))))
    (ms_lf (ms_iald hx hb hf hA hX (by decide +kernel : decode cX12_begins 60 = .ok (.iaload, 1)))))))
    (ms_b (ms_b (ms_lf (ms_iadd hx hb (by decide +kernel : decode cX12_begins 61 = .ok (.iadd, 1))))
    (ms_b (ms_lf (ms_ic_ge hx hb (by decide) (by decide +kernel : decode cX12_begins 62 = .ok (.if_icmp .ge 35, 3))))
    (ms_lf (ms_aload_n (k := 0) hx hb rfl (by decide +kernel : decode cX12_begins 65 = .ok (.aload_n 0, 1))))))
    (ms_b (ms_lf (ms_dup hx hb (by decide +kernel : decode cX12_begins 66 = .ok (.dup, 1))))
    (ms_b (ms_lf (ms_getf (C := RX12) (T := TX12) (N := 80) hx hb hf hts (fun w h => hAW w (inq_12 w h)) hown hK rfl (by decide) (hts _ (hAW _ qw_1474)) rfl (by decide +kernel : decode cX12_begins 67 = .ok (.getfield 370, 3))))
    (ms_lf (ms_iconst hx hb (by decide) (by decide +kernel : decode cX12_begins 70 = .ok (.iconst 1, 1))))))))))
    (ms_b (ms_b (ms_b (ms_b (ms_b (ms_lf (ms_iload_n (k := 1) hx hb rfl (by decide +kernel : decode cX12_begins 71 = .ok (.iload_n 1, 1))))
    (ms_lf (ms_aload_n (k := 0) hx hb rfl (by decide +kernel : decode cX12_begins 72 = .ok (.aload_n 0, 1)))))
    (ms_b (ms_lf (ms_getf (C := RX12) (T := TX12) (N := 80) hx hb hf hts (fun w h => hAW w (inq_12 w h)) hown hK rfl (by decide) (hts _ (hAW _ qw_1441)) rfl (by decide +kernel : decode cX12_begins 73 = .ok (.getfield 55, 3))))
    (ms_b (ms_lf (ms_iload_n (k := 2) hx hb rfl (by decide +kernel : decode cX12_begins 76 = .ok (.iload_n 2, 1))))
    (ms_lf (ms_iald hx hb hf hA hX (by decide +kernel : decode cX12_begins 77 = .ok (.iaload, 1)))))))
    (ms_b (ms_b (ms_lf (ms_imul hx hb (by decide +kernel : decode cX12_begins 78 = .ok (.imul, 1))))
    (ms_lf (ms_aload_n (k := 0) hx hb rfl (by decide +kernel : decode cX12_begins 79 = .ok (.aload_n 0, 1)))))
    (ms_b (ms_lf (ms_getf (C := RX12) (T := TX12) (N := 80) hx hb hf hts (fun w h => hAW w (inq_12 w h)) hown hK rfl (by decide) (hts _ (hAW _ qw_1440)) rfl (by decide +kernel : decode cX12_begins 80 = .ok (.getfield 52, 3))))
    (ms_b (ms_lf (ms_iload_n (k := 2) hx hb rfl (by decide +kernel : decode cX12_begins 83 = .ok (.iload_n 2, 1))))
    (ms_lf (ms_iald hx hb hf hA hX (by decide +kernel : decode cX12_begins 84 = .ok (.iaload, 1))))))))
    (ms_b (ms_b (ms_b (ms_lf (ms_iadd hx hb (by decide +kernel : decode cX12_begins 85 = .ok (.iadd, 1))))
    (ms_lf (ms_ishl hx hb (by decide +kernel : decode cX12_begins 86 = .ok (.ishl, 1)))))
    (ms_b (ms_lf (ms_ior hx hb (by decide +kernel : decode cX12_begins 87 = .ok (.ior, 1))))
    (ms_b (ms_lf (ms_put (C := RX12) (T := TX12) (N := 80) hx hb hf hts (fun w h => hAW w (inq_12 w h)) tyX12 tyX12_ok nmX12 hown hK rfl (by decide) (hts _ (hAW _ qw_1474)) rfl rfl rfl (by decide +kernel : decode cX12_begins 88 = .ok (.putfield 370, 3))))
    (ms_lf (ms_iinc hx hb (by decide) (by decide : 2 < 4) (by decide +kernel : decode cX12_begins 91 = .ok (.iinc 2 1, 3)))))))
    (ms_b (ms_b (ms_lf (ms_goto hx hb (by decide) (by decide +kernel : decode cX12_begins 94 = .ok (.goto (-50), 3))))
    (ms_b (ms_lf (ms_bipush hx hb (by decide) (by decide +kernel : decode cX12_begins 97 = .ok (.bipush 10, 2))))
    (ms_lf (ms_aload_n (k := 0) hx hb rfl (by decide +kernel : decode cX12_begins 99 = .ok (.aload_n 0, 1))))))
    (ms_b (ms_lf (ms_getf (C := RX12) (T := TX12) (N := 80) hx hb hf hts (fun w h => hAW w (inq_12 w h)) hown hK rfl (by decide) (hts _ (hAW _ qw_1433)) rfl (by decide +kernel : decode cX12_begins 100 = .ok (.getfield 272, 3))))
    (ms_b (ms_lf (ms_imul hx hb (by decide +kernel : decode cX12_begins 103 = .ok (.imul, 1))))
    (ms_lf (ms_istore_n (k := 2) hx hb rfl (by decide : 2 < 4) (by decide +kernel : decode cX12_begins 104 = .ok (.istore_n 2, 1)))))))))
    (ms_b (ms_b (ms_b (ms_b (ms_lf (ms_iload_n (k := 2) hx hb rfl (by decide +kernel : decode cX12_begins 105 = .ok (.iload_n 2, 1))))
    (ms_lf (ms_bipush hx hb (by decide) (by decide +kernel : decode cX12_begins 106 = .ok (.bipush 10, 2)))))
    (ms_b (ms_lf (ms_aload_n (k := 0) hx hb rfl (by decide +kernel : decode cX12_begins 108 = .ok (.aload_n 0, 1))))
    (ms_b (ms_lf (ms_getf (C := RX12) (T := TX12) (N := 80) hx hb hf hts (fun w h => hAW w (inq_12 w h)) hown hK rfl (by decide) (hts _ (hAW _ qw_1433)) rfl (by decide +kernel : decode cX12_begins 109 = .ok (.getfield 272, 3))))
    (ms_lf (ms_imul hx hb (by decide +kernel : decode cX12_begins 112 = .ok (.imul, 1)))))))
    (ms_b (ms_b (ms_lf (ms_aload_n (k := 0) hx hb rfl (by decide +kernel : decode cX12_begins 113 = .ok (.aload_n 0, 1))))
    (ms_b (ms_lf (ms_getf (C := RX12) (T := TX12) (N := 80) hx hb hf hts (fun w h => hAW w (inq_12 w h)) hown hK rfl (by decide) (hts _ (hAW _ qw_1442)) rfl (by decide +kernel : decode cX12_begins 114 = .ok (.getfield 58, 3))))
    (ms_lf (ms_aload_n (k := 0) hx hb rfl (by decide +kernel : decode cX12_begins 117 = .ok (.aload_n 0, 1))))))
    (ms_b (ms_lf (ms_getf (C := RX12) (T := TX12) (N := 80) hx hb hf hts (fun w h => hAW w (inq_12 w h)) hown hK rfl (by decide) (hts _ (hAW _ qw_1433)) rfl (by decide +kernel : decode cX12_begins 118 = .ok (.getfield 272, 3))))
    (ms_b (ms_lf (ms_iald hx hb hf hA hX (by decide +kernel : decode cX12_begins 121 = .ok (.iaload, 1))))
    (ms_lf (ms_iadd hx hb (by decide +kernel : decode cX12_begins 122 = .ok (.iadd, 1))))))))
    (ms_b (ms_b (ms_b (ms_lf (ms_ic_ge hx hb (by decide) (by decide +kernel : decode cX12_begins 123 = .ok (.if_icmp .ge 35, 3))))
    (ms_lf (ms_aload_n (k := 0) hx hb rfl (by decide +kernel : decode cX12_begins 126 = .ok (.aload_n 0, 1)))))
    (ms_b (ms_lf (ms_getf (C := RX12) (T := TX12) (N := 80) hx hb hf hts (fun w h => hAW w (inq_12 w h)) hown hK rfl (by decide) (hts _ (hAW _ qw_1472)) rfl (by decide +kernel : decode cX12_begins 127 = .ok (.getfield 134, 3))))
    (ms_b (ms_lf (ms_iload_n (k := 1) hx hb rfl (by decide +kernel : decode cX12_begins 130 = .ok (.iload_n 1, 1))))
    (ms_lf (ms_aload_n (k := 0) hx hb rfl (by decide +kernel : decode cX12_begins 131 = .ok (.aload_n 0, 1)))))))
    (ms_b (ms_b (ms_lf (ms_getf (C := RX12) (T := TX12) (N := 80) hx hb hf hts (fun w h => hAW w (inq_12 w h)) hown hK rfl (by decide) (hts _ (hAW _ qw_1444)) rfl (by decide +kernel : decode cX12_begins 132 = .ok (.getfield 64, 3))))
    (ms_b (ms_lf (ms_iload_n (k := 2) hx hb rfl (by decide +kernel : decode cX12_begins 135 = .ok (.iload_n 2, 1))))
    (ms_lf (ms_iald hx hb hf hA hX (by decide +kernel : decode cX12_begins 136 = .ok (.iaload, 1))))))
    (ms_b (ms_lf (ms_imul hx hb (by decide +kernel : decode cX12_begins 137 = .ok (.imul, 1))))
    (ms_b (ms_lf (ms_aload_n (k := 0) hx hb rfl (by decide +kernel : decode cX12_begins 138 = .ok (.aload_n 0, 1))))
    (ms_lf (ms_getf (C := RX12) (T := TX12) (N := 80) hx hb hf hts (fun w h => hAW w (inq_12 w h)) hown hK rfl (by decide) (hts _ (hAW _ qw_1443)) rfl (by decide +kernel : decode cX12_begins 139 = .ok (.getfield 61, 3)))))))))))
    (ms_b (ms_b (ms_b (ms_b (ms_b (ms_b (ms_lf (ms_iload_n (k := 2) hx hb rfl (by decide +kernel : decode cX12_begins 142 = .ok (.iload_n 2, 1))))
    (ms_lf (ms_iald hx hb hf hA hX (by decide +kernel : decode cX12_begins 143 = .ok (.iaload, 1)))))
    (ms_b (ms_lf (ms_iadd hx hb (by decide +kernel : decode cX12_begins 144 = .ok (.iadd, 1))))
    (ms_b (ms_lf (ms_aload_n (k := 0) hx hb rfl (by decide +kernel : decode cX12_begins 145 = .ok (.aload_n 0, 1))))
    (ms_lf (ms_getf (C := RX12) (T := TX12) (N := 80) hx hb hf hts (fun w h => hAW w (inq_12 w h)) hown hK rfl (by decide) (hts _ (hAW _ qw_1445)) rfl (by decide +kernel : decode cX12_begins 146 = .ok (.getfield 67, 3)))))))
    (ms_b (ms_b (ms_lf (ms_iload_n (k := 2) hx hb rfl (by decide +kernel : decode cX12_begins 149 = .ok (.iload_n 2, 1))))
    (ms_lf (ms_iald hx hb hf hA hX (by decide +kernel : decode cX12_begins 150 = .ok (.iaload, 1)))))
    (ms_b (ms_lf (ms_iast hx hb hf hA (by decide +kernel : decode cX12_begins 151 = .ok (.iastore, 1))))
    (ms_b (ms_lf (ms_iinc hx hb (by decide) (by decide : 2 < 4) (by decide +kernel : decode cX12_begins 152 = .ok (.iinc 2 1, 3))))
    (ms_lf (ms_goto hx hb (by decide) (by decide +kernel : decode cX12_begins 155 = .ok (.goto (-50), 3))))))))
    (ms_b (ms_b (ms_b (ms_lf (ms_iconst hx hb (by decide) (by decide +kernel : decode cX12_begins 158 = .ok (.iconst 0, 1))))
    (ms_lf (ms_istore_n (k := 2) hx hb rfl (by decide : 2 < 4) (by decide +kernel : decode cX12_begins 159 = .ok (.istore_n 2, 1)))))
    (ms_b (ms_lf (ms_iload_n (k := 2) hx hb rfl (by decide +kernel : decode cX12_begins 160 = .ok (.iload_n 2, 1))))
    (ms_b (ms_lf (ms_aload_n (k := 0) hx hb rfl (by decide +kernel : decode cX12_begins 161 = .ok (.aload_n 0, 1))))
    (ms_lf (ms_getf (C := RX12) (T := TX12) (N := 80) hx hb hf hts (fun w h => hAW w (inq_12 w h)) hown hK rfl (by decide) (hts _ (hAW _ qw_1446)) rfl (by decide +kernel : decode cX12_begins 162 = .ok (.getfield 70, 3)))))))
    (ms_b (ms_b (ms_lf (ms_aload_n (k := 0) hx hb rfl (by decide +kernel : decode cX12_begins 165 = .ok (.aload_n 0, 1))))
    (ms_b (ms_lf (ms_getf (C := RX12) (T := TX12) (N := 80) hx hb hf hts (fun w h => hAW w (inq_12 w h)) hown hK rfl (by decide) (hts _ (hAW _ qw_1433)) rfl (by decide +kernel : decode cX12_begins 166 = .ok (.getfield 272, 3))))
    (ms_lf (ms_iald hx hb hf hA hX (by decide +kernel : decode cX12_begins 169 = .ok (.iaload, 1))))))
    (ms_b (ms_lf (ms_ic_ge hx hb (by decide) (by decide +kernel : decode cX12_begins 170 = .ok (.if_icmp .ge 94, 3))))
    (ms_b (ms_lf (ms_iconst hx hb (by decide) (by decide +kernel : decode cX12_begins 173 = .ok (.iconst 0, 1))))
    (ms_lf (ms_istore_n (k := 3) hx hb rfl (by decide : 3 < 4) (by decide +kernel : decode cX12_begins 174 = .ok (.istore_n 3, 1)))))))))
    (ms_b (ms_b (ms_b (ms_b (ms_lf (ms_iload_n (k := 3) hx hb rfl (by decide +kernel : decode cX12_begins 175 = .ok (.iload_n 3, 1))))
    (ms_lf (ms_bipush hx hb (by decide) (by decide +kernel : decode cX12_begins 176 = .ok (.bipush 6, 2)))))
    (ms_b (ms_lf (ms_ic_ge hx hb (by decide) (by decide +kernel : decode cX12_begins 178 = .ok (.if_icmp .ge 42, 3))))
    (ms_b (ms_lf (ms_aload_n (k := 0) hx hb rfl (by decide +kernel : decode cX12_begins 181 = .ok (.aload_n 0, 1))))
    (ms_lf (ms_getf (C := RX12) (T := TX12) (N := 80) hx hb hf hts (fun w h => hAW w (inq_12 w h)) hown hK rfl (by decide) (hts _ (hAW _ qw_1472)) rfl (by decide +kernel : decode cX12_begins 182 = .ok (.getfield 134, 3)))))))
    (ms_b (ms_b (ms_lf (ms_bipush hx hb (by decide) (by decide +kernel : decode cX12_begins 185 = .ok (.bipush 25, 2))))
    (ms_b (ms_lf (ms_bipush hx hb (by decide) (by decide +kernel : decode cX12_begins 187 = .ok (.bipush 6, 2))))
    (ms_lf (ms_iload_n (k := 2) hx hb rfl (by decide +kernel : decode cX12_begins 189 = .ok (.iload_n 2, 1))))))
    (ms_b (ms_lf (ms_imul hx hb (by decide +kernel : decode cX12_begins 190 = .ok (.imul, 1))))
    (ms_b (ms_lf (ms_iadd hx hb (by decide +kernel : decode cX12_begins 191 = .ok (.iadd, 1))))
    (ms_lf (ms_iload_n (k := 3) hx hb rfl (by decide +kernel : decode cX12_begins 192 = .ok (.iload_n 3, 1))))))))
    (ms_b (ms_b (ms_b (ms_lf (ms_iadd hx hb (by decide +kernel : decode cX12_begins 193 = .ok (.iadd, 1))))
    (ms_lf (ms_aload_n (k := 0) hx hb rfl (by decide +kernel : decode cX12_begins 194 = .ok (.aload_n 0, 1)))))
    (ms_b (ms_lf (ms_getf (C := RX12) (T := TX12) (N := 80) hx hb hf hts (fun w h => hAW w (inq_12 w h)) hown hK rfl (by decide) (hts _ (hAW _ qw_1449)) rfl (by decide +kernel : decode cX12_begins 195 = .ok (.getfield 79, 3))))
    (ms_b (ms_lf (ms_bipush hx hb (by decide) (by decide +kernel : decode cX12_begins 198 = .ok (.bipush 18, 2))))
    (ms_lf (ms_aload_n (k := 0) hx hb rfl (by decide +kernel : decode cX12_begins 200 = .ok (.aload_n 0, 1)))))))
    (ms_b (ms_b (ms_lf (ms_getf (C := RX12) (T := TX12) (N := 80) hx hb hf hts (fun w h => hAW w (inq_12 w h)) hown hK rfl (by decide) (hts _ (hAW _ qw_1433)) rfl (by decide +kernel : decode cX12_begins 201 = .ok (.getfield 272, 3))))
    (ms_b (ms_lf (ms_imul hx hb (by decide +kernel : decode cX12_begins 204 = .ok (.imul, 1))))
    (ms_lf (ms_bipush hx hb (by decide) (by decide +kernel : decode cX12_begins 205 = .ok (.bipush 6, 2))))))
    (ms_b (ms_lf (ms_iload_n (k := 2) hx hb rfl (by decide +kernel : decode cX12_begins 207 = .ok (.iload_n 2, 1))))
    (ms_b (ms_lf (ms_imul hx hb (by decide +kernel : decode cX12_begins 208 = .ok (.imul, 1))))
    (ms_lf (ms_iadd hx hb (by decide +kernel : decode cX12_begins 209 = .ok (.iadd, 1))))))))))
    (ms_b (ms_b (ms_b (ms_b (ms_b (ms_lf (ms_iload_n (k := 3) hx hb rfl (by decide +kernel : decode cX12_begins 210 = .ok (.iload_n 3, 1))))
    (ms_lf (ms_iadd hx hb (by decide +kernel : decode cX12_begins 211 = .ok (.iadd, 1)))))
    (ms_b (ms_lf (ms_iald hx hb hf hA hX (by decide +kernel : decode cX12_begins 212 = .ok (.iaload, 1))))
    (ms_b (ms_lf (ms_iast hx hb hf hA (by decide +kernel : decode cX12_begins 213 = .ok (.iastore, 1))))
    (ms_lf (ms_iinc hx hb (by decide) (by decide : 3 < 4) (by decide +kernel : decode cX12_begins 214 = .ok (.iinc 3 1, 3)))))))
    (ms_b (ms_b (ms_lf (ms_goto hx hb (by decide) (by decide +kernel : decode cX12_begins 217 = .ok (.goto (-42), 3))))
    (ms_lf (ms_aload_n (k := 0) hx hb rfl (by decide +kernel : decode cX12_begins 220 = .ok (.aload_n 0, 1)))))
    (ms_b (ms_lf (ms_getf (C := RX12) (T := TX12) (N := 80) hx hb hf hts (fun w h => hAW w (inq_12 w h)) hown hK rfl (by decide) (hts _ (hAW _ qw_1472)) rfl (by decide +kernel : decode cX12_begins 221 = .ok (.getfield 134, 3))))
    (ms_b (ms_lf (ms_bipush hx hb (by decide) (by decide +kernel : decode cX12_begins 224 = .ok (.bipush 43, 2))))
    (ms_lf (ms_iload_n (k := 2) hx hb rfl (by decide +kernel : decode cX12_begins 226 = .ok (.iload_n 2, 1))))))))
    (ms_b (ms_b (ms_b (ms_lf (ms_iadd hx hb (by decide +kernel : decode cX12_begins 227 = .ok (.iadd, 1))))
    (ms_lf (ms_iload_n (k := 1) hx hb rfl (by decide +kernel : decode cX12_begins 228 = .ok (.iload_n 1, 1)))))
    (ms_b (ms_lf (ms_aload_n (k := 0) hx hb rfl (by decide +kernel : decode cX12_begins 229 = .ok (.aload_n 0, 1))))
    (ms_b (ms_lf (ms_getf (C := RX12) (T := TX12) (N := 80) hx hb hf hts (fun w h => hAW w (inq_12 w h)) hown hK rfl (by decide) (hts _ (hAW _ qw_1448)) rfl (by decide +kernel : decode cX12_begins 230 = .ok (.getfield 76, 3))))
    (ms_lf (ms_iconst hx hb (by decide) (by decide +kernel : decode cX12_begins 233 = .ok (.iconst 3, 1)))))))
    (ms_b (ms_b (ms_lf (ms_aload_n (k := 0) hx hb rfl (by decide +kernel : decode cX12_begins 234 = .ok (.aload_n 0, 1))))
    (ms_b (ms_lf (ms_getf (C := RX12) (T := TX12) (N := 80) hx hb hf hts (fun w h => hAW w (inq_12 w h)) hown hK rfl (by decide) (hts _ (hAW _ qw_1433)) rfl (by decide +kernel : decode cX12_begins 235 = .ok (.getfield 272, 3))))
    (ms_lf (ms_imul hx hb (by decide +kernel : decode cX12_begins 238 = .ok (.imul, 1))))))
    (ms_b (ms_lf (ms_iload_n (k := 2) hx hb rfl (by decide +kernel : decode cX12_begins 239 = .ok (.iload_n 2, 1))))
    (ms_b (ms_lf (ms_iadd hx hb (by decide +kernel : decode cX12_begins 240 = .ok (.iadd, 1))))
    (ms_lf (ms_iald hx hb hf hA hX (by decide +kernel : decode cX12_begins 241 = .ok (.iaload, 1)))))))))
    (ms_b (ms_b (ms_b (ms_b (ms_lf (ms_imul hx hb (by decide +kernel : decode cX12_begins 242 = .ok (.imul, 1))))
    (ms_lf (ms_aload_n (k := 0) hx hb rfl (by decide +kernel : decode cX12_begins 243 = .ok (.aload_n 0, 1)))))
    (ms_b (ms_lf (ms_getf (C := RX12) (T := TX12) (N := 80) hx hb hf hts (fun w h => hAW w (inq_12 w h)) hown hK rfl (by decide) (hts _ (hAW _ qw_1447)) rfl (by decide +kernel : decode cX12_begins 244 = .ok (.getfield 73, 3))))
    (ms_b (ms_lf (ms_iconst hx hb (by decide) (by decide +kernel : decode cX12_begins 247 = .ok (.iconst 3, 1))))
    (ms_lf (ms_aload_n (k := 0) hx hb rfl (by decide +kernel : decode cX12_begins 248 = .ok (.aload_n 0, 1)))))))
    (ms_b (ms_b (ms_lf (ms_getf (C := RX12) (T := TX12) (N := 80) hx hb hf hts (fun w h => hAW w (inq_12 w h)) hown hK rfl (by decide) (hts _ (hAW _ qw_1433)) rfl (by decide +kernel : decode cX12_begins 249 = .ok (.getfield 272, 3))))
    (ms_b (ms_lf (ms_imul hx hb (by decide +kernel : decode cX12_begins 252 = .ok (.imul, 1))))
    (ms_lf (ms_iload_n (k := 2) hx hb rfl (by decide +kernel : decode cX12_begins 253 = .ok (.iload_n 2, 1))))))
    (ms_b (ms_lf (ms_iadd hx hb (by decide +kernel : decode cX12_begins 254 = .ok (.iadd, 1))))
    (ms_b (ms_lf (ms_iald hx hb hf hA hX (by decide +kernel : decode cX12_begins 255 = .ok (.iaload, 1))))
    (ms_lf (ms_iadd hx hb (by decide +kernel : decode cX12_begins 256 = .ok (.iadd, 1))))))))
    (ms_b (ms_b (ms_b (ms_lf (ms_iast hx hb hf hA (by decide +kernel : decode cX12_begins 257 = .ok (.iastore, 1))))
    (ms_lf (ms_iinc hx hb (by decide) (by decide : 2 < 4) (by decide +kernel : decode cX12_begins 258 = .ok (.iinc 2 1, 3)))))
    (ms_b (ms_lf (ms_goto hx hb (by decide) (by decide +kernel : decode cX12_begins 261 = .ok (.goto (-101), 3))))
    (ms_b (ms_lf (ms_aload_n (k := 0) hx hb rfl (by decide +kernel : decode cX12_begins 264 = .ok (.aload_n 0, 1))))
    (ms_lf (ms_aload_n (k := 0) hx hb rfl (by decide +kernel : decode cX12_begins 265 = .ok (.aload_n 0, 1)))))))
    (ms_b (ms_b (ms_lf (ms_getf (C := RX12) (T := TX12) (N := 80) hx hb hf hts (fun w h => hAW w (inq_12 w h)) hown hK rfl (by decide) (hts _ (hAW _ qw_1450)) rfl (by decide +kernel : decode cX12_begins 266 = .ok (.getfield 82, 3))))
    (ms_b (ms_lf (ms_aload_n (k := 0) hx hb rfl (by decide +kernel : decode cX12_begins 269 = .ok (.aload_n 0, 1))))
    (ms_lf (ms_getf (C := RX12) (T := TX12) (N := 80) hx hb hf hts (fun w h => hAW w (inq_12 w h)) hown hK rfl (by decide) (hts _ (hAW _ qw_1433)) rfl (by decide +kernel : decode cX12_begins 270 = .ok (.getfield 272, 3))))))
    (ms_b (ms_lf (ms_iald hx hb hf hA hX (by decide +kernel : decode cX12_begins 273 = .ok (.iaload, 1))))
    (ms_b (ms_lf (ms_put (C := RX12) (T := TX12) (N := 80) hx hb hf hts (fun w h => hAW w (inq_12 w h)) tyX12 tyX12_ok nmX12 hown hK rfl (by decide) (hts _ (hAW _ qw_1473)) rfl rfl rfl (by decide +kernel : decode cX12_begins 274 = .ok (.putfield 373, 3))))
    (ms_lf (ms_ret hx hb hr hlk (by decide +kernel : decode cX12_begins 277 = .ok (.return_, 1))))))))))))
set_option maxRecDepth 100000 in
set_option maxHeartbeats 8000000 in
/-- TippedCratesModel.keepsRow -/
theorem sd_215 (l : Launch) (f : Nat → Nat) (D : va_G) (cA : FieldType → ClassId) (d : Nat) : mm_Ok2 l f D cA d (yX12_keepsRow, cX12_keepsRow, 2, none, mc_215) := by
  intro p e R s m args below meth c C hRf hRl pc
  obtain ⟨hx, hb, hml, hr, hlk, hnm, hown, hts, hEX, hgo, hf⟩ := C
  obtain ⟨hK, hA, hX, hZs, hZc, hZq, hTx, hSR0, hSR1, hAO, hN⟩ := id hEX
  have hAW : ∀ w ∈ mm_AW, w ∈ (Cond.code yX12_keepsRow cX12_keepsRow 2 none :: mm_AW) := fun w h => List.mem_cons_of_mem _ h
  have hown : s.vm.findClass "TippedCratesModel" = some m.cls := hown
  show mm_S p l e R s m args below meth c f D mm_cl cA 2 _ pc (mc_215 pc)
  unfold mc_215
  exact (ms_b (ms_b (ms_b (ms_b (ms_lf (ms_iconst hx hb (by decide) (by decide +kernel : decode cX12_keepsRow 0 = .ok (.iconst 0, 1))))
    (ms_lf (ms_istore_n (k := 1) hx hb rfl (by decide : 1 < 2) (by decide +kernel : decode cX12_keepsRow 1 = .ok (.istore_n 1, 1)))))
    (ms_b (ms_lf (ms_iload_n (k := 1) hx hb rfl (by decide +kernel : decode cX12_keepsRow 2 = .ok (.iload_n 1, 1))))
    (ms_lf (ms_bipush hx hb (by decide) (by decide +kernel : decode cX12_keepsRow 3 = .ok (.bipush 51, 2))))))
    (ms_b (ms_b (ms_lf (ms_ic_ge hx hb (by decide) (by decide +kernel : decode cX12_keepsRow 5 = .ok (.if_icmp .ge 21, 3))))
    (ms_lf (ms_aload_n (k := 0) hx hb rfl (by decide +kernel : decode cX12_keepsRow 8 = .ok (.aload_n 0, 1)))))
    (ms_b (ms_lf (ms_getf (C := RX12) (T := TX12) (N := 80) hx hb hf hts (fun w h => hAW w (inq_12 w h)) hown hK rfl (by decide) (hts _ (hAW _ qw_1471)) rfl (by decide +kernel : decode cX12_keepsRow 9 = .ok (.getfield 131, 3))))
    (ms_lf (ms_iload_n (k := 1) hx hb rfl (by decide +kernel : decode cX12_keepsRow 12 = .ok (.iload_n 1, 1)))))))
    (ms_b (ms_b (ms_b (ms_lf (ms_aload_n (k := 0) hx hb rfl (by decide +kernel : decode cX12_keepsRow 13 = .ok (.aload_n 0, 1))))
    (ms_lf (ms_getf (C := RX12) (T := TX12) (N := 80) hx hb hf hts (fun w h => hAW w (inq_12 w h)) hown hK rfl (by decide) (hts _ (hAW _ qw_1472)) rfl (by decide +kernel : decode cX12_keepsRow 14 = .ok (.getfield 134, 3)))))
    (ms_b (ms_lf (ms_iload_n (k := 1) hx hb rfl (by decide +kernel : decode cX12_keepsRow 17 = .ok (.iload_n 1, 1))))
    (ms_lf (ms_iald hx hb hf hA hX (by decide +kernel : decode cX12_keepsRow 18 = .ok (.iaload, 1))))))
    (ms_b (ms_b (ms_lf (ms_iast hx hb hf hA (by decide +kernel : decode cX12_keepsRow 19 = .ok (.iastore, 1))))
    (ms_lf (ms_iinc hx hb (by decide) (by decide : 1 < 2) (by decide +kernel : decode cX12_keepsRow 20 = .ok (.iinc 1 1, 3)))))
    (ms_b (ms_lf (ms_goto hx hb (by decide) (by decide +kernel : decode cX12_keepsRow 23 = .ok (.goto (-21), 3))))
    (ms_lf (ms_ret hx hb hr hlk (by decide +kernel : decode cX12_keepsRow 26 = .ok (.return_, 1))))))))
set_option maxRecDepth 100000 in
set_option maxHeartbeats 8000000 in
/-- TippedCratesModel.copies -/
theorem sd_216 (l : Launch) (f : Nat → Nat) (D : va_G) (cA : FieldType → ClassId) (d : Nat) : mm_Ok2 l f D cA d (yX12_copies, cX12_copies, 2, none, mc_216) := by
  intro p e R s m args below meth c C hRf hRl pc
  obtain ⟨hx, hb, hml, hr, hlk, hnm, hown, hts, hEX, hgo, hf⟩ := C
  obtain ⟨hK, hA, hX, hZs, hZc, hZq, hTx, hSR0, hSR1, hAO, hN⟩ := id hEX
  have hAW : ∀ w ∈ mm_AW, w ∈ (Cond.code yX12_copies cX12_copies 2 none :: mm_AW) := fun w h => List.mem_cons_of_mem _ h
  have hown : s.vm.findClass "TippedCratesModel" = some m.cls := hown
  show mm_S p l e R s m args below meth c f D mm_cl cA 2 _ pc (mc_216 pc)
  unfold mc_216
  exact (ms_b (ms_b (ms_b (ms_b (ms_lf (ms_iconst hx hb (by decide) (by decide +kernel : decode cX12_copies 0 = .ok (.iconst 0, 1))))
    (ms_lf (ms_istore_n (k := 1) hx hb rfl (by decide : 1 < 2) (by decide +kernel : decode cX12_copies 1 = .ok (.istore_n 1, 1)))))
    (ms_b (ms_lf (ms_iload_n (k := 1) hx hb rfl (by decide +kernel : decode cX12_copies 2 = .ok (.iload_n 1, 1))))
    (ms_b (ms_lf (ms_bipush hx hb (by decide) (by decide +kernel : decode cX12_copies 3 = .ok (.bipush 51, 2))))
    (ms_lf (ms_ic_ge hx hb (by decide) (by decide +kernel : decode cX12_copies 5 = .ok (.if_icmp .ge 21, 3)))))))
    (ms_b (ms_b (ms_lf (ms_aload_n (k := 0) hx hb rfl (by decide +kernel : decode cX12_copies 8 = .ok (.aload_n 0, 1))))
    (ms_b (ms_lf (ms_getf (C := RX12) (T := TX12) (N := 80) hx hb hf hts (fun w h => hAW w (inq_12 w h)) hown hK rfl (by decide) (hts _ (hAW _ qw_1472)) rfl (by decide +kernel : decode cX12_copies 9 = .ok (.getfield 134, 3))))
    (ms_lf (ms_iload_n (k := 1) hx hb rfl (by decide +kernel : decode cX12_copies 12 = .ok (.iload_n 1, 1))))))
    (ms_b (ms_lf (ms_aload_n (k := 0) hx hb rfl (by decide +kernel : decode cX12_copies 13 = .ok (.aload_n 0, 1))))
    (ms_b (ms_lf (ms_getf (C := RX12) (T := TX12) (N := 80) hx hb hf hts (fun w h => hAW w (inq_12 w h)) hown hK rfl (by decide) (hts _ (hAW _ qw_1471)) rfl (by decide +kernel : decode cX12_copies 14 = .ok (.getfield 131, 3))))
    (ms_lf (ms_iload_n (k := 1) hx hb rfl (by decide +kernel : decode cX12_copies 17 = .ok (.iload_n 1, 1))))))))
    (ms_b (ms_b (ms_b (ms_lf (ms_iald hx hb hf hA hX (by decide +kernel : decode cX12_copies 18 = .ok (.iaload, 1))))
    (ms_b (ms_lf (ms_iast hx hb hf hA (by decide +kernel : decode cX12_copies 19 = .ok (.iastore, 1))))
    (ms_lf (ms_iinc hx hb (by decide) (by decide : 1 < 2) (by decide +kernel : decode cX12_copies 20 = .ok (.iinc 1 1, 3))))))
    (ms_b (ms_lf (ms_goto hx hb (by decide) (by decide +kernel : decode cX12_copies 23 = .ok (.goto (-21), 3))))
    (ms_b (ms_lf (ms_aload_n (k := 0) hx hb rfl (by decide +kernel : decode cX12_copies 26 = .ok (.aload_n 0, 1))))
    (ms_lf (ms_aload_n (k := 0) hx hb rfl (by decide +kernel : decode cX12_copies 27 = .ok (.aload_n 0, 1)))))))
    (ms_b (ms_b (ms_lf (ms_getf (C := RX12) (T := TX12) (N := 80) hx hb hf hts (fun w h => hAW w (inq_12 w h)) hown hK rfl (by decide) (hts _ (hAW _ qw_1450)) rfl (by decide +kernel : decode cX12_copies 28 = .ok (.getfield 82, 3))))
    (ms_b (ms_lf (ms_aload_n (k := 0) hx hb rfl (by decide +kernel : decode cX12_copies 31 = .ok (.aload_n 0, 1))))
    (ms_lf (ms_getf (C := RX12) (T := TX12) (N := 80) hx hb hf hts (fun w h => hAW w (inq_12 w h)) hown hK rfl (by decide) (hts _ (hAW _ qw_1433)) rfl (by decide +kernel : decode cX12_copies 32 = .ok (.getfield 272, 3))))))
    (ms_b (ms_lf (ms_iald hx hb hf hA hX (by decide +kernel : decode cX12_copies 35 = .ok (.iaload, 1))))
    (ms_b (ms_lf (ms_put (C := RX12) (T := TX12) (N := 80) hx hb hf hts (fun w h => hAW w (inq_12 w h)) tyX12 tyX12_ok nmX12 hown hK rfl (by decide) (hts _ (hAW _ qw_1473)) rfl rfl rfl (by decide +kernel : decode cX12_copies 36 = .ok (.putfield 373, 3))))
    (ms_lf (ms_ret hx hb hr hlk (by decide +kernel : decode cX12_copies 39 = .ok (.return_, 1)))))))))
set_option maxRecDepth 100000 in
set_option maxHeartbeats 8000000 in
/-- TippedCratesModel.mixed -/
theorem sd_217 (l : Launch) (f : Nat → Nat) (D : va_G) (cA : FieldType → ClassId) (d : Nat) : mm_Ok2 l f D cA d (yX12_mixed, cX12_mixed, 3, (some .int), mc_217) := by
  intro p e R s m args below meth c C hRf hRl pc
  obtain ⟨hx, hb, hml, hr, hlk, hnm, hown, hts, hEX, hgo, hf⟩ := C
  obtain ⟨hK, hA, hX, hZs, hZc, hZq, hTx, hSR0, hSR1, hAO, hN⟩ := id hEX
  have hAW : ∀ w ∈ mm_AW, w ∈ (Cond.code yX12_mixed cX12_mixed 3 (some .int) :: mm_AW) := fun w h => List.mem_cons_of_mem _ h
  have hown : s.vm.findClass "TippedCratesModel" = some m.cls := hown
  show mm_S p l e R s m args below meth c f D mm_cl cA 3 _ pc (mc_217 pc)
  unfold mc_217
  exact (ms_b (ms_b (ms_b (ms_lf (ms_iload_n (k := 0) hx hb rfl (by decide +kernel : decode cX12_mixed 0 = .ok (.iload_n 0, 1))))
    (ms_b (ms_lf (ms_iload_n (k := 1) hx hb rfl (by decide +kernel : decode cX12_mixed 1 = .ok (.iload_n 1, 1))))
    (ms_lf (ms_ixor hx hb (by decide +kernel : decode cX12_mixed 2 = .ok (.ixor, 1))))))
    (ms_b (ms_b (ms_lf (ms_ldcw hx hb hown (hts _ (hAW _ qw_1916)) (by decide +kernel : decode cX12_mixed 3 = .ok (.ldc_w 376, 3))))
    (ms_lf (ms_imul hx hb (by decide +kernel : decode cX12_mixed 6 = .ok (.imul, 1)))))
    (ms_b (ms_lf (ms_sipush hx hb (by decide) (by decide +kernel : decode cX12_mixed 7 = .ok (.sipush 12345, 3))))
    (ms_lf (ms_iadd hx hb (by decide +kernel : decode cX12_mixed 10 = .ok (.iadd, 1)))))))
    (ms_b (ms_b (ms_lf (ms_istore_n (k := 2) hx hb rfl (by decide : 2 < 3) (by decide +kernel : decode cX12_mixed 11 = .ok (.istore_n 2, 1))))
    (ms_b (ms_lf (ms_iload_n (k := 2) hx hb rfl (by decide +kernel : decode cX12_mixed 12 = .ok (.iload_n 2, 1))))
    (ms_lf (ms_iload_n (k := 2) hx hb rfl (by decide +kernel : decode cX12_mixed 13 = .ok (.iload_n 2, 1))))))
    (ms_b (ms_b (ms_lf (ms_bipush hx hb (by decide) (by decide +kernel : decode cX12_mixed 14 = .ok (.bipush 15, 2))))
    (ms_lf (ms_iushr hx hb (by decide +kernel : decode cX12_mixed 16 = .ok (.iushr, 1)))))
    (ms_b (ms_lf (ms_ixor hx hb (by decide +kernel : decode cX12_mixed 17 = .ok (.ixor, 1))))
    (ms_lf (ms_iret hx hb hr hlk (by decide +kernel : decode cX12_mixed 18 = .ok (.ireturn, 1))))))))
set_option maxRecDepth 100000 in
set_option maxHeartbeats 8000000 in
/-- TippedCratesModel.lotOf -/
theorem sd_218 (l : Launch) (f : Nat → Nat) (D : va_G) (cA : FieldType → ClassId) (d : Nat) : mm_Ok2 l f D cA d (yX12_lotOf, cX12_lotOf, 3, (some .int), mc_218) := by
  intro p e R s m args below meth c C hRf hRl pc
  obtain ⟨hx, hb, hml, hr, hlk, hnm, hown, hts, hEX, hgo, hf⟩ := C
  obtain ⟨hK, hA, hX, hZs, hZc, hZq, hTx, hSR0, hSR1, hAO, hN⟩ := id hEX
  have hAW : ∀ w ∈ mm_AW, w ∈ (Cond.code yX12_lotOf cX12_lotOf 3 (some .int) :: mm_AW) := fun w h => List.mem_cons_of_mem _ h
  have hown : s.vm.findClass "TippedCratesModel" = some m.cls := hown
  show mm_S p l e R s m args below meth c f D mm_cl cA 3 _ pc (mc_218 pc)
  unfold mc_218
  exact (ms_b (ms_b (ms_b (ms_lf (ms_aload_n (k := 0) hx hb rfl (by decide +kernel : decode cX12_lotOf 0 = .ok (.aload_n 0, 1))))
    (ms_lf (ms_getf (C := RX12) (T := TX12) (N := 80) hx hb hf hts (fun w h => hAW w (inq_12 w h)) hown hK rfl (by decide) (hts _ (hAW _ qw_1473)) rfl (by decide +kernel : decode cX12_lotOf 1 = .ok (.getfield 373, 3)))))
    (ms_b (ms_lf (ms_sipush hx hb (by decide) (by decide +kernel : decode cX12_lotOf 4 = .ok (.sipush 215, 3))))
    (ms_b (ms_lf (ms_ivS hx hb hml hown hts hgo hEX (mm_GS hAW (mm_GI hAW gi_217) qw_1913 qw_1914 qw_137) rfl hd_217 (mm_rm hRf hRl (Nat.le_of_ble_eq_true rfl)) (by decide +kernel : decode cX12_lotOf 7 = .ok (.invokestatic 377, 3))))
    (ms_lf (ms_iload_n (k := 1) hx hb rfl (by decide +kernel : decode cX12_lotOf 10 = .ok (.iload_n 1, 1)))))))
    (ms_b (ms_b (ms_lf (ms_ivS hx hb hml hown hts hgo hEX (mm_GS hAW (mm_GI hAW gi_217) qw_1913 qw_1914 qw_137) rfl hd_217 (mm_rm hRf hRl (Nat.le_of_ble_eq_true rfl)) (by decide +kernel : decode cX12_lotOf 11 = .ok (.invokestatic 377, 3))))
    (ms_b (ms_lf (ms_iconst hx hb (by decide) (by decide +kernel : decode cX12_lotOf 14 = .ok (.iconst 1, 1))))
    (ms_lf (ms_iushr hx hb (by decide +kernel : decode cX12_lotOf 15 = .ok (.iushr, 1))))))
    (ms_b (ms_lf (ms_iload_n (k := 2) hx hb rfl (by decide +kernel : decode cX12_lotOf 16 = .ok (.iload_n 2, 1))))
    (ms_b (ms_lf (ms_irem hx hb (by decide +kernel : decode cX12_lotOf 17 = .ok (.irem, 1))))
    (ms_lf (ms_iret hx hb hr hlk (by decide +kernel : decode cX12_lotOf 18 = .ok (.ireturn, 1))))))))
set_option maxRecDepth 100000 in
set_option maxHeartbeats 8000000 in
/-- TippedCratesModel.toX -/
theorem sd_219 (l : Launch) (f : Nat → Nat) (D : va_G) (cA : FieldType → ClassId) (d : Nat) : mm_Ok2 l f D cA d (yX12_toX, cX12_toX, 3, (some .int), mc_219) := by
  intro p e R s m args below meth c C hRf hRl pc
  obtain ⟨hx, hb, hml, hr, hlk, hnm, hown, hts, hEX, hgo, hf⟩ := C
  obtain ⟨hK, hA, hX, hZs, hZc, hZq, hTx, hSR0, hSR1, hAO, hN⟩ := id hEX
  have hAW : ∀ w ∈ mm_AW, w ∈ (Cond.code yX12_toX cX12_toX 3 (some .int) :: mm_AW) := fun w h => List.mem_cons_of_mem _ h
  have hown : s.vm.findClass "TippedCratesModel" = some m.cls := hown
  show mm_S p l e R s m args below meth c f D mm_cl cA 3 _ pc (mc_219 pc)
  unfold mc_219
  exact (ms_b (ms_b (ms_b (ms_b (ms_lf (ms_iload_n (k := 1) hx hb rfl (by decide +kernel : decode cX12_toX 0 = .ok (.iload_n 1, 1))))
    (ms_lf (ms_aload_n (k := 0) hx hb rfl (by decide +kernel : decode cX12_toX 1 = .ok (.aload_n 0, 1)))))
    (ms_b (ms_lf (ms_getf (C := RX12) (T := TX12) (N := 80) hx hb hf hts (fun w h => hAW w (inq_12 w h)) hown hK rfl (by decide) (hts _ (hAW _ qw_1437)) rfl (by decide +kernel : decode cX12_toX 2 = .ok (.getfield 43, 3))))
    (ms_lf (ms_aload_n (k := 0) hx hb rfl (by decide +kernel : decode cX12_toX 5 = .ok (.aload_n 0, 1))))))
    (ms_b (ms_b (ms_lf (ms_getf (C := RX12) (T := TX12) (N := 80) hx hb hf hts (fun w h => hAW w (inq_12 w h)) hown hK rfl (by decide) (hts _ (hAW _ qw_1433)) rfl (by decide +kernel : decode cX12_toX 6 = .ok (.getfield 272, 3))))
    (ms_lf (ms_iald hx hb hf hA hX (by decide +kernel : decode cX12_toX 9 = .ok (.iaload, 1)))))
    (ms_b (ms_lf (ms_irem hx hb (by decide +kernel : decode cX12_toX 10 = .ok (.irem, 1))))
    (ms_b (ms_lf (ms_iload_n (k := 2) hx hb rfl (by decide +kernel : decode cX12_toX 11 = .ok (.iload_n 2, 1))))
    (ms_lf (ms_if_ne hx hb (by decide) (by decide +kernel : decode cX12_toX 12 = .ok (.ifCond .ne 7, 3))))))))
    (ms_b (ms_b (ms_b (ms_lf (ms_iconst hx hb (by decide) (by decide +kernel : decode cX12_toX 15 = .ok (.iconst 1, 1))))
    (ms_lf (ms_goto hx hb (by decide) (by decide +kernel : decode cX12_toX 16 = .ok (.goto 13, 3)))))
    (ms_b (ms_lf (ms_iload_n (k := 2) hx hb rfl (by decide +kernel : decode cX12_toX 19 = .ok (.iload_n 2, 1))))
    (ms_b (ms_lf (ms_iconst hx hb (by decide) (by decide +kernel : decode cX12_toX 20 = .ok (.iconst 2, 1))))
    (ms_lf (ms_ic_ne hx hb (by decide) (by decide +kernel : decode cX12_toX 21 = .ok (.if_icmp .ne 7, 3)))))))
    (ms_b (ms_b (ms_lf (ms_iconst hx hb (by decide) (by decide +kernel : decode cX12_toX 24 = .ok (.iconst (-1), 1))))
    (ms_lf (ms_goto hx hb (by decide) (by decide +kernel : decode cX12_toX 25 = .ok (.goto 4, 3)))))
    (ms_b (ms_lf (ms_iconst hx hb (by decide) (by decide +kernel : decode cX12_toX 28 = .ok (.iconst 0, 1))))
    (ms_b (ms_lf (ms_iadd hx hb (by decide +kernel : decode cX12_toX 29 = .ok (.iadd, 1))))
    (ms_lf (ms_iret hx hb hr hlk (by decide +kernel : decode cX12_toX 30 = .ok (.ireturn, 1)))))))))
set_option maxRecDepth 100000 in
set_option maxHeartbeats 8000000 in
/-- TippedCratesModel.toY -/
theorem sd_220 (l : Launch) (f : Nat → Nat) (D : va_G) (cA : FieldType → ClassId) (d : Nat) : mm_Ok2 l f D cA d (yX12_toY, cX12_toY, 3, (some .int), mc_220) := by
  intro p e R s m args below meth c C hRf hRl pc
  obtain ⟨hx, hb, hml, hr, hlk, hnm, hown, hts, hEX, hgo, hf⟩ := C
  obtain ⟨hK, hA, hX, hZs, hZc, hZq, hTx, hSR0, hSR1, hAO, hN⟩ := id hEX
  have hAW : ∀ w ∈ mm_AW, w ∈ (Cond.code yX12_toY cX12_toY 3 (some .int) :: mm_AW) := fun w h => List.mem_cons_of_mem _ h
  have hown : s.vm.findClass "TippedCratesModel" = some m.cls := hown
  show mm_S p l e R s m args below meth c f D mm_cl cA 3 _ pc (mc_220 pc)
  unfold mc_220
  exact (ms_b (ms_b (ms_b (ms_b (ms_lf (ms_iload_n (k := 1) hx hb rfl (by decide +kernel : decode cX12_toY 0 = .ok (.iload_n 1, 1))))
    (ms_lf (ms_aload_n (k := 0) hx hb rfl (by decide +kernel : decode cX12_toY 1 = .ok (.aload_n 0, 1)))))
    (ms_b (ms_lf (ms_getf (C := RX12) (T := TX12) (N := 80) hx hb hf hts (fun w h => hAW w (inq_12 w h)) hown hK rfl (by decide) (hts _ (hAW _ qw_1437)) rfl (by decide +kernel : decode cX12_toY 2 = .ok (.getfield 43, 3))))
    (ms_b (ms_lf (ms_aload_n (k := 0) hx hb rfl (by decide +kernel : decode cX12_toY 5 = .ok (.aload_n 0, 1))))
    (ms_lf (ms_getf (C := RX12) (T := TX12) (N := 80) hx hb hf hts (fun w h => hAW w (inq_12 w h)) hown hK rfl (by decide) (hts _ (hAW _ qw_1433)) rfl (by decide +kernel : decode cX12_toY 6 = .ok (.getfield 272, 3)))))))
    (ms_b (ms_b (ms_lf (ms_iald hx hb hf hA hX (by decide +kernel : decode cX12_toY 9 = .ok (.iaload, 1))))
    (ms_lf (ms_idiv hx hb (by decide +kernel : decode cX12_toY 10 = .ok (.idiv, 1)))))
    (ms_b (ms_lf (ms_iload_n (k := 2) hx hb rfl (by decide +kernel : decode cX12_toY 11 = .ok (.iload_n 2, 1))))
    (ms_b (ms_lf (ms_iconst hx hb (by decide) (by decide +kernel : decode cX12_toY 12 = .ok (.iconst 1, 1))))
    (ms_lf (ms_ic_ne hx hb (by decide) (by decide +kernel : decode cX12_toY 13 = .ok (.if_icmp .ne 7, 3))))))))
    (ms_b (ms_b (ms_b (ms_lf (ms_iconst hx hb (by decide) (by decide +kernel : decode cX12_toY 16 = .ok (.iconst 1, 1))))
    (ms_lf (ms_goto hx hb (by decide) (by decide +kernel : decode cX12_toY 17 = .ok (.goto 13, 3)))))
    (ms_b (ms_lf (ms_iload_n (k := 2) hx hb rfl (by decide +kernel : decode cX12_toY 20 = .ok (.iload_n 2, 1))))
    (ms_b (ms_lf (ms_iconst hx hb (by decide) (by decide +kernel : decode cX12_toY 21 = .ok (.iconst 3, 1))))
    (ms_lf (ms_ic_ne hx hb (by decide) (by decide +kernel : decode cX12_toY 22 = .ok (.if_icmp .ne 7, 3)))))))
    (ms_b (ms_b (ms_lf (ms_iconst hx hb (by decide) (by decide +kernel : decode cX12_toY 25 = .ok (.iconst (-1), 1))))
    (ms_lf (ms_goto hx hb (by decide) (by decide +kernel : decode cX12_toY 26 = .ok (.goto 4, 3)))))
    (ms_b (ms_lf (ms_iconst hx hb (by decide) (by decide +kernel : decode cX12_toY 29 = .ok (.iconst 0, 1))))
    (ms_b (ms_lf (ms_iadd hx hb (by decide +kernel : decode cX12_toY 30 = .ok (.iadd, 1))))
    (ms_lf (ms_iret hx hb hr hlk (by decide +kernel : decode cX12_toY 31 = .ok (.ireturn, 1)))))))))
set_option maxRecDepth 100000 in
set_option maxHeartbeats 8000000 in
/-- TippedCratesModel.flagBy -/
theorem sd_221 (l : Launch) (f : Nat → Nat) (D : va_G) (cA : FieldType → ClassId) (d : Nat) : mm_Ok2 l f D cA d (yX12_flagBy, cX12_flagBy, 5, (some .int), mc_221) := by
  intro p e R s m args below meth c C hRf hRl pc
  obtain ⟨hx, hb, hml, hr, hlk, hnm, hown, hts, hEX, hgo, hf⟩ := C
  obtain ⟨hK, hA, hX, hZs, hZc, hZq, hTx, hSR0, hSR1, hAO, hN⟩ := id hEX
  have hAW : ∀ w ∈ mm_AW, w ∈ (Cond.code yX12_flagBy cX12_flagBy 5 (some .int) :: mm_AW) := fun w h => List.mem_cons_of_mem _ h
  have hown : s.vm.findClass "TippedCratesModel" = some m.cls := hown
  show mm_S p l e R s m args below meth c f D mm_cl cA 5 _ pc (mc_221 pc)
  unfold mc_221
  exact (ms_b (ms_b (ms_b (ms_b (ms_b (ms_lf (ms_aload_n (k := 0) hx hb rfl (by decide +kernel : decode cX12_flagBy 0 = .ok (.aload_n 0, 1))))
    (ms_lf (ms_iload_n (k := 1) hx hb rfl (by decide +kernel : decode cX12_flagBy 1 = .ok (.iload_n 1, 1)))))
    (ms_b (ms_lf (ms_iload_n (k := 2) hx hb rfl (by decide +kernel : decode cX12_flagBy 2 = .ok (.iload_n 2, 1))))
    (ms_b (ms_lf (ms_ivV (C := RX12) (T := TX12) (N := 80) hx hb hml hown hts hgo hEX hf hK rfl (mm_GV hAW (mm_GI hAW gi_219) qw_1824 qw_1826 qw_83 qw_137) rfl ⟨rfl, hd_219⟩ (mm_rm hRf hRl (Nat.le_of_ble_eq_true rfl)) (by decide +kernel : decode cX12_flagBy 3 = .ok (.invokevirtual 380, 3))))
    (ms_lf (ms_istore_n (k := 3) hx hb rfl (by decide : 3 < 5) (by decide +kernel : decode cX12_flagBy 6 = .ok (.istore_n 3, 1)))))))
    (ms_b (ms_b (ms_lf (ms_aload_n (k := 0) hx hb rfl (by decide +kernel : decode cX12_flagBy 7 = .ok (.aload_n 0, 1))))
    (ms_b (ms_lf (ms_iload_n (k := 1) hx hb rfl (by decide +kernel : decode cX12_flagBy 8 = .ok (.iload_n 1, 1))))
    (ms_lf (ms_iload_n (k := 2) hx hb rfl (by decide +kernel : decode cX12_flagBy 9 = .ok (.iload_n 2, 1))))))
    (ms_b (ms_lf (ms_ivV (C := RX12) (T := TX12) (N := 80) hx hb hml hown hts hgo hEX hf hK rfl (mm_GV hAW (mm_GI hAW gi_220) qw_1828 qw_1830 qw_84 qw_137) rfl ⟨rfl, hd_220⟩ (mm_rm hRf hRl (Nat.le_of_ble_eq_true rfl)) (by decide +kernel : decode cX12_flagBy 10 = .ok (.invokevirtual 383, 3))))
    (ms_b (ms_lf (ms_istore hx hb (by decide : 4 < 5) (by decide +kernel : decode cX12_flagBy 13 = .ok (.istore 4, 2))))
    (ms_lf (ms_iload_n (k := 3) hx hb rfl (by decide +kernel : decode cX12_flagBy 15 = .ok (.iload_n 3, 1))))))))
    (ms_b (ms_b (ms_b (ms_lf (ms_iconst hx hb (by decide) (by decide +kernel : decode cX12_flagBy 16 = .ok (.iconst 0, 1))))
    (ms_lf (ms_aload_n (k := 0) hx hb rfl (by decide +kernel : decode cX12_flagBy 17 = .ok (.aload_n 0, 1)))))
    (ms_b (ms_lf (ms_getf (C := RX12) (T := TX12) (N := 80) hx hb hf hts (fun w h => hAW w (inq_12 w h)) hown hK rfl (by decide) (hts _ (hAW _ qw_1437)) rfl (by decide +kernel : decode cX12_flagBy 18 = .ok (.getfield 43, 3))))
    (ms_b (ms_lf (ms_aload_n (k := 0) hx hb rfl (by decide +kernel : decode cX12_flagBy 21 = .ok (.aload_n 0, 1))))
    (ms_lf (ms_getf (C := RX12) (T := TX12) (N := 80) hx hb hf hts (fun w h => hAW w (inq_12 w h)) hown hK rfl (by decide) (hts _ (hAW _ qw_1433)) rfl (by decide +kernel : decode cX12_flagBy 22 = .ok (.getfield 272, 3)))))))
    (ms_b (ms_b (ms_lf (ms_iald hx hb hf hA hX (by decide +kernel : decode cX12_flagBy 25 = .ok (.iaload, 1))))
    (ms_b (ms_lf (ms_iconst hx hb (by decide) (by decide +kernel : decode cX12_flagBy 26 = .ok (.iconst 1, 1))))
    (ms_lf (ms_isub hx hb (by decide +kernel : decode cX12_flagBy 27 = .ok (.isub, 1))))))
    (ms_b (ms_lf (ms_ivS hx hb hml hown hts hgo hEX (mm_GS hAW (mm_GI hAW gi_206) qw_1782 qw_1783 qw_137) rfl hd_206 (mm_rm hRf hRl (Nat.le_of_ble_eq_true rfl)) (by decide +kernel : decode cX12_flagBy 28 = .ok (.invokestatic 366, 3))))
    (ms_b (ms_lf (ms_if_eq hx hb (by decide) (by decide +kernel : decode cX12_flagBy 31 = .ok (.ifCond .eq 40, 3))))
    (ms_lf (ms_iload hx hb (by decide +kernel : decode cX12_flagBy 34 = .ok (.iload 4, 2)))))))))
    (ms_b (ms_b (ms_b (ms_b (ms_lf (ms_iconst hx hb (by decide) (by decide +kernel : decode cX12_flagBy 36 = .ok (.iconst 0, 1))))
    (ms_lf (ms_aload_n (k := 0) hx hb rfl (by decide +kernel : decode cX12_flagBy 37 = .ok (.aload_n 0, 1)))))
    (ms_b (ms_lf (ms_getf (C := RX12) (T := TX12) (N := 80) hx hb hf hts (fun w h => hAW w (inq_12 w h)) hown hK rfl (by decide) (hts _ (hAW _ qw_1438)) rfl (by decide +kernel : decode cX12_flagBy 38 = .ok (.getfield 46, 3))))
    (ms_b (ms_lf (ms_aload_n (k := 0) hx hb rfl (by decide +kernel : decode cX12_flagBy 41 = .ok (.aload_n 0, 1))))
    (ms_lf (ms_getf (C := RX12) (T := TX12) (N := 80) hx hb hf hts (fun w h => hAW w (inq_12 w h)) hown hK rfl (by decide) (hts _ (hAW _ qw_1433)) rfl (by decide +kernel : decode cX12_flagBy 42 = .ok (.getfield 272, 3)))))))
    (ms_b (ms_b (ms_lf (ms_iald hx hb hf hA hX (by decide +kernel : decode cX12_flagBy 45 = .ok (.iaload, 1))))
    (ms_b (ms_lf (ms_iconst hx hb (by decide) (by decide +kernel : decode cX12_flagBy 46 = .ok (.iconst 1, 1))))
    (ms_lf (ms_isub hx hb (by decide +kernel : decode cX12_flagBy 47 = .ok (.isub, 1))))))
    (ms_b (ms_lf (ms_ivS hx hb hml hown hts hgo hEX (mm_GS hAW (mm_GI hAW gi_206) qw_1782 qw_1783 qw_137) rfl hd_206 (mm_rm hRf hRl (Nat.le_of_ble_eq_true rfl)) (by decide +kernel : decode cX12_flagBy 48 = .ok (.invokestatic 366, 3))))
    (ms_b (ms_lf (ms_if_eq hx hb (by decide) (by decide +kernel : decode cX12_flagBy 51 = .ok (.ifCond .eq 20, 3))))
    (ms_lf (ms_aload_n (k := 0) hx hb rfl (by decide +kernel : decode cX12_flagBy 54 = .ok (.aload_n 0, 1))))))))
    (ms_b (ms_b (ms_b (ms_lf (ms_getf (C := RX12) (T := TX12) (N := 80) hx hb hf hts (fun w h => hAW w (inq_12 w h)) hown hK rfl (by decide) (hts _ (hAW _ qw_1437)) rfl (by decide +kernel : decode cX12_flagBy 55 = .ok (.getfield 43, 3))))
    (ms_lf (ms_aload_n (k := 0) hx hb rfl (by decide +kernel : decode cX12_flagBy 58 = .ok (.aload_n 0, 1)))))
    (ms_b (ms_lf (ms_getf (C := RX12) (T := TX12) (N := 80) hx hb hf hts (fun w h => hAW w (inq_12 w h)) hown hK rfl (by decide) (hts _ (hAW _ qw_1433)) rfl (by decide +kernel : decode cX12_flagBy 59 = .ok (.getfield 272, 3))))
    (ms_b (ms_lf (ms_iald hx hb hf hA hX (by decide +kernel : decode cX12_flagBy 62 = .ok (.iaload, 1))))
    (ms_lf (ms_iload hx hb (by decide +kernel : decode cX12_flagBy 63 = .ok (.iload 4, 2)))))))
    (ms_b (ms_b (ms_lf (ms_imul hx hb (by decide +kernel : decode cX12_flagBy 65 = .ok (.imul, 1))))
    (ms_b (ms_lf (ms_iload_n (k := 3) hx hb rfl (by decide +kernel : decode cX12_flagBy 66 = .ok (.iload_n 3, 1))))
    (ms_lf (ms_iadd hx hb (by decide +kernel : decode cX12_flagBy 67 = .ok (.iadd, 1))))))
    (ms_b (ms_lf (ms_goto hx hb (by decide) (by decide +kernel : decode cX12_flagBy 68 = .ok (.goto 4, 3))))
    (ms_b (ms_lf (ms_iconst hx hb (by decide) (by decide +kernel : decode cX12_flagBy 71 = .ok (.iconst (-1), 1))))
    (ms_lf (ms_iret hx hb hr hlk (by decide +kernel : decode cX12_flagBy 72 = .ok (.ireturn, 1))))))))))
set_option maxRecDepth 100000 in
set_option maxHeartbeats 8000000 in
/-- TippedCratesModel.isTaken -/
theorem sd_222 (l : Launch) (f : Nat → Nat) (D : va_G) (cA : FieldType → ClassId) (d : Nat) : mm_Ok2 l f D cA d (yX12_isTaken, cX12_isTaken, 4, (some .boolean), mc_222) := by
  intro p e R s m args below meth c C hRf hRl pc
  obtain ⟨hx, hb, hml, hr, hlk, hnm, hown, hts, hEX, hgo, hf⟩ := C
  obtain ⟨hK, hA, hX, hZs, hZc, hZq, hTx, hSR0, hSR1, hAO, hN⟩ := id hEX
  have hAW : ∀ w ∈ mm_AW, w ∈ (Cond.code yX12_isTaken cX12_isTaken 4 (some .boolean) :: mm_AW) := fun w h => List.mem_cons_of_mem _ h
  have hown : s.vm.findClass "TippedCratesModel" = some m.cls := hown
  show mm_S p l e R s m args below meth c f D mm_cl cA 4 _ pc (mc_222 pc)
  unfold mc_222
  exact (ms_b (ms_b (ms_b (ms_b (ms_lf (ms_iconst hx hb (by decide) (by decide +kernel : decode cX12_isTaken 0 = .ok (.iconst 0, 1))))
    (ms_b (ms_lf (ms_istore_n (k := 3) hx hb rfl (by decide : 3 < 4) (by decide +kernel : decode cX12_isTaken 1 = .ok (.istore_n 3, 1))))
    (ms_lf (ms_iload_n (k := 3) hx hb rfl (by decide +kernel : decode cX12_isTaken 2 = .ok (.iload_n 3, 1))))))
    (ms_b (ms_lf (ms_aload_n (k := 0) hx hb rfl (by decide +kernel : decode cX12_isTaken 3 = .ok (.aload_n 0, 1))))
    (ms_b (ms_lf (ms_getf (C := RX12) (T := TX12) (N := 80) hx hb hf hts (fun w h => hAW w (inq_12 w h)) hown hK rfl (by decide) (hts _ (hAW _ qw_1446)) rfl (by decide +kernel : decode cX12_isTaken 4 = .ok (.getfield 70, 3))))
    (ms_lf (ms_aload_n (k := 0) hx hb rfl (by decide +kernel : decode cX12_isTaken 7 = .ok (.aload_n 0, 1)))))))
    (ms_b (ms_b (ms_lf (ms_getf (C := RX12) (T := TX12) (N := 80) hx hb hf hts (fun w h => hAW w (inq_12 w h)) hown hK rfl (by decide) (hts _ (hAW _ qw_1433)) rfl (by decide +kernel : decode cX12_isTaken 8 = .ok (.getfield 272, 3))))
    (ms_b (ms_lf (ms_iald hx hb hf hA hX (by decide +kernel : decode cX12_isTaken 11 = .ok (.iaload, 1))))
    (ms_lf (ms_ic_ge hx hb (by decide) (by decide +kernel : decode cX12_isTaken 12 = .ok (.if_icmp .ge 29, 3))))))
    (ms_b (ms_b (ms_lf (ms_iload_n (k := 3) hx hb rfl (by decide +kernel : decode cX12_isTaken 15 = .ok (.iload_n 3, 1))))
    (ms_lf (ms_iload_n (k := 1) hx hb rfl (by decide +kernel : decode cX12_isTaken 16 = .ok (.iload_n 1, 1)))))
    (ms_b (ms_lf (ms_ic_eq hx hb (by decide) (by decide +kernel : decode cX12_isTaken 17 = .ok (.if_icmp .eq 18, 3))))
    (ms_lf (ms_aload_n (k := 0) hx hb rfl (by decide +kernel : decode cX12_isTaken 20 = .ok (.aload_n 0, 1))))))))
    (ms_b (ms_b (ms_b (ms_lf (ms_getf (C := RX12) (T := TX12) (N := 80) hx hb hf hts (fun w h => hAW w (inq_12 w h)) hown hK rfl (by decide) (hts _ (hAW _ qw_1472)) rfl (by decide +kernel : decode cX12_isTaken 21 = .ok (.getfield 134, 3))))
    (ms_b (ms_lf (ms_bipush hx hb (by decide) (by decide +kernel : decode cX12_isTaken 24 = .ok (.bipush 43, 2))))
    (ms_lf (ms_iload_n (k := 3) hx hb rfl (by decide +kernel : decode cX12_isTaken 26 = .ok (.iload_n 3, 1))))))
    (ms_b (ms_lf (ms_iadd hx hb (by decide +kernel : decode cX12_isTaken 27 = .ok (.iadd, 1))))
    (ms_b (ms_lf (ms_iald hx hb hf hA hX (by decide +kernel : decode cX12_isTaken 28 = .ok (.iaload, 1))))
    (ms_lf (ms_iload_n (k := 2) hx hb rfl (by decide +kernel : decode cX12_isTaken 29 = .ok (.iload_n 2, 1)))))))
    (ms_b (ms_b (ms_lf (ms_ic_ne hx hb (by decide) (by decide +kernel : decode cX12_isTaken 30 = .ok (.if_icmp .ne 5, 3))))
    (ms_b (ms_lf (ms_iconst hx hb (by decide) (by decide +kernel : decode cX12_isTaken 33 = .ok (.iconst 1, 1))))
    (ms_lf (ms_iret hx hb hr hlk (by decide +kernel : decode cX12_isTaken 34 = .ok (.ireturn, 1))))))
    (ms_b (ms_b (ms_lf (ms_iinc hx hb (by decide) (by decide : 3 < 4) (by decide +kernel : decode cX12_isTaken 35 = .ok (.iinc 3 1, 3))))
    (ms_lf (ms_goto hx hb (by decide) (by decide +kernel : decode cX12_isTaken 38 = .ok (.goto (-36), 3)))))
    (ms_b (ms_lf (ms_iconst hx hb (by decide) (by decide +kernel : decode cX12_isTaken 41 = .ok (.iconst 0, 1))))
    (ms_lf (ms_iret hx hb hr hlk (by decide +kernel : decode cX12_isTaken 42 = .ok (.ireturn, 1)))))))))
set_option maxRecDepth 100000 in
set_option maxHeartbeats 8000000 in
/-- TippedCratesModel.canFrom -/
theorem sd_223 (l : Launch) (f : Nat → Nat) (D : va_G) (cA : FieldType → ClassId) (d : Nat) : mm_Ok2 l f D cA d (yX12_canFrom, cX12_canFrom, 5, (some .boolean), mc_223) := by
  intro p e R s m args below meth c C hRf hRl pc
  obtain ⟨hx, hb, hml, hr, hlk, hnm, hown, hts, hEX, hgo, hf⟩ := C
  obtain ⟨hK, hA, hX, hZs, hZc, hZq, hTx, hSR0, hSR1, hAO, hN⟩ := id hEX
  have hAW : ∀ w ∈ mm_AW, w ∈ (Cond.code yX12_canFrom cX12_canFrom 5 (some .boolean) :: mm_AW) := fun w h => List.mem_cons_of_mem _ h
  have hown : s.vm.findClass "TippedCratesModel" = some m.cls := hown
  show mm_S p l e R s m args below meth c f D mm_cl cA 5 _ pc (mc_223 pc)
  unfold mc_223
  exact (ms_b (ms_b (ms_b (ms_b (ms_lf (ms_aload_n (k := 0) hx hb rfl (by decide +kernel : decode cX12_canFrom 0 = .ok (.aload_n 0, 1))))
    (ms_lf (ms_iload_n (k := 2) hx hb rfl (by decide +kernel : decode cX12_canFrom 1 = .ok (.iload_n 2, 1)))))
    (ms_b (ms_lf (ms_iload_n (k := 3) hx hb rfl (by decide +kernel : decode cX12_canFrom 2 = .ok (.iload_n 3, 1))))
    (ms_b (ms_lf (ms_ivV (C := RX12) (T := TX12) (N := 80) hx hb hml hown hts hgo hEX hf hK rfl (mm_GV hAW (mm_GI hAW gi_221) qw_1820 qw_1822 qw_82 qw_137) rfl ⟨rfl, hd_221⟩ (mm_rm hRf hRl (Nat.le_of_ble_eq_true rfl)) (by decide +kernel : decode cX12_canFrom 3 = .ok (.invokevirtual 386, 3))))
    (ms_lf (ms_istore hx hb (by decide : 4 < 5) (by decide +kernel : decode cX12_canFrom 6 = .ok (.istore 4, 2)))))))
    (ms_b (ms_b (ms_lf (ms_iload hx hb (by decide +kernel : decode cX12_canFrom 8 = .ok (.iload 4, 2))))
    (ms_lf (ms_if_lt hx hb (by decide) (by decide +kernel : decode cX12_canFrom 10 = .ok (.ifCond .lt 26, 3)))))
    (ms_b (ms_lf (ms_aload_n (k := 0) hx hb rfl (by decide +kernel : decode cX12_canFrom 13 = .ok (.aload_n 0, 1))))
    (ms_b (ms_lf (ms_iload hx hb (by decide +kernel : decode cX12_canFrom 14 = .ok (.iload 4, 2))))
    (ms_lf (ms_ivV (C := RX12) (T := TX12) (N := 80) hx hb hml hown hts hgo hEX hf hK rfl (mm_GV hAW (mm_GI hAW gi_213) qw_1789 qw_1791 qw_77 qw_137) rfl ⟨rfl, hd_213⟩ (mm_rm hRf hRl (Nat.le_of_ble_eq_true rfl)) (by decide +kernel : decode cX12_canFrom 16 = .ok (.invokevirtual 389, 3))))))))
    (ms_b (ms_b (ms_b (ms_lf (ms_if_ne hx hb (by decide) (by decide +kernel : decode cX12_canFrom 19 = .ok (.ifCond .ne 17, 3))))
    (ms_lf (ms_aload_n (k := 0) hx hb rfl (by decide +kernel : decode cX12_canFrom 22 = .ok (.aload_n 0, 1)))))
    (ms_b (ms_lf (ms_iload_n (k := 1) hx hb rfl (by decide +kernel : decode cX12_canFrom 23 = .ok (.iload_n 1, 1))))
    (ms_b (ms_lf (ms_iload hx hb (by decide +kernel : decode cX12_canFrom 24 = .ok (.iload 4, 2))))
    (ms_lf (ms_ivV (C := RX12) (T := TX12) (N := 80) hx hb hml hown hts hgo hEX hf hK rfl (mm_GV hAW (mm_GI hAW gi_222) qw_1832 qw_1834 qw_85 qw_137) rfl ⟨rfl, hd_222⟩ (mm_rm hRf hRl (Nat.le_of_ble_eq_true rfl)) (by decide +kernel : decode cX12_canFrom 26 = .ok (.invokevirtual 392, 3)))))))
    (ms_b (ms_b (ms_lf (ms_if_ne hx hb (by decide) (by decide +kernel : decode cX12_canFrom 29 = .ok (.ifCond .ne 7, 3))))
    (ms_lf (ms_iconst hx hb (by decide) (by decide +kernel : decode cX12_canFrom 32 = .ok (.iconst 1, 1)))))
    (ms_b (ms_lf (ms_goto hx hb (by decide) (by decide +kernel : decode cX12_canFrom 33 = .ok (.goto 4, 3))))
    (ms_b (ms_lf (ms_iconst hx hb (by decide) (by decide +kernel : decode cX12_canFrom 36 = .ok (.iconst 0, 1))))
    (ms_lf (ms_iret hx hb hr hlk (by decide +kernel : decode cX12_canFrom 37 = .ok (.ireturn, 1)))))))))
set_option maxRecDepth 100000 in
set_option maxHeartbeats 8000000 in
/-- TippedCratesModel.canTip -/
theorem sd_224 (l : Launch) (f : Nat → Nat) (D : va_G) (cA : FieldType → ClassId) (d : Nat) : mm_Ok2 l f D cA d (yX12_canTip, cX12_canTip, 3, (some .boolean), mc_224) := by
  intro p e R s m args below meth c C hRf hRl pc
  obtain ⟨hx, hb, hml, hr, hlk, hnm, hown, hts, hEX, hgo, hf⟩ := C
  obtain ⟨hK, hA, hX, hZs, hZc, hZq, hTx, hSR0, hSR1, hAO, hN⟩ := id hEX
  have hAW : ∀ w ∈ mm_AW, w ∈ (Cond.code yX12_canTip cX12_canTip 3 (some .boolean) :: mm_AW) := fun w h => List.mem_cons_of_mem _ h
  have hown : s.vm.findClass "TippedCratesModel" = some m.cls := hown
  show mm_S p l e R s m args below meth c f D mm_cl cA 3 _ pc (mc_224 pc)
  unfold mc_224
  exact (ms_b (ms_b (ms_b (ms_lf (ms_aload_n (k := 0) hx hb rfl (by decide +kernel : decode cX12_canTip 0 = .ok (.aload_n 0, 1))))
    (ms_lf (ms_iload_n (k := 1) hx hb rfl (by decide +kernel : decode cX12_canTip 1 = .ok (.iload_n 1, 1)))))
    (ms_b (ms_lf (ms_aload_n (k := 0) hx hb rfl (by decide +kernel : decode cX12_canTip 2 = .ok (.aload_n 0, 1))))
    (ms_b (ms_lf (ms_getf (C := RX12) (T := TX12) (N := 80) hx hb hf hts (fun w h => hAW w (inq_12 w h)) hown hK rfl (by decide) (hts _ (hAW _ qw_1472)) rfl (by decide +kernel : decode cX12_canTip 3 = .ok (.getfield 134, 3))))
    (ms_lf (ms_bipush hx hb (by decide) (by decide +kernel : decode cX12_canTip 6 = .ok (.bipush 43, 2)))))))
    (ms_b (ms_b (ms_lf (ms_iload_n (k := 1) hx hb rfl (by decide +kernel : decode cX12_canTip 8 = .ok (.iload_n 1, 1))))
    (ms_b (ms_lf (ms_iadd hx hb (by decide +kernel : decode cX12_canTip 9 = .ok (.iadd, 1))))
    (ms_lf (ms_iald hx hb hf hA hX (by decide +kernel : decode cX12_canTip 10 = .ok (.iaload, 1))))))
    (ms_b (ms_lf (ms_iload_n (k := 2) hx hb rfl (by decide +kernel : decode cX12_canTip 11 = .ok (.iload_n 2, 1))))
    (ms_b (ms_lf (ms_ivV (C := RX12) (T := TX12) (N := 80) hx hb hml hown hts hgo hEX hf hK rfl (mm_GV hAW (mm_GI hAW gi_223) qw_1816 qw_1818 qw_81 qw_137) rfl ⟨rfl, hd_223⟩ (mm_rm hRf hRl (Nat.le_of_ble_eq_true rfl)) (by decide +kernel : decode cX12_canTip 12 = .ok (.invokevirtual 395, 3))))
    (ms_lf (ms_iret hx hb hr hlk (by decide +kernel : decode cX12_canTip 15 = .ok (.ireturn, 1))))))))
set_option maxRecDepth 100000 in
set_option maxHeartbeats 8000000 in
/-- TippedCratesModel.lawTells -/
theorem sd_225 (l : Launch) (f : Nat → Nat) (D : va_G) (cA : FieldType → ClassId) (d : Nat) : mm_Ok2 l f D cA d (yX12_lawTells, cX12_lawTells, 7, (some .int), mc_225) := by
  intro p e R s m args below meth c C hRf hRl pc
  obtain ⟨hx, hb, hml, hr, hlk, hnm, hown, hts, hEX, hgo, hf⟩ := C
  obtain ⟨hK, hA, hX, hZs, hZc, hZq, hTx, hSR0, hSR1, hAO, hN⟩ := id hEX
  have hAW : ∀ w ∈ mm_AW, w ∈ (Cond.code yX12_lawTells cX12_lawTells 7 (some .int) :: mm_AW) := fun w h => List.mem_cons_of_mem _ h
  have hown : s.vm.findClass "TippedCratesModel" = some m.cls := hown
  show mm_S p l e R s m args below meth c f D mm_cl cA 7 _ pc (mc_225 pc)
  unfold mc_225
  exact (ms_b (ms_b (ms_b (ms_b (ms_b (ms_b (ms_lf (ms_iconst hx hb (by decide) (by decide +kernel : decode cX12_lawTells 0 = .ok (.iconst 4, 1))))
    (ms_lf (ms_aload_n (k := 0) hx hb rfl (by decide +kernel : decode cX12_lawTells 1 = .ok (.aload_n 0, 1)))))
    (ms_b (ms_lf (ms_getf (C := RX12) (T := TX12) (N := 80) hx hb hf hts (fun w h => hAW w (inq_12 w h)) hown hK rfl (by decide) (hts _ (hAW _ qw_1433)) rfl (by decide +kernel : decode cX12_lawTells 2 = .ok (.getfield 272, 3))))
    (ms_b (ms_lf (ms_imul hx hb (by decide +kernel : decode cX12_lawTells 5 = .ok (.imul, 1))))
    (ms_lf (ms_iload_n (k := 1) hx hb rfl (by decide +kernel : decode cX12_lawTells 6 = .ok (.iload_n 1, 1)))))))
    (ms_b (ms_b (ms_lf (ms_iadd hx hb (by decide +kernel : decode cX12_lawTells 7 = .ok (.iadd, 1))))
    (ms_b (ms_lf (ms_istore_n (k := 3) hx hb rfl (by decide : 3 < 7) (by decide +kernel : decode cX12_lawTells 8 = .ok (.istore_n 3, 1))))
    (ms_lf (ms_aload_n (k := 0) hx hb rfl (by decide +kernel : decode cX12_lawTells 9 = .ok (.aload_n 0, 1))))))
    (ms_b (ms_lf (ms_getf (C := RX12) (T := TX12) (N := 80) hx hb hf hts (fun w h => hAW w (inq_12 w h)) hown hK rfl (by decide) (hts _ (hAW _ qw_1451)) rfl (by decide +kernel : decode cX12_lawTells 10 = .ok (.getfield 85, 3))))
    (ms_b (ms_lf (ms_iload_n (k := 3) hx hb rfl (by decide +kernel : decode cX12_lawTells 13 = .ok (.iload_n 3, 1))))
    (ms_lf (ms_iald hx hb hf hA hX (by decide +kernel : decode cX12_lawTells 14 = .ok (.iaload, 1))))))))
    (ms_b (ms_b (ms_b (ms_lf (ms_aload_n (k := 0) hx hb rfl (by decide +kernel : decode cX12_lawTells 15 = .ok (.aload_n 0, 1))))
    (ms_lf (ms_getf (C := RX12) (T := TX12) (N := 80) hx hb hf hts (fun w h => hAW w (inq_12 w h)) hown hK rfl (by decide) (hts _ (hAW _ qw_1452)) rfl (by decide +kernel : decode cX12_lawTells 16 = .ok (.getfield 88, 3)))))
    (ms_b (ms_lf (ms_iload_n (k := 3) hx hb rfl (by decide +kernel : decode cX12_lawTells 19 = .ok (.iload_n 3, 1))))
    (ms_b (ms_lf (ms_iald hx hb hf hA hX (by decide +kernel : decode cX12_lawTells 20 = .ok (.iaload, 1))))
    (ms_lf (ms_ic_ne hx hb (by decide) (by decide +kernel : decode cX12_lawTells 21 = .ok (.if_icmp .ne 5, 3)))))))
    (ms_b (ms_b (ms_lf (ms_iload_n (k := 2) hx hb rfl (by decide +kernel : decode cX12_lawTells 24 = .ok (.iload_n 2, 1))))
    (ms_b (ms_lf (ms_iret hx hb hr hlk (by decide +kernel : decode cX12_lawTells 25 = .ok (.ireturn, 1))))
    (ms_lf (ms_aload_n (k := 0) hx hb rfl (by decide +kernel : decode cX12_lawTells 26 = .ok (.aload_n 0, 1))))))
    (ms_b (ms_lf (ms_iconst hx hb (by decide) (by decide +kernel : decode cX12_lawTells 27 = .ok (.iconst 0, 1))))
    (ms_b (ms_lf (ms_put (C := RX12) (T := TX12) (N := 80) hx hb hf hts (fun w h => hAW w (inq_12 w h)) tyX12 tyX12_ok nmX12 hown hK rfl (by decide) (hts _ (hAW _ qw_1466)) rfl rfl rfl (by decide +kernel : decode cX12_lawTells 28 = .ok (.putfield 346, 3))))
    (ms_lf (ms_aload_n (k := 0) hx hb rfl (by decide +kernel : decode cX12_lawTells 31 = .ok (.aload_n 0, 1)))))))))
    (ms_b (ms_b (ms_b (ms_b (ms_lf (ms_getf (C := RX12) (T := TX12) (N := 80) hx hb hf hts (fun w h => hAW w (inq_12 w h)) hown hK rfl (by decide) (hts _ (hAW _ qw_1451)) rfl (by decide +kernel : decode cX12_lawTells 32 = .ok (.getfield 85, 3))))
    (ms_lf (ms_iload_n (k := 3) hx hb rfl (by decide +kernel : decode cX12_lawTells 35 = .ok (.iload_n 3, 1)))))
    (ms_b (ms_lf (ms_iald hx hb hf hA hX (by decide +kernel : decode cX12_lawTells 36 = .ok (.iaload, 1))))
    (ms_b (ms_lf (ms_istore hx hb (by decide : 4 < 7) (by decide +kernel : decode cX12_lawTells 37 = .ok (.istore 4, 2))))
    (ms_lf (ms_iload hx hb (by decide +kernel : decode cX12_lawTells 39 = .ok (.iload 4, 2)))))))
    (ms_b (ms_b (ms_lf (ms_aload_n (k := 0) hx hb rfl (by decide +kernel : decode cX12_lawTells 41 = .ok (.aload_n 0, 1))))
    (ms_b (ms_lf (ms_getf (C := RX12) (T := TX12) (N := 80) hx hb hf hts (fun w h => hAW w (inq_12 w h)) hown hK rfl (by decide) (hts _ (hAW _ qw_1452)) rfl (by decide +kernel : decode cX12_lawTells 42 = .ok (.getfield 88, 3))))
    (ms_lf (ms_iload_n (k := 3) hx hb rfl (by decide +kernel : decode cX12_lawTells 45 = .ok (.iload_n 3, 1))))))
    (ms_b (ms_lf (ms_iald hx hb hf hA hX (by decide +kernel : decode cX12_lawTells 46 = .ok (.iaload, 1))))
    (ms_b (ms_lf (ms_ic_ge hx hb (by decide) (by decide +kernel : decode cX12_lawTells 47 = .ok (.if_icmp .ge 112, 3))))
    (ms_lf (ms_aload_n (k := 0) hx hb rfl (by decide +kernel : decode cX12_lawTells 50 = .ok (.aload_n 0, 1))))))))
    (ms_b (ms_b (ms_b (ms_lf (ms_getf (C := RX12) (T := TX12) (N := 80) hx hb hf hts (fun w h => hAW w (inq_12 w h)) hown hK rfl (by decide) (hts _ (hAW _ qw_1454)) rfl (by decide +kernel : decode cX12_lawTells 51 = .ok (.getfield 91, 3))))
    (ms_b (ms_lf (ms_iload hx hb (by decide +kernel : decode cX12_lawTells 54 = .ok (.iload 4, 2))))
    (ms_lf (ms_bald hx hb hf hA (by decide +kernel : decode cX12_lawTells 56 = .ok (.baload, 1))))))
    (ms_b (ms_lf (ms_if_eq hx hb (by decide) (by decide +kernel : decode cX12_lawTells 57 = .ok (.ifCond .eq 62, 3))))
    (ms_b (ms_lf (ms_aload_n (k := 0) hx hb rfl (by decide +kernel : decode cX12_lawTells 60 = .ok (.aload_n 0, 1))))
    (ms_lf (ms_aload_n (k := 0) hx hb rfl (by decide +kernel : decode cX12_lawTells 61 = .ok (.aload_n 0, 1)))))))
    (ms_b (ms_b (ms_lf (ms_getf (C := RX12) (T := TX12) (N := 80) hx hb hf hts (fun w h => hAW w (inq_12 w h)) hown hK rfl (by decide) (hts _ (hAW _ qw_1455)) rfl (by decide +kernel : decode cX12_lawTells 62 = .ok (.getfield 95, 3))))
    (ms_b (ms_lf (ms_iload hx hb (by decide +kernel : decode cX12_lawTells 65 = .ok (.iload 4, 2))))
    (ms_lf (ms_iald hx hb hf hA hX (by decide +kernel : decode cX12_lawTells 67 = .ok (.iaload, 1))))))
    (ms_b (ms_lf (ms_aload_n (k := 0) hx hb rfl (by decide +kernel : decode cX12_lawTells 68 = .ok (.aload_n 0, 1))))
    (ms_b (ms_lf (ms_getf (C := RX12) (T := TX12) (N := 80) hx hb hf hts (fun w h => hAW w (inq_12 w h)) hown hK rfl (by decide) (hts _ (hAW _ qw_1456)) rfl (by decide +kernel : decode cX12_lawTells 69 = .ok (.getfield 98, 3))))
    (ms_lf (ms_iload hx hb (by decide +kernel : decode cX12_lawTells 72 = .ok (.iload 4, 2))))))))))
    (ms_b (ms_b (ms_b (ms_b (ms_b (ms_lf (ms_iald hx hb hf hA hX (by decide +kernel : decode cX12_lawTells 74 = .ok (.iaload, 1))))
    (ms_lf (ms_ivV (C := RX12) (T := TX12) (N := 80) hx hb hml hown hts hgo hEX hf hK rfl (mm_GV hAW (mm_GI hAW gi_201) qw_1856 qw_1858 qw_91 qw_137) rfl ⟨rfl, hd_201⟩ (mm_rm hRf hRl (Nat.le_of_ble_eq_true rfl)) (by decide +kernel : decode cX12_lawTells 75 = .ok (.invokevirtual 398, 3)))))
    (ms_b (ms_lf (ms_istore hx hb (by decide : 5 < 7) (by decide +kernel : decode cX12_lawTells 78 = .ok (.istore 5, 2))))
    (ms_b (ms_lf (ms_aload_n (k := 0) hx hb rfl (by decide +kernel : decode cX12_lawTells 80 = .ok (.aload_n 0, 1))))
    (ms_lf (ms_aload_n (k := 0) hx hb rfl (by decide +kernel : decode cX12_lawTells 81 = .ok (.aload_n 0, 1)))))))
    (ms_b (ms_b (ms_lf (ms_getf (C := RX12) (T := TX12) (N := 80) hx hb hf hts (fun w h => hAW w (inq_12 w h)) hown hK rfl (by decide) (hts _ (hAW _ qw_1456)) rfl (by decide +kernel : decode cX12_lawTells 82 = .ok (.getfield 98, 3))))
    (ms_b (ms_lf (ms_iload hx hb (by decide +kernel : decode cX12_lawTells 85 = .ok (.iload 4, 2))))
    (ms_lf (ms_iald hx hb hf hA hX (by decide +kernel : decode cX12_lawTells 87 = .ok (.iaload, 1))))))
    (ms_b (ms_lf (ms_aload_n (k := 0) hx hb rfl (by decide +kernel : decode cX12_lawTells 88 = .ok (.aload_n 0, 1))))
    (ms_b (ms_lf (ms_getf (C := RX12) (T := TX12) (N := 80) hx hb hf hts (fun w h => hAW w (inq_12 w h)) hown hK rfl (by decide) (hts _ (hAW _ qw_1457)) rfl (by decide +kernel : decode cX12_lawTells 89 = .ok (.getfield 101, 3))))
    (ms_lf (ms_iload hx hb (by decide +kernel : decode cX12_lawTells 92 = .ok (.iload 4, 2))))))))
    (ms_b (ms_b (ms_b (ms_lf (ms_iald hx hb hf hA hX (by decide +kernel : decode cX12_lawTells 94 = .ok (.iaload, 1))))
    (ms_lf (ms_ivV (C := RX12) (T := TX12) (N := 80) hx hb hml hown hts hgo hEX hf hK rfl (mm_GV hAW (mm_GI hAW gi_201) qw_1856 qw_1858 qw_91 qw_137) rfl ⟨rfl, hd_201⟩ (mm_rm hRf hRl (Nat.le_of_ble_eq_true rfl)) (by decide +kernel : decode cX12_lawTells 95 = .ok (.invokevirtual 398, 3)))))
    (ms_b (ms_lf (ms_istore hx hb (by decide : 6 < 7) (by decide +kernel : decode cX12_lawTells 98 = .ok (.istore 6, 2))))
    (ms_b (ms_lf (ms_aload_n (k := 0) hx hb rfl (by decide +kernel : decode cX12_lawTells 100 = .ok (.aload_n 0, 1))))
    (ms_lf (ms_getf (C := RX12) (T := TX12) (N := 80) hx hb hf hts (fun w h => hAW w (inq_12 w h)) hown hK rfl (by decide) (hts _ (hAW _ qw_1466)) rfl (by decide +kernel : decode cX12_lawTells 101 = .ok (.getfield 346, 3)))))))
    (ms_b (ms_b (ms_lf (ms_if_eq hx hb (by decide) (by decide +kernel : decode cX12_lawTells 104 = .ok (.ifCond .eq 5, 3))))
    (ms_b (ms_lf (ms_iconst hx hb (by decide) (by decide +kernel : decode cX12_lawTells 107 = .ok (.iconst 0, 1))))
    (ms_lf (ms_iret hx hb hr hlk (by decide +kernel : decode cX12_lawTells 108 = .ok (.ireturn, 1))))))
    (ms_b (ms_lf (ms_iload hx hb (by decide +kernel : decode cX12_lawTells 109 = .ok (.iload 5, 2))))
    (ms_b (ms_lf (ms_iload hx hb (by decide +kernel : decode cX12_lawTells 111 = .ok (.iload 6, 2))))
    (ms_lf (ms_ic_lt hx hb (by decide) (by decide +kernel : decode cX12_lawTells 113 = .ok (.if_icmp .lt 6, 3)))))))))
    (ms_b (ms_b (ms_b (ms_b (ms_lf (ms_goto hx hb (by decide) (by decide +kernel : decode cX12_lawTells 116 = .ok (.goto 37, 3))))
    (ms_lf (ms_aload_n (k := 0) hx hb rfl (by decide +kernel : decode cX12_lawTells 119 = .ok (.aload_n 0, 1)))))
    (ms_b (ms_lf (ms_aload_n (k := 0) hx hb rfl (by decide +kernel : decode cX12_lawTells 120 = .ok (.aload_n 0, 1))))
    (ms_b (ms_lf (ms_getf (C := RX12) (T := TX12) (N := 80) hx hb hf hts (fun w h => hAW w (inq_12 w h)) hown hK rfl (by decide) (hts _ (hAW _ qw_1457)) rfl (by decide +kernel : decode cX12_lawTells 121 = .ok (.getfield 101, 3))))
    (ms_lf (ms_iload hx hb (by decide +kernel : decode cX12_lawTells 124 = .ok (.iload 4, 2)))))))
    (ms_b (ms_b (ms_lf (ms_iald hx hb hf hA hX (by decide +kernel : decode cX12_lawTells 126 = .ok (.iaload, 1))))
    (ms_b (ms_lf (ms_aload_n (k := 0) hx hb rfl (by decide +kernel : decode cX12_lawTells 127 = .ok (.aload_n 0, 1))))
    (ms_lf (ms_getf (C := RX12) (T := TX12) (N := 80) hx hb hf hts (fun w h => hAW w (inq_12 w h)) hown hK rfl (by decide) (hts _ (hAW _ qw_1458)) rfl (by decide +kernel : decode cX12_lawTells 128 = .ok (.getfield 104, 3))))))
    (ms_b (ms_lf (ms_iload hx hb (by decide +kernel : decode cX12_lawTells 131 = .ok (.iload 4, 2))))
    (ms_b (ms_lf (ms_iald hx hb hf hA hX (by decide +kernel : decode cX12_lawTells 133 = .ok (.iaload, 1))))
    (ms_lf (ms_ivV (C := RX12) (T := TX12) (N := 80) hx hb hml hown hts hgo hEX hf hK rfl (mm_GV hAW (mm_GI hAW gi_201) qw_1856 qw_1858 qw_91 qw_137) rfl ⟨rfl, hd_201⟩ (mm_rm hRf hRl (Nat.le_of_ble_eq_true rfl)) (by decide +kernel : decode cX12_lawTells 134 = .ok (.invokevirtual 398, 3))))))))
    (ms_b (ms_b (ms_b (ms_lf (ms_istore hx hb (by decide : 5 < 7) (by decide +kernel : decode cX12_lawTells 137 = .ok (.istore 5, 2))))
    (ms_b (ms_lf (ms_aload_n (k := 0) hx hb rfl (by decide +kernel : decode cX12_lawTells 139 = .ok (.aload_n 0, 1))))
    (ms_lf (ms_getf (C := RX12) (T := TX12) (N := 80) hx hb hf hts (fun w h => hAW w (inq_12 w h)) hown hK rfl (by decide) (hts _ (hAW _ qw_1466)) rfl (by decide +kernel : decode cX12_lawTells 140 = .ok (.getfield 346, 3))))))
    (ms_b (ms_lf (ms_if_eq hx hb (by decide) (by decide +kernel : decode cX12_lawTells 143 = .ok (.ifCond .eq 7, 3))))
    (ms_b (ms_lf (ms_iconst hx hb (by decide) (by decide +kernel : decode cX12_lawTells 146 = .ok (.iconst 0, 1))))
    (ms_lf (ms_goto hx hb (by decide) (by decide +kernel : decode cX12_lawTells 147 = .ok (.goto 5, 3)))))))
    (ms_b (ms_b (ms_lf (ms_iload hx hb (by decide +kernel : decode cX12_lawTells 150 = .ok (.iload 5, 2))))
    (ms_b (ms_lf (ms_iret hx hb hr hlk (by decide +kernel : decode cX12_lawTells 152 = .ok (.ireturn, 1))))
    (ms_lf (ms_iinc hx hb (by decide) (by decide : 4 < 7) (by decide +kernel : decode cX12_lawTells 153 = .ok (.iinc 4 1, 3))))))
    (ms_b (ms_lf (ms_goto hx hb (by decide) (by decide +kernel : decode cX12_lawTells 156 = .ok (.goto (-117), 3))))
    (ms_b (ms_lf (ms_iconst hx hb (by decide) (by decide +kernel : decode cX12_lawTells 159 = .ok (.iconst 0, 1))))
    (ms_lf (ms_iret hx hb hr hlk (by decide +kernel : decode cX12_lawTells 160 = .ok (.ireturn, 1)))))))))))
set_option maxRecDepth 100000 in
set_option maxHeartbeats 8000000 in
/-- TippedCratesModel.views -/
theorem sd_226 (l : Launch) (f : Nat → Nat) (D : va_G) (cA : FieldType → ClassId) (d : Nat) : mm_Ok2 l f D cA d (yX12_views, cX12_views, 7, none, mc_226) := by
  intro p e R s m args below meth c C hRf hRl pc
  obtain ⟨hx, hb, hml, hr, hlk, hnm, hown, hts, hEX, hgo, hf⟩ := C
  obtain ⟨hK, hA, hX, hZs, hZc, hZq, hTx, hSR0, hSR1, hAO, hN⟩ := id hEX
  have hAW : ∀ w ∈ mm_AW, w ∈ (Cond.code yX12_views cX12_views 7 none :: mm_AW) := fun w h => List.mem_cons_of_mem _ h
  have hown : s.vm.findClass "TippedCratesModel" = some m.cls := hown
  show mm_S p l e R s m args below meth c f D mm_cl cA 7 _ pc (mc_226 pc)
  unfold mc_226
  exact (ms_b (ms_b (ms_b (ms_b (ms_b (ms_b (ms_lf (ms_aload_n (k := 0) hx hb rfl (by decide +kernel : decode cX12_views 0 = .ok (.aload_n 0, 1))))
    (ms_lf (ms_iload_n (k := 2) hx hb rfl (by decide +kernel : decode cX12_views 1 = .ok (.iload_n 2, 1)))))
    (ms_b (ms_lf (ms_iload hx hb (by decide +kernel : decode cX12_views 2 = .ok (.iload 4, 2))))
    (ms_b (ms_lf (ms_ivV (C := RX12) (T := TX12) (N := 80) hx hb hml hown hts hgo hEX hf hK rfl (mm_GV hAW (mm_GI hAW gi_221) qw_1820 qw_1822 qw_82 qw_137) rfl ⟨rfl, hd_221⟩ (mm_rm hRf hRl (Nat.le_of_ble_eq_true rfl)) (by decide +kernel : decode cX12_views 4 = .ok (.invokevirtual 386, 3))))
    (ms_lf (ms_istore hx hb (by decide : 5 < 7) (by decide +kernel : decode cX12_views 7 = .ok (.istore 5, 2)))))))
    (ms_b (ms_b (ms_lf (ms_aload_n (k := 0) hx hb rfl (by decide +kernel : decode cX12_views 9 = .ok (.aload_n 0, 1))))
    (ms_b (ms_lf (ms_getf (C := RX12) (T := TX12) (N := 80) hx hb hf hts (fun w h => hAW w (inq_12 w h)) hown hK rfl (by decide) (hts _ (hAW _ qw_1468)) rfl (by decide +kernel : decode cX12_views 10 = .ok (.getfield 125, 3))))
    (ms_lf (ms_iconst hx hb (by decide) (by decide +kernel : decode cX12_views 13 = .ok (.iconst 4, 1))))))
    (ms_b (ms_lf (ms_iload_n (k := 3) hx hb rfl (by decide +kernel : decode cX12_views 14 = .ok (.iload_n 3, 1))))
    (ms_b (ms_lf (ms_imul hx hb (by decide +kernel : decode cX12_views 15 = .ok (.imul, 1))))
    (ms_lf (ms_iload hx hb (by decide +kernel : decode cX12_views 16 = .ok (.iload 4, 2))))))))
    (ms_b (ms_b (ms_b (ms_lf (ms_iadd hx hb (by decide +kernel : decode cX12_views 18 = .ok (.iadd, 1))))
    (ms_lf (ms_iald hx hb hf hA hX (by decide +kernel : decode cX12_views 19 = .ok (.iaload, 1)))))
    (ms_b (ms_lf (ms_istore hx hb (by decide : 6 < 7) (by decide +kernel : decode cX12_views 20 = .ok (.istore 6, 2))))
    (ms_b (ms_lf (ms_aload_n (k := 0) hx hb rfl (by decide +kernel : decode cX12_views 22 = .ok (.aload_n 0, 1))))
    (ms_lf (ms_getf (C := RX12) (T := TX12) (N := 80) hx hb hf hts (fun w h => hAW w (inq_12 w h)) hown hK rfl (by decide) (hts _ (hAW _ qw_1464)) rfl (by decide +kernel : decode cX12_views 23 = .ok (.getfield 116, 3)))))))
    (ms_b (ms_b (ms_lf (ms_iconst hx hb (by decide) (by decide +kernel : decode cX12_views 26 = .ok (.iconst 0, 1))))
    (ms_b (ms_lf (ms_aload_n (k := 0) hx hb rfl (by decide +kernel : decode cX12_views 27 = .ok (.aload_n 0, 1))))
    (ms_lf (ms_iload_n (k := 2) hx hb rfl (by decide +kernel : decode cX12_views 28 = .ok (.iload_n 2, 1))))))
    (ms_b (ms_lf (ms_iload hx hb (by decide +kernel : decode cX12_views 29 = .ok (.iload 4, 2))))
    (ms_b (ms_lf (ms_ivV (C := RX12) (T := TX12) (N := 80) hx hb hml hown hts hgo hEX hf hK rfl (mm_GV hAW (mm_GI hAW gi_219) qw_1824 qw_1826 qw_83 qw_137) rfl ⟨rfl, hd_219⟩ (mm_rm hRf hRl (Nat.le_of_ble_eq_true rfl)) (by decide +kernel : decode cX12_views 31 = .ok (.invokevirtual 380, 3))))
    (ms_lf (ms_iast hx hb hf hA (by decide +kernel : decode cX12_views 34 = .ok (.iastore, 1)))))))))
    (ms_b (ms_b (ms_b (ms_b (ms_lf (ms_aload_n (k := 0) hx hb rfl (by decide +kernel : decode cX12_views 35 = .ok (.aload_n 0, 1))))
    (ms_lf (ms_getf (C := RX12) (T := TX12) (N := 80) hx hb hf hts (fun w h => hAW w (inq_12 w h)) hown hK rfl (by decide) (hts _ (hAW _ qw_1464)) rfl (by decide +kernel : decode cX12_views 36 = .ok (.getfield 116, 3)))))
    (ms_b (ms_lf (ms_iconst hx hb (by decide) (by decide +kernel : decode cX12_views 39 = .ok (.iconst 1, 1))))
    (ms_b (ms_lf (ms_aload_n (k := 0) hx hb rfl (by decide +kernel : decode cX12_views 40 = .ok (.aload_n 0, 1))))
    (ms_lf (ms_iload_n (k := 2) hx hb rfl (by decide +kernel : decode cX12_views 41 = .ok (.iload_n 2, 1)))))))
    (ms_b (ms_b (ms_lf (ms_iload hx hb (by decide +kernel : decode cX12_views 42 = .ok (.iload 4, 2))))
    (ms_b (ms_lf (ms_ivV (C := RX12) (T := TX12) (N := 80) hx hb hml hown hts hgo hEX hf hK rfl (mm_GV hAW (mm_GI hAW gi_220) qw_1828 qw_1830 qw_84 qw_137) rfl ⟨rfl, hd_220⟩ (mm_rm hRf hRl (Nat.le_of_ble_eq_true rfl)) (by decide +kernel : decode cX12_views 44 = .ok (.invokevirtual 383, 3))))
    (ms_lf (ms_iast hx hb hf hA (by decide +kernel : decode cX12_views 47 = .ok (.iastore, 1))))))
    (ms_b (ms_lf (ms_aload_n (k := 0) hx hb rfl (by decide +kernel : decode cX12_views 48 = .ok (.aload_n 0, 1))))
    (ms_b (ms_lf (ms_getf (C := RX12) (T := TX12) (N := 80) hx hb hf hts (fun w h => hAW w (inq_12 w h)) hown hK rfl (by decide) (hts _ (hAW _ qw_1464)) rfl (by decide +kernel : decode cX12_views 49 = .ok (.getfield 116, 3))))
    (ms_lf (ms_iconst hx hb (by decide) (by decide +kernel : decode cX12_views 52 = .ok (.iconst 2, 1))))))))
    (ms_b (ms_b (ms_b (ms_lf (ms_iload hx hb (by decide +kernel : decode cX12_views 53 = .ok (.iload 5, 2))))
    (ms_lf (ms_if_ge hx hb (by decide) (by decide +kernel : decode cX12_views 55 = .ok (.ifCond .ge 7, 3)))))
    (ms_b (ms_lf (ms_iconst hx hb (by decide) (by decide +kernel : decode cX12_views 58 = .ok (.iconst 0, 1))))
    (ms_b (ms_lf (ms_goto hx hb (by decide) (by decide +kernel : decode cX12_views 59 = .ok (.goto 10, 3))))
    (ms_lf (ms_aload_n (k := 0) hx hb rfl (by decide +kernel : decode cX12_views 62 = .ok (.aload_n 0, 1)))))))
    (ms_b (ms_b (ms_lf (ms_getf (C := RX12) (T := TX12) (N := 80) hx hb hf hts (fun w h => hAW w (inq_12 w h)) hown hK rfl (by decide) (hts _ (hAW _ qw_1472)) rfl (by decide +kernel : decode cX12_views 63 = .ok (.getfield 134, 3))))
    (ms_b (ms_lf (ms_iload hx hb (by decide +kernel : decode cX12_views 66 = .ok (.iload 5, 2))))
    (ms_lf (ms_iald hx hb hf hA hX (by decide +kernel : decode cX12_views 68 = .ok (.iaload, 1))))))
    (ms_b (ms_lf (ms_iast hx hb hf hA (by decide +kernel : decode cX12_views 69 = .ok (.iastore, 1))))
    (ms_b (ms_lf (ms_aload_n (k := 0) hx hb rfl (by decide +kernel : decode cX12_views 70 = .ok (.aload_n 0, 1))))
    (ms_lf (ms_getf (C := RX12) (T := TX12) (N := 80) hx hb hf hts (fun w h => hAW w (inq_12 w h)) hown hK rfl (by decide) (hts _ (hAW _ qw_1464)) rfl (by decide +kernel : decode cX12_views 71 = .ok (.getfield 116, 3))))))))))
    (ms_b (ms_b (ms_b (ms_b (ms_b (ms_lf (ms_iconst hx hb (by decide) (by decide +kernel : decode cX12_views 74 = .ok (.iconst 3, 1))))
    (ms_lf (ms_aload_n (k := 0) hx hb rfl (by decide +kernel : decode cX12_views 75 = .ok (.aload_n 0, 1)))))
    (ms_b (ms_lf (ms_iload_n (k := 1) hx hb rfl (by decide +kernel : decode cX12_views 76 = .ok (.iload_n 1, 1))))
    (ms_b (ms_lf (ms_iload hx hb (by decide +kernel : decode cX12_views 77 = .ok (.iload 6, 2))))
    (ms_lf (ms_iconst hx hb (by decide) (by decide +kernel : decode cX12_views 79 = .ok (.iconst 0, 1)))))))
    (ms_b (ms_b (ms_lf (ms_ivV (C := RX12) (T := TX12) (N := 80) hx hb hml hown hts hgo hEX hf hK rfl (mm_GV hAW (mm_GI hAW gi_227) qw_1848 qw_1850 qw_89 qw_137) rfl ⟨rfl, hd_227⟩ (mm_rm hRf hRl (Nat.le_of_ble_eq_true rfl)) (by decide +kernel : decode cX12_views 80 = .ok (.invokevirtual 401, 3))))
    (ms_b (ms_lf (ms_iast hx hb hf hA (by decide +kernel : decode cX12_views 83 = .ok (.iastore, 1))))
    (ms_lf (ms_aload_n (k := 0) hx hb rfl (by decide +kernel : decode cX12_views 84 = .ok (.aload_n 0, 1))))))
    (ms_b (ms_lf (ms_getf (C := RX12) (T := TX12) (N := 80) hx hb hf hts (fun w h => hAW w (inq_12 w h)) hown hK rfl (by decide) (hts _ (hAW _ qw_1464)) rfl (by decide +kernel : decode cX12_views 85 = .ok (.getfield 116, 3))))
    (ms_b (ms_lf (ms_iconst hx hb (by decide) (by decide +kernel : decode cX12_views 88 = .ok (.iconst 4, 1))))
    (ms_lf (ms_aload_n (k := 0) hx hb rfl (by decide +kernel : decode cX12_views 89 = .ok (.aload_n 0, 1))))))))
    (ms_b (ms_b (ms_b (ms_lf (ms_iload_n (k := 1) hx hb rfl (by decide +kernel : decode cX12_views 90 = .ok (.iload_n 1, 1))))
    (ms_lf (ms_iload hx hb (by decide +kernel : decode cX12_views 91 = .ok (.iload 6, 2)))))
    (ms_b (ms_lf (ms_iconst hx hb (by decide) (by decide +kernel : decode cX12_views 93 = .ok (.iconst 1, 1))))
    (ms_b (ms_lf (ms_ivV (C := RX12) (T := TX12) (N := 80) hx hb hml hown hts hgo hEX hf hK rfl (mm_GV hAW (mm_GI hAW gi_227) qw_1848 qw_1850 qw_89 qw_137) rfl ⟨rfl, hd_227⟩ (mm_rm hRf hRl (Nat.le_of_ble_eq_true rfl)) (by decide +kernel : decode cX12_views 94 = .ok (.invokevirtual 401, 3))))
    (ms_lf (ms_iast hx hb hf hA (by decide +kernel : decode cX12_views 97 = .ok (.iastore, 1)))))))
    (ms_b (ms_b (ms_lf (ms_aload_n (k := 0) hx hb rfl (by decide +kernel : decode cX12_views 98 = .ok (.aload_n 0, 1))))
    (ms_b (ms_lf (ms_getf (C := RX12) (T := TX12) (N := 80) hx hb hf hts (fun w h => hAW w (inq_12 w h)) hown hK rfl (by decide) (hts _ (hAW _ qw_1464)) rfl (by decide +kernel : decode cX12_views 99 = .ok (.getfield 116, 3))))
    (ms_lf (ms_iconst hx hb (by decide) (by decide +kernel : decode cX12_views 102 = .ok (.iconst 5, 1))))))
    (ms_b (ms_lf (ms_aload_n (k := 0) hx hb rfl (by decide +kernel : decode cX12_views 103 = .ok (.aload_n 0, 1))))
    (ms_b (ms_lf (ms_getf (C := RX12) (T := TX12) (N := 80) hx hb hf hts (fun w h => hAW w (inq_12 w h)) hown hK rfl (by decide) (hts _ (hAW _ qw_1472)) rfl (by decide +kernel : decode cX12_views 104 = .ok (.getfield 134, 3))))
    (ms_lf (ms_bipush hx hb (by decide) (by decide +kernel : decode cX12_views 107 = .ok (.bipush 46, 2)))))))))
    (ms_b (ms_b (ms_b (ms_b (ms_lf (ms_iload_n (k := 1) hx hb rfl (by decide +kernel : decode cX12_views 109 = .ok (.iload_n 1, 1))))
    (ms_lf (ms_iadd hx hb (by decide +kernel : decode cX12_views 110 = .ok (.iadd, 1)))))
    (ms_b (ms_lf (ms_iald hx hb hf hA hX (by decide +kernel : decode cX12_views 111 = .ok (.iaload, 1))))
    (ms_b (ms_lf (ms_iast hx hb hf hA (by decide +kernel : decode cX12_views 112 = .ok (.iastore, 1))))
    (ms_lf (ms_aload_n (k := 0) hx hb rfl (by decide +kernel : decode cX12_views 113 = .ok (.aload_n 0, 1)))))))
    (ms_b (ms_b (ms_lf (ms_getf (C := RX12) (T := TX12) (N := 80) hx hb hf hts (fun w h => hAW w (inq_12 w h)) hown hK rfl (by decide) (hts _ (hAW _ qw_1464)) rfl (by decide +kernel : decode cX12_views 114 = .ok (.getfield 116, 3))))
    (ms_b (ms_lf (ms_bipush hx hb (by decide) (by decide +kernel : decode cX12_views 117 = .ok (.bipush 6, 2))))
    (ms_lf (ms_aload_n (k := 0) hx hb rfl (by decide +kernel : decode cX12_views 119 = .ok (.aload_n 0, 1))))))
    (ms_b (ms_lf (ms_getf (C := RX12) (T := TX12) (N := 80) hx hb hf hts (fun w h => hAW w (inq_12 w h)) hown hK rfl (by decide) (hts _ (hAW _ qw_1472)) rfl (by decide +kernel : decode cX12_views 120 = .ok (.getfield 134, 3))))
    (ms_b (ms_lf (ms_bipush hx hb (by decide) (by decide +kernel : decode cX12_views 123 = .ok (.bipush 49, 2))))
    (ms_lf (ms_iald hx hb hf hA hX (by decide +kernel : decode cX12_views 125 = .ok (.iaload, 1))))))))
    (ms_b (ms_b (ms_b (ms_lf (ms_iast hx hb hf hA (by decide +kernel : decode cX12_views 126 = .ok (.iastore, 1))))
    (ms_b (ms_lf (ms_aload_n (k := 0) hx hb rfl (by decide +kernel : decode cX12_views 127 = .ok (.aload_n 0, 1))))
    (ms_lf (ms_getf (C := RX12) (T := TX12) (N := 80) hx hb hf hts (fun w h => hAW w (inq_12 w h)) hown hK rfl (by decide) (hts _ (hAW _ qw_1464)) rfl (by decide +kernel : decode cX12_views 128 = .ok (.getfield 116, 3))))))
    (ms_b (ms_lf (ms_bipush hx hb (by decide) (by decide +kernel : decode cX12_views 131 = .ok (.bipush 7, 2))))
    (ms_b (ms_lf (ms_iload_n (k := 1) hx hb rfl (by decide +kernel : decode cX12_views 133 = .ok (.iload_n 1, 1))))
    (ms_lf (ms_iast hx hb hf hA (by decide +kernel : decode cX12_views 134 = .ok (.iastore, 1)))))))
    (ms_b (ms_b (ms_lf (ms_aload_n (k := 0) hx hb rfl (by decide +kernel : decode cX12_views 135 = .ok (.aload_n 0, 1))))
    (ms_b (ms_lf (ms_getf (C := RX12) (T := TX12) (N := 80) hx hb hf hts (fun w h => hAW w (inq_12 w h)) hown hK rfl (by decide) (hts _ (hAW _ qw_1464)) rfl (by decide +kernel : decode cX12_views 136 = .ok (.getfield 116, 3))))
    (ms_lf (ms_bipush hx hb (by decide) (by decide +kernel : decode cX12_views 139 = .ok (.bipush 8, 2))))))
    (ms_b (ms_lf (ms_iload hx hb (by decide +kernel : decode cX12_views 141 = .ok (.iload 4, 2))))
    (ms_b (ms_lf (ms_iast hx hb hf hA (by decide +kernel : decode cX12_views 143 = .ok (.iastore, 1))))
    (ms_lf (ms_ret hx hb hr hlk (by decide +kernel : decode cX12_views 144 = .ok (.return_, 1)))))))))))
set_option maxRecDepth 100000 in
set_option maxHeartbeats 8000000 in
/-- TippedCratesModel.markAt -/
theorem sd_227 (l : Launch) (f : Nat → Nat) (D : va_G) (cA : FieldType → ClassId) (d : Nat) : mm_Ok2 l f D cA d (yX12_markAt, cX12_markAt, 4, (some .int), mc_227) := by
  intro p e R s m args below meth c C hRf hRl pc
  obtain ⟨hx, hb, hml, hr, hlk, hnm, hown, hts, hEX, hgo, hf⟩ := C
  obtain ⟨hK, hA, hX, hZs, hZc, hZq, hTx, hSR0, hSR1, hAO, hN⟩ := id hEX
  have hAW : ∀ w ∈ mm_AW, w ∈ (Cond.code yX12_markAt cX12_markAt 4 (some .int) :: mm_AW) := fun w h => List.mem_cons_of_mem _ h
  have hown : s.vm.findClass "TippedCratesModel" = some m.cls := hown
  show mm_S p l e R s m args below meth c f D mm_cl cA 4 _ pc (mc_227 pc)
  unfold mc_227
  exact (ms_b (ms_b (ms_b (ms_b (ms_lf (ms_aload_n (k := 0) hx hb rfl (by decide +kernel : decode cX12_markAt 0 = .ok (.aload_n 0, 1))))
    (ms_lf (ms_getf (C := RX12) (T := TX12) (N := 80) hx hb hf hts (fun w h => hAW w (inq_12 w h)) hown hK rfl (by decide) (hts _ (hAW _ qw_1472)) rfl (by decide +kernel : decode cX12_markAt 1 = .ok (.getfield 134, 3)))))
    (ms_b (ms_lf (ms_bipush hx hb (by decide) (by decide +kernel : decode cX12_markAt 4 = .ok (.bipush 25, 2))))
    (ms_lf (ms_bipush hx hb (by decide) (by decide +kernel : decode cX12_markAt 6 = .ok (.bipush 6, 2))))))
    (ms_b (ms_b (ms_lf (ms_iload_n (k := 1) hx hb rfl (by decide +kernel : decode cX12_markAt 8 = .ok (.iload_n 1, 1))))
    (ms_lf (ms_imul hx hb (by decide +kernel : decode cX12_markAt 9 = .ok (.imul, 1)))))
    (ms_b (ms_lf (ms_iadd hx hb (by decide +kernel : decode cX12_markAt 10 = .ok (.iadd, 1))))
    (ms_b (ms_lf (ms_aload_n (k := 0) hx hb rfl (by decide +kernel : decode cX12_markAt 11 = .ok (.aload_n 0, 1))))
    (ms_lf (ms_getf (C := RX12) (T := TX12) (N := 80) hx hb hf hts (fun w h => hAW w (inq_12 w h)) hown hK rfl (by decide) (hts _ (hAW _ qw_1467)) rfl (by decide +kernel : decode cX12_markAt 12 = .ok (.getfield 122, 3))))))))
    (ms_b (ms_b (ms_b (ms_lf (ms_bipush hx hb (by decide) (by decide +kernel : decode cX12_markAt 15 = .ok (.bipush 6, 2))))
    (ms_lf (ms_iload_n (k := 2) hx hb rfl (by decide +kernel : decode cX12_markAt 17 = .ok (.iload_n 2, 1)))))
    (ms_b (ms_lf (ms_imul hx hb (by decide +kernel : decode cX12_markAt 18 = .ok (.imul, 1))))
    (ms_lf (ms_iload_n (k := 3) hx hb rfl (by decide +kernel : decode cX12_markAt 19 = .ok (.iload_n 3, 1))))))
    (ms_b (ms_b (ms_lf (ms_iadd hx hb (by decide +kernel : decode cX12_markAt 20 = .ok (.iadd, 1))))
    (ms_lf (ms_iald hx hb hf hA hX (by decide +kernel : decode cX12_markAt 21 = .ok (.iaload, 1)))))
    (ms_b (ms_lf (ms_iadd hx hb (by decide +kernel : decode cX12_markAt 22 = .ok (.iadd, 1))))
    (ms_b (ms_lf (ms_iald hx hb hf hA hX (by decide +kernel : decode cX12_markAt 23 = .ok (.iaload, 1))))
    (ms_lf (ms_iret hx hb hr hlk (by decide +kernel : decode cX12_markAt 24 = .ok (.ireturn, 1)))))))))
set_option maxRecDepth 100000 in
set_option maxHeartbeats 8000000 in
/-- TippedCratesModel.costsAt -/
theorem sd_228 (l : Launch) (f : Nat → Nat) (D : va_G) (cA : FieldType → ClassId) (d : Nat) : mm_Ok2 l f D cA d (yX12_costsAt, cX12_costsAt, 5, (some .int), mc_228) := by
  intro p e R s m args below meth c C hRf hRl pc
  obtain ⟨hx, hb, hml, hr, hlk, hnm, hown, hts, hEX, hgo, hf⟩ := C
  obtain ⟨hK, hA, hX, hZs, hZc, hZq, hTx, hSR0, hSR1, hAO, hN⟩ := id hEX
  have hAW : ∀ w ∈ mm_AW, w ∈ (Cond.code yX12_costsAt cX12_costsAt 5 (some .int) :: mm_AW) := fun w h => List.mem_cons_of_mem _ h
  have hown : s.vm.findClass "TippedCratesModel" = some m.cls := hown
  show mm_S p l e R s m args below meth c f D mm_cl cA 5 _ pc (mc_228 pc)
  unfold mc_228
  exact (ms_b (ms_b (ms_b (ms_lf (ms_aload_n (k := 0) hx hb rfl (by decide +kernel : decode cX12_costsAt 0 = .ok (.aload_n 0, 1))))
    (ms_b (ms_lf (ms_iload_n (k := 1) hx hb rfl (by decide +kernel : decode cX12_costsAt 1 = .ok (.iload_n 1, 1))))
    (ms_lf (ms_iload_n (k := 2) hx hb rfl (by decide +kernel : decode cX12_costsAt 2 = .ok (.iload_n 2, 1))))))
    (ms_b (ms_b (ms_lf (ms_iload_n (k := 3) hx hb rfl (by decide +kernel : decode cX12_costsAt 3 = .ok (.iload_n 3, 1))))
    (ms_lf (ms_iload hx hb (by decide +kernel : decode cX12_costsAt 4 = .ok (.iload 4, 2)))))
    (ms_b (ms_lf (ms_ivV (C := RX12) (T := TX12) (N := 80) hx hb hml hown hts hgo hEX hf hK rfl (mm_GV hAW (mm_GI hAW gi_226) qw_1844 qw_1846 qw_88 qw_137) rfl ⟨rfl, hd_226⟩ (mm_rm hRf hRl (Nat.le_of_ble_eq_true rfl)) (by decide +kernel : decode cX12_costsAt 6 = .ok (.invokevirtual 404, 3))))
    (ms_lf (ms_aload_n (k := 0) hx hb rfl (by decide +kernel : decode cX12_costsAt 9 = .ok (.aload_n 0, 1)))))))
    (ms_b (ms_b (ms_lf (ms_iconst hx hb (by decide) (by decide +kernel : decode cX12_costsAt 10 = .ok (.iconst 2, 1))))
    (ms_b (ms_lf (ms_iconst hx hb (by decide) (by decide +kernel : decode cX12_costsAt 11 = .ok (.iconst 1, 1))))
    (ms_lf (ms_ivV (C := RX12) (T := TX12) (N := 80) hx hb hml hown hts hgo hEX hf hK rfl (mm_GV hAW (mm_GI hAW gi_225) qw_1852 qw_1854 qw_90 qw_137) rfl ⟨rfl, hd_225⟩ (mm_rm hRf hRl (Nat.le_of_ble_eq_true rfl)) (by decide +kernel : decode cX12_costsAt 12 = .ok (.invokevirtual 408, 3))))))
    (ms_b (ms_b (ms_lf (ms_iconst hx hb (by decide) (by decide +kernel : decode cX12_costsAt 15 = .ok (.iconst 0, 1))))
    (ms_lf (ms_bipush hx hb (by decide) (by decide +kernel : decode cX12_costsAt 16 = .ok (.bipush 99, 2)))))
    (ms_b (ms_lf (ms_ivS hx hb hml hown hts hgo hEX (mm_GS hAW (mm_GI hAW gi_207) qw_1860 qw_1861 qw_137) rfl hd_207 (mm_rm hRf hRl (Nat.le_of_ble_eq_true rfl)) (by decide +kernel : decode cX12_costsAt 18 = .ok (.invokestatic 411, 3))))
    (ms_lf (ms_iret hx hb hr hlk (by decide +kernel : decode cX12_costsAt 21 = .ok (.ireturn, 1))))))))
set_option maxRecDepth 100000 in
set_option maxHeartbeats 8000000 in
/-- TippedCratesModel.costsOf -/
theorem sd_229 (l : Launch) (f : Nat → Nat) (D : va_G) (cA : FieldType → ClassId) (d : Nat) : mm_Ok2 l f D cA d (yX12_costsOf, cX12_costsOf, 3, (some .int), mc_229) := by
  intro p e R s m args below meth c C hRf hRl pc
  obtain ⟨hx, hb, hml, hr, hlk, hnm, hown, hts, hEX, hgo, hf⟩ := C
  obtain ⟨hK, hA, hX, hZs, hZc, hZq, hTx, hSR0, hSR1, hAO, hN⟩ := id hEX
  have hAW : ∀ w ∈ mm_AW, w ∈ (Cond.code yX12_costsOf cX12_costsOf 3 (some .int) :: mm_AW) := fun w h => List.mem_cons_of_mem _ h
  have hown : s.vm.findClass "TippedCratesModel" = some m.cls := hown
  show mm_S p l e R s m args below meth c f D mm_cl cA 3 _ pc (mc_229 pc)
  unfold mc_229
  exact (ms_b (ms_b (ms_b (ms_lf (ms_aload_n (k := 0) hx hb rfl (by decide +kernel : decode cX12_costsOf 0 = .ok (.aload_n 0, 1))))
    (ms_b (ms_lf (ms_iload_n (k := 1) hx hb rfl (by decide +kernel : decode cX12_costsOf 1 = .ok (.iload_n 1, 1))))
    (ms_lf (ms_aload_n (k := 0) hx hb rfl (by decide +kernel : decode cX12_costsOf 2 = .ok (.aload_n 0, 1))))))
    (ms_b (ms_lf (ms_getf (C := RX12) (T := TX12) (N := 80) hx hb hf hts (fun w h => hAW w (inq_12 w h)) hown hK rfl (by decide) (hts _ (hAW _ qw_1472)) rfl (by decide +kernel : decode cX12_costsOf 3 = .ok (.getfield 134, 3))))
    (ms_b (ms_lf (ms_bipush hx hb (by decide) (by decide +kernel : decode cX12_costsOf 6 = .ok (.bipush 43, 2))))
    (ms_lf (ms_iload_n (k := 1) hx hb rfl (by decide +kernel : decode cX12_costsOf 8 = .ok (.iload_n 1, 1)))))))
    (ms_b (ms_b (ms_lf (ms_iadd hx hb (by decide +kernel : decode cX12_costsOf 9 = .ok (.iadd, 1))))
    (ms_b (ms_lf (ms_iald hx hb hf hA hX (by decide +kernel : decode cX12_costsOf 10 = .ok (.iaload, 1))))
    (ms_lf (ms_iconst hx hb (by decide) (by decide +kernel : decode cX12_costsOf 11 = .ok (.iconst 0, 1))))))
    (ms_b (ms_lf (ms_iload_n (k := 2) hx hb rfl (by decide +kernel : decode cX12_costsOf 12 = .ok (.iload_n 2, 1))))
    (ms_b (ms_lf (ms_ivV (C := RX12) (T := TX12) (N := 80) hx hb hml hown hts hgo hEX hf hK rfl (mm_GV hAW (mm_GI hAW gi_228) qw_1840 qw_1842 qw_87 qw_137) rfl ⟨rfl, hd_228⟩ (mm_rm hRf hRl (Nat.le_of_ble_eq_true rfl)) (by decide +kernel : decode cX12_costsOf 13 = .ok (.invokevirtual 414, 3))))
    (ms_lf (ms_iret hx hb hr hlk (by decide +kernel : decode cX12_costsOf 16 = .ok (.ireturn, 1))))))))
set_option maxRecDepth 100000 in
set_option maxHeartbeats 8000000 in
/-- TippedCratesModel.doesPrint -/
theorem sd_230 (l : Launch) (f : Nat → Nat) (D : va_G) (cA : FieldType → ClassId) (d : Nat) : mm_Ok2 l f D cA d (yX12_doesPrint, cX12_doesPrint, 3, (some .boolean), mc_230) := by
  intro p e R s m args below meth c C hRf hRl pc
  obtain ⟨hx, hb, hml, hr, hlk, hnm, hown, hts, hEX, hgo, hf⟩ := C
  obtain ⟨hK, hA, hX, hZs, hZc, hZq, hTx, hSR0, hSR1, hAO, hN⟩ := id hEX
  have hAW : ∀ w ∈ mm_AW, w ∈ (Cond.code yX12_doesPrint cX12_doesPrint 3 (some .boolean) :: mm_AW) := fun w h => List.mem_cons_of_mem _ h
  have hown : s.vm.findClass "TippedCratesModel" = some m.cls := hown
  show mm_S p l e R s m args below meth c f D mm_cl cA 3 _ pc (mc_230 pc)
  unfold mc_230
  exact (ms_b (ms_b (ms_b (ms_b (ms_lf (ms_aload_n (k := 0) hx hb rfl (by decide +kernel : decode cX12_doesPrint 0 = .ok (.aload_n 0, 1))))
    (ms_lf (ms_iload_n (k := 1) hx hb rfl (by decide +kernel : decode cX12_doesPrint 1 = .ok (.iload_n 1, 1)))))
    (ms_b (ms_lf (ms_aload_n (k := 0) hx hb rfl (by decide +kernel : decode cX12_doesPrint 2 = .ok (.aload_n 0, 1))))
    (ms_b (ms_lf (ms_getf (C := RX12) (T := TX12) (N := 80) hx hb hf hts (fun w h => hAW w (inq_12 w h)) hown hK rfl (by decide) (hts _ (hAW _ qw_1472)) rfl (by decide +kernel : decode cX12_doesPrint 3 = .ok (.getfield 134, 3))))
    (ms_lf (ms_bipush hx hb (by decide) (by decide +kernel : decode cX12_doesPrint 6 = .ok (.bipush 43, 2)))))))
    (ms_b (ms_b (ms_lf (ms_iload_n (k := 1) hx hb rfl (by decide +kernel : decode cX12_doesPrint 8 = .ok (.iload_n 1, 1))))
    (ms_lf (ms_iadd hx hb (by decide +kernel : decode cX12_doesPrint 9 = .ok (.iadd, 1)))))
    (ms_b (ms_lf (ms_iald hx hb hf hA hX (by decide +kernel : decode cX12_doesPrint 10 = .ok (.iaload, 1))))
    (ms_b (ms_lf (ms_iconst hx hb (by decide) (by decide +kernel : decode cX12_doesPrint 11 = .ok (.iconst 0, 1))))
    (ms_lf (ms_iload_n (k := 2) hx hb rfl (by decide +kernel : decode cX12_doesPrint 12 = .ok (.iload_n 2, 1))))))))
    (ms_b (ms_b (ms_b (ms_lf (ms_ivV (C := RX12) (T := TX12) (N := 80) hx hb hml hown hts hgo hEX hf hK rfl (mm_GV hAW (mm_GI hAW gi_226) qw_1844 qw_1846 qw_88 qw_137) rfl ⟨rfl, hd_226⟩ (mm_rm hRf hRl (Nat.le_of_ble_eq_true rfl)) (by decide +kernel : decode cX12_doesPrint 13 = .ok (.invokevirtual 404, 3))))
    (ms_lf (ms_aload_n (k := 0) hx hb rfl (by decide +kernel : decode cX12_doesPrint 16 = .ok (.aload_n 0, 1)))))
    (ms_b (ms_lf (ms_iconst hx hb (by decide) (by decide +kernel : decode cX12_doesPrint 17 = .ok (.iconst 0, 1))))
    (ms_b (ms_lf (ms_iconst hx hb (by decide) (by decide +kernel : decode cX12_doesPrint 18 = .ok (.iconst 1, 1))))
    (ms_lf (ms_ivV (C := RX12) (T := TX12) (N := 80) hx hb hml hown hts hgo hEX hf hK rfl (mm_GV hAW (mm_GI hAW gi_225) qw_1852 qw_1854 qw_90 qw_137) rfl ⟨rfl, hd_225⟩ (mm_rm hRf hRl (Nat.le_of_ble_eq_true rfl)) (by decide +kernel : decode cX12_doesPrint 19 = .ok (.invokevirtual 408, 3)))))))
    (ms_b (ms_b (ms_lf (ms_if_le hx hb (by decide) (by decide +kernel : decode cX12_doesPrint 22 = .ok (.ifCond .le 7, 3))))
    (ms_lf (ms_iconst hx hb (by decide) (by decide +kernel : decode cX12_doesPrint 25 = .ok (.iconst 1, 1)))))
    (ms_b (ms_lf (ms_goto hx hb (by decide) (by decide +kernel : decode cX12_doesPrint 26 = .ok (.goto 4, 3))))
    (ms_b (ms_lf (ms_iconst hx hb (by decide) (by decide +kernel : decode cX12_doesPrint 29 = .ok (.iconst 0, 1))))
    (ms_lf (ms_iret hx hb hr hlk (by decide +kernel : decode cX12_doesPrint 30 = .ok (.ireturn, 1)))))))))
set_option maxRecDepth 100000 in
set_option maxHeartbeats 8000000 in
/-- TippedCratesModel.doesTake -/
theorem sd_231 (l : Launch) (f : Nat → Nat) (D : va_G) (cA : FieldType → ClassId) (d : Nat) : mm_Ok2 l f D cA d (yX12_doesTake, cX12_doesTake, 3, (some .boolean), mc_231) := by
  intro p e R s m args below meth c C hRf hRl pc
  obtain ⟨hx, hb, hml, hr, hlk, hnm, hown, hts, hEX, hgo, hf⟩ := C
  obtain ⟨hK, hA, hX, hZs, hZc, hZq, hTx, hSR0, hSR1, hAO, hN⟩ := id hEX
  have hAW : ∀ w ∈ mm_AW, w ∈ (Cond.code yX12_doesTake cX12_doesTake 3 (some .boolean) :: mm_AW) := fun w h => List.mem_cons_of_mem _ h
  have hown : s.vm.findClass "TippedCratesModel" = some m.cls := hown
  show mm_S p l e R s m args below meth c f D mm_cl cA 3 _ pc (mc_231 pc)
  unfold mc_231
  exact (ms_b (ms_b (ms_b (ms_b (ms_lf (ms_aload_n (k := 0) hx hb rfl (by decide +kernel : decode cX12_doesTake 0 = .ok (.aload_n 0, 1))))
    (ms_lf (ms_iload_n (k := 1) hx hb rfl (by decide +kernel : decode cX12_doesTake 1 = .ok (.iload_n 1, 1)))))
    (ms_b (ms_lf (ms_aload_n (k := 0) hx hb rfl (by decide +kernel : decode cX12_doesTake 2 = .ok (.aload_n 0, 1))))
    (ms_b (ms_lf (ms_getf (C := RX12) (T := TX12) (N := 80) hx hb hf hts (fun w h => hAW w (inq_12 w h)) hown hK rfl (by decide) (hts _ (hAW _ qw_1472)) rfl (by decide +kernel : decode cX12_doesTake 3 = .ok (.getfield 134, 3))))
    (ms_lf (ms_bipush hx hb (by decide) (by decide +kernel : decode cX12_doesTake 6 = .ok (.bipush 43, 2)))))))
    (ms_b (ms_b (ms_lf (ms_iload_n (k := 1) hx hb rfl (by decide +kernel : decode cX12_doesTake 8 = .ok (.iload_n 1, 1))))
    (ms_lf (ms_iadd hx hb (by decide +kernel : decode cX12_doesTake 9 = .ok (.iadd, 1)))))
    (ms_b (ms_lf (ms_iald hx hb hf hA hX (by decide +kernel : decode cX12_doesTake 10 = .ok (.iaload, 1))))
    (ms_b (ms_lf (ms_iconst hx hb (by decide) (by decide +kernel : decode cX12_doesTake 11 = .ok (.iconst 0, 1))))
    (ms_lf (ms_iload_n (k := 2) hx hb rfl (by decide +kernel : decode cX12_doesTake 12 = .ok (.iload_n 2, 1))))))))
    (ms_b (ms_b (ms_b (ms_lf (ms_ivV (C := RX12) (T := TX12) (N := 80) hx hb hml hown hts hgo hEX hf hK rfl (mm_GV hAW (mm_GI hAW gi_226) qw_1844 qw_1846 qw_88 qw_137) rfl ⟨rfl, hd_226⟩ (mm_rm hRf hRl (Nat.le_of_ble_eq_true rfl)) (by decide +kernel : decode cX12_doesTake 13 = .ok (.invokevirtual 404, 3))))
    (ms_lf (ms_aload_n (k := 0) hx hb rfl (by decide +kernel : decode cX12_doesTake 16 = .ok (.aload_n 0, 1)))))
    (ms_b (ms_lf (ms_iconst hx hb (by decide) (by decide +kernel : decode cX12_doesTake 17 = .ok (.iconst 1, 1))))
    (ms_b (ms_lf (ms_iconst hx hb (by decide) (by decide +kernel : decode cX12_doesTake 18 = .ok (.iconst 0, 1))))
    (ms_lf (ms_ivV (C := RX12) (T := TX12) (N := 80) hx hb hml hown hts hgo hEX hf hK rfl (mm_GV hAW (mm_GI hAW gi_225) qw_1852 qw_1854 qw_90 qw_137) rfl ⟨rfl, hd_225⟩ (mm_rm hRf hRl (Nat.le_of_ble_eq_true rfl)) (by decide +kernel : decode cX12_doesTake 19 = .ok (.invokevirtual 408, 3)))))))
    (ms_b (ms_b (ms_lf (ms_if_le hx hb (by decide) (by decide +kernel : decode cX12_doesTake 22 = .ok (.ifCond .le 7, 3))))
    (ms_lf (ms_iconst hx hb (by decide) (by decide +kernel : decode cX12_doesTake 25 = .ok (.iconst 1, 1)))))
    (ms_b (ms_lf (ms_goto hx hb (by decide) (by decide +kernel : decode cX12_doesTake 26 = .ok (.goto 4, 3))))
    (ms_b (ms_lf (ms_iconst hx hb (by decide) (by decide +kernel : decode cX12_doesTake 29 = .ok (.iconst 0, 1))))
    (ms_lf (ms_iret hx hb hr hlk (by decide +kernel : decode cX12_doesTake 30 = .ok (.ireturn, 1)))))))))
set_option maxRecDepth 100000 in
set_option maxHeartbeats 8000000 in
/-- TippedCratesModel.slipsOf -/
theorem sd_232 (l : Launch) (f : Nat → Nat) (D : va_G) (cA : FieldType → ClassId) (d : Nat) : mm_Ok2 l f D cA d (yX12_slipsOf, cX12_slipsOf, 3, (some .int), mc_232) := by
  intro p e R s m args below meth c C hRf hRl pc
  obtain ⟨hx, hb, hml, hr, hlk, hnm, hown, hts, hEX, hgo, hf⟩ := C
  obtain ⟨hK, hA, hX, hZs, hZc, hZq, hTx, hSR0, hSR1, hAO, hN⟩ := id hEX
  have hAW : ∀ w ∈ mm_AW, w ∈ (Cond.code yX12_slipsOf cX12_slipsOf 3 (some .int) :: mm_AW) := fun w h => List.mem_cons_of_mem _ h
  have hown : s.vm.findClass "TippedCratesModel" = some m.cls := hown
  show mm_S p l e R s m args below meth c f D mm_cl cA 3 _ pc (mc_232 pc)
  unfold mc_232
  exact (ms_b (ms_b (ms_b (ms_b (ms_lf (ms_aload_n (k := 0) hx hb rfl (by decide +kernel : decode cX12_slipsOf 0 = .ok (.aload_n 0, 1))))
    (ms_lf (ms_iload_n (k := 1) hx hb rfl (by decide +kernel : decode cX12_slipsOf 1 = .ok (.iload_n 1, 1)))))
    (ms_b (ms_lf (ms_aload_n (k := 0) hx hb rfl (by decide +kernel : decode cX12_slipsOf 2 = .ok (.aload_n 0, 1))))
    (ms_lf (ms_getf (C := RX12) (T := TX12) (N := 80) hx hb hf hts (fun w h => hAW w (inq_12 w h)) hown hK rfl (by decide) (hts _ (hAW _ qw_1472)) rfl (by decide +kernel : decode cX12_slipsOf 3 = .ok (.getfield 134, 3))))))
    (ms_b (ms_b (ms_lf (ms_bipush hx hb (by decide) (by decide +kernel : decode cX12_slipsOf 6 = .ok (.bipush 43, 2))))
    (ms_lf (ms_iload_n (k := 1) hx hb rfl (by decide +kernel : decode cX12_slipsOf 8 = .ok (.iload_n 1, 1)))))
    (ms_b (ms_lf (ms_iadd hx hb (by decide +kernel : decode cX12_slipsOf 9 = .ok (.iadd, 1))))
    (ms_b (ms_lf (ms_iald hx hb hf hA hX (by decide +kernel : decode cX12_slipsOf 10 = .ok (.iaload, 1))))
    (ms_lf (ms_iconst hx hb (by decide) (by decide +kernel : decode cX12_slipsOf 11 = .ok (.iconst 0, 1))))))))
    (ms_b (ms_b (ms_b (ms_lf (ms_iload_n (k := 2) hx hb rfl (by decide +kernel : decode cX12_slipsOf 12 = .ok (.iload_n 2, 1))))
    (ms_lf (ms_ivV (C := RX12) (T := TX12) (N := 80) hx hb hml hown hts hgo hEX hf hK rfl (mm_GV hAW (mm_GI hAW gi_226) qw_1844 qw_1846 qw_88 qw_137) rfl ⟨rfl, hd_226⟩ (mm_rm hRf hRl (Nat.le_of_ble_eq_true rfl)) (by decide +kernel : decode cX12_slipsOf 13 = .ok (.invokevirtual 404, 3)))))
    (ms_b (ms_lf (ms_aload_n (k := 0) hx hb rfl (by decide +kernel : decode cX12_slipsOf 16 = .ok (.aload_n 0, 1))))
    (ms_b (ms_lf (ms_iconst hx hb (by decide) (by decide +kernel : decode cX12_slipsOf 17 = .ok (.iconst 3, 1))))
    (ms_lf (ms_iconst hx hb (by decide) (by decide +kernel : decode cX12_slipsOf 18 = .ok (.iconst 0, 1)))))))
    (ms_b (ms_b (ms_lf (ms_ivV (C := RX12) (T := TX12) (N := 80) hx hb hml hown hts hgo hEX hf hK rfl (mm_GV hAW (mm_GI hAW gi_225) qw_1852 qw_1854 qw_90 qw_137) rfl ⟨rfl, hd_225⟩ (mm_rm hRf hRl (Nat.le_of_ble_eq_true rfl)) (by decide +kernel : decode cX12_slipsOf 19 = .ok (.invokevirtual 408, 3))))
    (ms_lf (ms_iconst hx hb (by decide) (by decide +kernel : decode cX12_slipsOf 22 = .ok (.iconst 0, 1)))))
    (ms_b (ms_lf (ms_bipush hx hb (by decide) (by decide +kernel : decode cX12_slipsOf 23 = .ok (.bipush 100, 2))))
    (ms_b (ms_lf (ms_ivS hx hb hml hown hts hgo hEX (mm_GS hAW (mm_GI hAW gi_207) qw_1860 qw_1861 qw_137) rfl hd_207 (mm_rm hRf hRl (Nat.le_of_ble_eq_true rfl)) (by decide +kernel : decode cX12_slipsOf 25 = .ok (.invokestatic 411, 3))))
    (ms_lf (ms_iret hx hb hr hlk (by decide +kernel : decode cX12_slipsOf 28 = .ok (.ireturn, 1)))))))))
set_option maxRecDepth 100000 in
set_option maxHeartbeats 8000000 in
/-- TippedCratesModel.tips -/
theorem sd_233 (l : Launch) (f : Nat → Nat) (D : va_G) (cA : FieldType → ClassId) (d : Nat) : mm_Ok2 l f D cA d (yX12_tips, cX12_tips, 7, none, mc_233) := by
  intro p e R s m args below meth c C hRf hRl pc
  obtain ⟨hx, hb, hml, hr, hlk, hnm, hown, hts, hEX, hgo, hf⟩ := C
  obtain ⟨hK, hA, hX, hZs, hZc, hZq, hTx, hSR0, hSR1, hAO, hN⟩ := id hEX
  have hAW : ∀ w ∈ mm_AW, w ∈ (Cond.code yX12_tips cX12_tips 7 none :: mm_AW) := fun w h => List.mem_cons_of_mem _ h
  have hown : s.vm.findClass "TippedCratesModel" = some m.cls := hown
  show mm_S p l e R s m args below meth c f D mm_cl cA 7 _ pc (mc_233 pc)
  unfold mc_233
  exact (ms_b (ms_b (ms_b (ms_b (ms_b (ms_b (ms_lf (ms_aload_n (k := 0) hx hb rfl (by decide +kernel : decode cX12_tips 0 = .ok (.aload_n 0, 1))))
    (ms_b (ms_lf (ms_iload_n (k := 1) hx hb rfl (by decide +kernel : decode cX12_tips 1 = .ok (.iload_n 1, 1))))
    (ms_lf (ms_iload_n (k := 2) hx hb rfl (by decide +kernel : decode cX12_tips 2 = .ok (.iload_n 2, 1))))))
    (ms_b (ms_b (ms_lf (ms_ivV (C := RX12) (T := TX12) (N := 80) hx hb hml hown hts hgo hEX hf hK rfl (mm_GV hAW (mm_GI hAW gi_229) qw_1836 qw_1838 qw_86 qw_137) rfl ⟨rfl, hd_229⟩ (mm_rm hRf hRl (Nat.le_of_ble_eq_true rfl)) (by decide +kernel : decode cX12_tips 3 = .ok (.invokevirtual 418, 3))))
    (ms_lf (ms_istore_n (k := 3) hx hb rfl (by decide : 3 < 7) (by decide +kernel : decode cX12_tips 6 = .ok (.istore_n 3, 1)))))
    (ms_b (ms_lf (ms_aload_n (k := 0) hx hb rfl (by decide +kernel : decode cX12_tips 7 = .ok (.aload_n 0, 1))))
    (ms_lf (ms_iload_n (k := 1) hx hb rfl (by decide +kernel : decode cX12_tips 8 = .ok (.iload_n 1, 1)))))))
    (ms_b (ms_b (ms_b (ms_lf (ms_iload_n (k := 2) hx hb rfl (by decide +kernel : decode cX12_tips 9 = .ok (.iload_n 2, 1))))
    (ms_lf (ms_ivV (C := RX12) (T := TX12) (N := 80) hx hb hml hown hts hgo hEX hf hK rfl (mm_GV hAW (mm_GI hAW gi_230) qw_1863 qw_1865 qw_92 qw_137) rfl ⟨rfl, hd_230⟩ (mm_rm hRf hRl (Nat.le_of_ble_eq_true rfl)) (by decide +kernel : decode cX12_tips 10 = .ok (.invokevirtual 421, 3)))))
    (ms_b (ms_lf (ms_istore hx hb (by decide : 4 < 7) (by decide +kernel : decode cX12_tips 13 = .ok (.istore 4, 2))))
    (ms_lf (ms_aload_n (k := 0) hx hb rfl (by decide +kernel : decode cX12_tips 15 = .ok (.aload_n 0, 1))))))
    (ms_b (ms_b (ms_lf (ms_iload_n (k := 1) hx hb rfl (by decide +kernel : decode cX12_tips 16 = .ok (.iload_n 1, 1))))
    (ms_lf (ms_iload_n (k := 2) hx hb rfl (by decide +kernel : decode cX12_tips 17 = .ok (.iload_n 2, 1)))))
    (ms_b (ms_lf (ms_ivV (C := RX12) (T := TX12) (N := 80) hx hb hml hown hts hgo hEX hf hK rfl (mm_GV hAW (mm_GI hAW gi_231) qw_1867 qw_1869 qw_93 qw_137) rfl ⟨rfl, hd_231⟩ (mm_rm hRf hRl (Nat.le_of_ble_eq_true rfl)) (by decide +kernel : decode cX12_tips 18 = .ok (.invokevirtual 424, 3))))
    (ms_lf (ms_istore hx hb (by decide : 5 < 7) (by decide +kernel : decode cX12_tips 21 = .ok (.istore 5, 2))))))))
    (ms_b (ms_b (ms_b (ms_b (ms_lf (ms_iconst hx hb (by decide) (by decide +kernel : decode cX12_tips 23 = .ok (.iconst 0, 1))))
    (ms_lf (ms_istore hx hb (by decide : 6 < 7) (by decide +kernel : decode cX12_tips 24 = .ok (.istore 6, 2)))))
    (ms_b (ms_lf (ms_iload hx hb (by decide +kernel : decode cX12_tips 26 = .ok (.iload 6, 2))))
    (ms_lf (ms_bipush hx hb (by decide) (by decide +kernel : decode cX12_tips 28 = .ok (.bipush 6, 2))))))
    (ms_b (ms_b (ms_lf (ms_ic_ge hx hb (by decide) (by decide +kernel : decode cX12_tips 30 = .ok (.if_icmp .ge 35, 3))))
    (ms_lf (ms_aload_n (k := 0) hx hb rfl (by decide +kernel : decode cX12_tips 33 = .ok (.aload_n 0, 1)))))
    (ms_b (ms_lf (ms_getf (C := RX12) (T := TX12) (N := 80) hx hb hf hts (fun w h => hAW w (inq_12 w h)) hown hK rfl (by decide) (hts _ (hAW _ qw_1469)) rfl (by decide +kernel : decode cX12_tips 34 = .ok (.getfield 128, 3))))
    (ms_lf (ms_iload hx hb (by decide +kernel : decode cX12_tips 37 = .ok (.iload 6, 2)))))))
    (ms_b (ms_b (ms_b (ms_lf (ms_aload_n (k := 0) hx hb rfl (by decide +kernel : decode cX12_tips 39 = .ok (.aload_n 0, 1))))
    (ms_lf (ms_getf (C := RX12) (T := TX12) (N := 80) hx hb hf hts (fun w h => hAW w (inq_12 w h)) hown hK rfl (by decide) (hts _ (hAW _ qw_1472)) rfl (by decide +kernel : decode cX12_tips 40 = .ok (.getfield 134, 3)))))
    (ms_b (ms_lf (ms_bipush hx hb (by decide) (by decide +kernel : decode cX12_tips 43 = .ok (.bipush 25, 2))))
    (ms_lf (ms_bipush hx hb (by decide) (by decide +kernel : decode cX12_tips 45 = .ok (.bipush 6, 2))))))
    (ms_b (ms_b (ms_lf (ms_iload_n (k := 1) hx hb rfl (by decide +kernel : decode cX12_tips 47 = .ok (.iload_n 1, 1))))
    (ms_lf (ms_imul hx hb (by decide +kernel : decode cX12_tips 48 = .ok (.imul, 1)))))
    (ms_b (ms_lf (ms_iadd hx hb (by decide +kernel : decode cX12_tips 49 = .ok (.iadd, 1))))
    (ms_lf (ms_iload_n (k := 2) hx hb rfl (by decide +kernel : decode cX12_tips 50 = .ok (.iload_n 2, 1)))))))))
    (ms_b (ms_b (ms_b (ms_b (ms_lf (ms_iload hx hb (by decide +kernel : decode cX12_tips 51 = .ok (.iload 6, 2))))
    (ms_b (ms_lf (ms_ivS hx hb hml hown hts hgo hEX (mm_GS hAW (mm_GI hAW gi_202) qw_1405 qw_1406 qw_137) rfl hd_202 (mm_rm hRf hRl (Nat.le_of_ble_eq_true rfl)) (by decide +kernel : decode cX12_tips 53 = .ok (.invokestatic 360, 3))))
    (ms_lf (ms_iadd hx hb (by decide +kernel : decode cX12_tips 56 = .ok (.iadd, 1))))))
    (ms_b (ms_b (ms_lf (ms_iald hx hb hf hA hX (by decide +kernel : decode cX12_tips 57 = .ok (.iaload, 1))))
    (ms_lf (ms_iast hx hb hf hA (by decide +kernel : decode cX12_tips 58 = .ok (.iastore, 1)))))
    (ms_b (ms_lf (ms_iinc hx hb (by decide) (by decide : 6 < 7) (by decide +kernel : decode cX12_tips 59 = .ok (.iinc 6 1, 3))))
    (ms_lf (ms_goto hx hb (by decide) (by decide +kernel : decode cX12_tips 62 = .ok (.goto (-36), 3)))))))
    (ms_b (ms_b (ms_b (ms_lf (ms_iconst hx hb (by decide) (by decide +kernel : decode cX12_tips 65 = .ok (.iconst 0, 1))))
    (ms_lf (ms_istore hx hb (by decide : 6 < 7) (by decide +kernel : decode cX12_tips 66 = .ok (.istore 6, 2)))))
    (ms_b (ms_lf (ms_iload hx hb (by decide +kernel : decode cX12_tips 68 = .ok (.iload 6, 2))))
    (ms_lf (ms_bipush hx hb (by decide) (by decide +kernel : decode cX12_tips 70 = .ok (.bipush 6, 2))))))
    (ms_b (ms_b (ms_lf (ms_ic_ge hx hb (by decide) (by decide +kernel : decode cX12_tips 72 = .ok (.if_icmp .ge 31, 3))))
    (ms_lf (ms_aload_n (k := 0) hx hb rfl (by decide +kernel : decode cX12_tips 75 = .ok (.aload_n 0, 1)))))
    (ms_b (ms_lf (ms_getf (C := RX12) (T := TX12) (N := 80) hx hb hf hts (fun w h => hAW w (inq_12 w h)) hown hK rfl (by decide) (hts _ (hAW _ qw_1472)) rfl (by decide +kernel : decode cX12_tips 76 = .ok (.getfield 134, 3))))
    (ms_lf (ms_bipush hx hb (by decide) (by decide +kernel : decode cX12_tips 79 = .ok (.bipush 25, 2))))))))
    (ms_b (ms_b (ms_b (ms_b (ms_lf (ms_bipush hx hb (by decide) (by decide +kernel : decode cX12_tips 81 = .ok (.bipush 6, 2))))
    (ms_lf (ms_iload_n (k := 1) hx hb rfl (by decide +kernel : decode cX12_tips 83 = .ok (.iload_n 1, 1)))))
    (ms_b (ms_lf (ms_imul hx hb (by decide +kernel : decode cX12_tips 84 = .ok (.imul, 1))))
    (ms_lf (ms_iadd hx hb (by decide +kernel : decode cX12_tips 85 = .ok (.iadd, 1))))))
    (ms_b (ms_b (ms_lf (ms_iload hx hb (by decide +kernel : decode cX12_tips 86 = .ok (.iload 6, 2))))
    (ms_lf (ms_iadd hx hb (by decide +kernel : decode cX12_tips 88 = .ok (.iadd, 1)))))
    (ms_b (ms_lf (ms_aload_n (k := 0) hx hb rfl (by decide +kernel : decode cX12_tips 89 = .ok (.aload_n 0, 1))))
    (ms_lf (ms_getf (C := RX12) (T := TX12) (N := 80) hx hb hf hts (fun w h => hAW w (inq_12 w h)) hown hK rfl (by decide) (hts _ (hAW _ qw_1469)) rfl (by decide +kernel : decode cX12_tips 90 = .ok (.getfield 128, 3)))))))
    (ms_b (ms_b (ms_b (ms_lf (ms_iload hx hb (by decide +kernel : decode cX12_tips 93 = .ok (.iload 6, 2))))
    (ms_lf (ms_iald hx hb hf hA hX (by decide +kernel : decode cX12_tips 95 = .ok (.iaload, 1)))))
    (ms_b (ms_lf (ms_iast hx hb hf hA (by decide +kernel : decode cX12_tips 96 = .ok (.iastore, 1))))
    (ms_lf (ms_iinc hx hb (by decide) (by decide : 6 < 7) (by decide +kernel : decode cX12_tips 97 = .ok (.iinc 6 1, 3))))))
    (ms_b (ms_b (ms_lf (ms_goto hx hb (by decide) (by decide +kernel : decode cX12_tips 100 = .ok (.goto (-32), 3))))
    (ms_lf (ms_aload_n (k := 0) hx hb rfl (by decide +kernel : decode cX12_tips 103 = .ok (.aload_n 0, 1)))))
    (ms_b (ms_lf (ms_aload_n (k := 0) hx hb rfl (by decide +kernel : decode cX12_tips 104 = .ok (.aload_n 0, 1))))
    (ms_lf (ms_getf (C := RX12) (T := TX12) (N := 80) hx hb hf hts (fun w h => hAW w (inq_12 w h)) hown hK rfl (by decide) (hts _ (hAW _ qw_1472)) rfl (by decide +kernel : decode cX12_tips 105 = .ok (.getfield 134, 3))))))))))
    (ms_b (ms_b (ms_b (ms_b (ms_b (ms_lf (ms_bipush hx hb (by decide) (by decide +kernel : decode cX12_tips 108 = .ok (.bipush 43, 2))))
    (ms_b (ms_lf (ms_iload_n (k := 1) hx hb rfl (by decide +kernel : decode cX12_tips 110 = .ok (.iload_n 1, 1))))
    (ms_lf (ms_iadd hx hb (by decide +kernel : decode cX12_tips 111 = .ok (.iadd, 1))))))
    (ms_b (ms_b (ms_lf (ms_iald hx hb hf hA hX (by decide +kernel : decode cX12_tips 112 = .ok (.iaload, 1))))
    (ms_lf (ms_iload_n (k := 2) hx hb rfl (by decide +kernel : decode cX12_tips 113 = .ok (.iload_n 2, 1)))))
    (ms_b (ms_lf (ms_ivV (C := RX12) (T := TX12) (N := 80) hx hb hml hown hts hgo hEX hf hK rfl (mm_GV hAW (mm_GI hAW gi_221) qw_1820 qw_1822 qw_82 qw_137) rfl ⟨rfl, hd_221⟩ (mm_rm hRf hRl (Nat.le_of_ble_eq_true rfl)) (by decide +kernel : decode cX12_tips 114 = .ok (.invokevirtual 386, 3))))
    (ms_lf (ms_istore hx hb (by decide : 6 < 7) (by decide +kernel : decode cX12_tips 117 = .ok (.istore 6, 2)))))))
    (ms_b (ms_b (ms_b (ms_lf (ms_aload_n (k := 0) hx hb rfl (by decide +kernel : decode cX12_tips 119 = .ok (.aload_n 0, 1))))
    (ms_lf (ms_getf (C := RX12) (T := TX12) (N := 80) hx hb hf hts (fun w h => hAW w (inq_12 w h)) hown hK rfl (by decide) (hts _ (hAW _ qw_1472)) rfl (by decide +kernel : decode cX12_tips 120 = .ok (.getfield 134, 3)))))
    (ms_b (ms_lf (ms_bipush hx hb (by decide) (by decide +kernel : decode cX12_tips 123 = .ok (.bipush 43, 2))))
    (ms_lf (ms_iload_n (k := 1) hx hb rfl (by decide +kernel : decode cX12_tips 125 = .ok (.iload_n 1, 1))))))
    (ms_b (ms_b (ms_lf (ms_iadd hx hb (by decide +kernel : decode cX12_tips 126 = .ok (.iadd, 1))))
    (ms_lf (ms_iload hx hb (by decide +kernel : decode cX12_tips 127 = .ok (.iload 6, 2)))))
    (ms_b (ms_lf (ms_iast hx hb hf hA (by decide +kernel : decode cX12_tips 129 = .ok (.iastore, 1))))
    (ms_lf (ms_aload_n (k := 0) hx hb rfl (by decide +kernel : decode cX12_tips 130 = .ok (.aload_n 0, 1))))))))
    (ms_b (ms_b (ms_b (ms_b (ms_lf (ms_getf (C := RX12) (T := TX12) (N := 80) hx hb hf hts (fun w h => hAW w (inq_12 w h)) hown hK rfl (by decide) (hts _ (hAW _ qw_1472)) rfl (by decide +kernel : decode cX12_tips 131 = .ok (.getfield 134, 3))))
    (ms_lf (ms_bipush hx hb (by decide) (by decide +kernel : decode cX12_tips 134 = .ok (.bipush 46, 2)))))
    (ms_b (ms_lf (ms_iload_n (k := 1) hx hb rfl (by decide +kernel : decode cX12_tips 136 = .ok (.iload_n 1, 1))))
    (ms_lf (ms_iadd hx hb (by decide +kernel : decode cX12_tips 137 = .ok (.iadd, 1))))))
    (ms_b (ms_b (ms_lf (ms_dup2 hx hb (by decide +kernel : decode cX12_tips 138 = .ok (.dup2, 1))))
    (ms_lf (ms_iald hx hb hf hA hX (by decide +kernel : decode cX12_tips 139 = .ok (.iaload, 1)))))
    (ms_b (ms_lf (ms_iconst hx hb (by decide) (by decide +kernel : decode cX12_tips 140 = .ok (.iconst 1, 1))))
    (ms_lf (ms_iadd hx hb (by decide +kernel : decode cX12_tips 141 = .ok (.iadd, 1)))))))
    (ms_b (ms_b (ms_b (ms_lf (ms_iast hx hb hf hA (by decide +kernel : decode cX12_tips 142 = .ok (.iastore, 1))))
    (ms_lf (ms_aload_n (k := 0) hx hb rfl (by decide +kernel : decode cX12_tips 143 = .ok (.aload_n 0, 1)))))
    (ms_b (ms_lf (ms_getf (C := RX12) (T := TX12) (N := 80) hx hb hf hts (fun w h => hAW w (inq_12 w h)) hown hK rfl (by decide) (hts _ (hAW _ qw_1472)) rfl (by decide +kernel : decode cX12_tips 144 = .ok (.getfield 134, 3))))
    (ms_lf (ms_bipush hx hb (by decide) (by decide +kernel : decode cX12_tips 147 = .ok (.bipush 50, 2))))))
    (ms_b (ms_b (ms_lf (ms_dup2 hx hb (by decide +kernel : decode cX12_tips 149 = .ok (.dup2, 1))))
    (ms_lf (ms_iald hx hb hf hA hX (by decide +kernel : decode cX12_tips 150 = .ok (.iaload, 1)))))
    (ms_b (ms_lf (ms_iload_n (k := 3) hx hb rfl (by decide +kernel : decode cX12_tips 151 = .ok (.iload_n 3, 1))))
    (ms_lf (ms_iadd hx hb (by decide +kernel : decode cX12_tips 152 = .ok (.iadd, 1)))))))))
    (ms_b (ms_b (ms_b (ms_b (ms_lf (ms_iast hx hb hf hA (by decide +kernel : decode cX12_tips 153 = .ok (.iastore, 1))))
    (ms_b (ms_lf (ms_iload hx hb (by decide +kernel : decode cX12_tips 154 = .ok (.iload 4, 2))))
    (ms_lf (ms_if_eq hx hb (by decide) (by decide +kernel : decode cX12_tips 156 = .ok (.ifCond .eq 25, 3))))))
    (ms_b (ms_b (ms_lf (ms_aload_n (k := 0) hx hb rfl (by decide +kernel : decode cX12_tips 159 = .ok (.aload_n 0, 1))))
    (ms_lf (ms_getf (C := RX12) (T := TX12) (N := 80) hx hb hf hts (fun w h => hAW w (inq_12 w h)) hown hK rfl (by decide) (hts _ (hAW _ qw_1472)) rfl (by decide +kernel : decode cX12_tips 160 = .ok (.getfield 134, 3)))))
    (ms_b (ms_lf (ms_iload hx hb (by decide +kernel : decode cX12_tips 163 = .ok (.iload 6, 2))))
    (ms_lf (ms_aload_n (k := 0) hx hb rfl (by decide +kernel : decode cX12_tips 165 = .ok (.aload_n 0, 1)))))))
    (ms_b (ms_b (ms_b (ms_lf (ms_getf (C := RX12) (T := TX12) (N := 80) hx hb hf hts (fun w h => hAW w (inq_12 w h)) hown hK rfl (by decide) (hts _ (hAW _ qw_1472)) rfl (by decide +kernel : decode cX12_tips 166 = .ok (.getfield 134, 3))))
    (ms_lf (ms_bipush hx hb (by decide) (by decide +kernel : decode cX12_tips 169 = .ok (.bipush 26, 2)))))
    (ms_b (ms_lf (ms_bipush hx hb (by decide) (by decide +kernel : decode cX12_tips 171 = .ok (.bipush 6, 2))))
    (ms_lf (ms_iload_n (k := 1) hx hb rfl (by decide +kernel : decode cX12_tips 173 = .ok (.iload_n 1, 1))))))
    (ms_b (ms_b (ms_lf (ms_imul hx hb (by decide +kernel : decode cX12_tips 174 = .ok (.imul, 1))))
    (ms_lf (ms_iadd hx hb (by decide +kernel : decode cX12_tips 175 = .ok (.iadd, 1)))))
    (ms_b (ms_lf (ms_iald hx hb hf hA hX (by decide +kernel : decode cX12_tips 176 = .ok (.iaload, 1))))
    (ms_lf (ms_iast hx hb hf hA (by decide +kernel : decode cX12_tips 177 = .ok (.iastore, 1))))))))
    (ms_b (ms_b (ms_b (ms_b (ms_lf (ms_goto hx hb (by decide) (by decide +kernel : decode cX12_tips 178 = .ok (.goto 27, 3))))
    (ms_lf (ms_iload hx hb (by decide +kernel : decode cX12_tips 181 = .ok (.iload 5, 2)))))
    (ms_b (ms_lf (ms_if_eq hx hb (by decide) (by decide +kernel : decode cX12_tips 183 = .ok (.ifCond .eq 22, 3))))
    (ms_lf (ms_aload_n (k := 0) hx hb rfl (by decide +kernel : decode cX12_tips 186 = .ok (.aload_n 0, 1))))))
    (ms_b (ms_b (ms_lf (ms_getf (C := RX12) (T := TX12) (N := 80) hx hb hf hts (fun w h => hAW w (inq_12 w h)) hown hK rfl (by decide) (hts _ (hAW _ qw_1472)) rfl (by decide +kernel : decode cX12_tips 187 = .ok (.getfield 134, 3))))
    (ms_lf (ms_bipush hx hb (by decide) (by decide +kernel : decode cX12_tips 190 = .ok (.bipush 26, 2)))))
    (ms_b (ms_lf (ms_bipush hx hb (by decide) (by decide +kernel : decode cX12_tips 192 = .ok (.bipush 6, 2))))
    (ms_lf (ms_iload_n (k := 1) hx hb rfl (by decide +kernel : decode cX12_tips 194 = .ok (.iload_n 1, 1)))))))
    (ms_b (ms_b (ms_b (ms_lf (ms_imul hx hb (by decide +kernel : decode cX12_tips 195 = .ok (.imul, 1))))
    (ms_lf (ms_iadd hx hb (by decide +kernel : decode cX12_tips 196 = .ok (.iadd, 1)))))
    (ms_b (ms_lf (ms_aload_n (k := 0) hx hb rfl (by decide +kernel : decode cX12_tips 197 = .ok (.aload_n 0, 1))))
    (ms_lf (ms_getf (C := RX12) (T := TX12) (N := 80) hx hb hf hts (fun w h => hAW w (inq_12 w h)) hown hK rfl (by decide) (hts _ (hAW _ qw_1472)) rfl (by decide +kernel : decode cX12_tips 198 = .ok (.getfield 134, 3))))))
    (ms_b (ms_b (ms_lf (ms_iload hx hb (by decide +kernel : decode cX12_tips 201 = .ok (.iload 6, 2))))
    (ms_lf (ms_iald hx hb hf hA hX (by decide +kernel : decode cX12_tips 203 = .ok (.iaload, 1)))))
    (ms_b (ms_lf (ms_iast hx hb hf hA (by decide +kernel : decode cX12_tips 204 = .ok (.iastore, 1))))
    (ms_lf (ms_ret hx hb hr hlk (by decide +kernel : decode cX12_tips 205 = .ok (.return_, 1)))))))))))
set_option maxRecDepth 100000 in
set_option maxHeartbeats 8000000 in
/-- TippedCratesModel.minuteGoes -/
theorem sd_234 (l : Launch) (f : Nat → Nat) (D : va_G) (cA : FieldType → ClassId) (d : Nat) : mm_Ok2 l f D cA d (yX12_minuteGoes, cX12_minuteGoes, 4, none, mc_234) := by
  intro p e R s m args below meth c C hRf hRl pc
  obtain ⟨hx, hb, hml, hr, hlk, hnm, hown, hts, hEX, hgo, hf⟩ := C
  obtain ⟨hK, hA, hX, hZs, hZc, hZq, hTx, hSR0, hSR1, hAO, hN⟩ := id hEX
  have hAW : ∀ w ∈ mm_AW, w ∈ (Cond.code yX12_minuteGoes cX12_minuteGoes 4 none :: mm_AW) := fun w h => List.mem_cons_of_mem _ h
  have hown : s.vm.findClass "TippedCratesModel" = some m.cls := hown
  show mm_S p l e R s m args below meth c f D mm_cl cA 4 _ pc (mc_234 pc)
  unfold mc_234
  exact (ms_b (ms_b (ms_b (ms_b (ms_b (ms_b (ms_lf (ms_iconst hx hb (by decide) (by decide +kernel : decode cX12_minuteGoes 0 = .ok (.iconst 0, 1))))
    (ms_lf (ms_istore_n (k := 1) hx hb rfl (by decide : 1 < 4) (by decide +kernel : decode cX12_minuteGoes 1 = .ok (.istore_n 1, 1)))))
    (ms_b (ms_lf (ms_iload_n (k := 1) hx hb rfl (by decide +kernel : decode cX12_minuteGoes 2 = .ok (.iload_n 1, 1))))
    (ms_lf (ms_aload_n (k := 0) hx hb rfl (by decide +kernel : decode cX12_minuteGoes 3 = .ok (.aload_n 0, 1))))))
    (ms_b (ms_b (ms_lf (ms_getf (C := RX12) (T := TX12) (N := 80) hx hb hf hts (fun w h => hAW w (inq_12 w h)) hown hK rfl (by decide) (hts _ (hAW _ qw_1446)) rfl (by decide +kernel : decode cX12_minuteGoes 4 = .ok (.getfield 70, 3))))
    (ms_lf (ms_aload_n (k := 0) hx hb rfl (by decide +kernel : decode cX12_minuteGoes 7 = .ok (.aload_n 0, 1)))))
    (ms_b (ms_lf (ms_getf (C := RX12) (T := TX12) (N := 80) hx hb hf hts (fun w h => hAW w (inq_12 w h)) hown hK rfl (by decide) (hts _ (hAW _ qw_1433)) rfl (by decide +kernel : decode cX12_minuteGoes 8 = .ok (.getfield 272, 3))))
    (ms_b (ms_lf (ms_iald hx hb hf hA hX (by decide +kernel : decode cX12_minuteGoes 11 = .ok (.iaload, 1))))
    (ms_lf (ms_ic_ge hx hb (by decide) (by decide +kernel : decode cX12_minuteGoes 12 = .ok (.if_icmp .ge 98, 3))))))))
    (ms_b (ms_b (ms_b (ms_lf (ms_aload_n (k := 0) hx hb rfl (by decide +kernel : decode cX12_minuteGoes 15 = .ok (.aload_n 0, 1))))
    (ms_lf (ms_bipush hx hb (by decide) (by decide +kernel : decode cX12_minuteGoes 16 = .ok (.bipush 8, 2)))))
    (ms_b (ms_lf (ms_aload_n (k := 0) hx hb rfl (by decide +kernel : decode cX12_minuteGoes 18 = .ok (.aload_n 0, 1))))
    (ms_lf (ms_getf (C := RX12) (T := TX12) (N := 80) hx hb hf hts (fun w h => hAW w (inq_12 w h)) hown hK rfl (by decide) (hts _ (hAW _ qw_1472)) rfl (by decide +kernel : decode cX12_minuteGoes 19 = .ok (.getfield 134, 3))))))
    (ms_b (ms_b (ms_lf (ms_bipush hx hb (by decide) (by decide +kernel : decode cX12_minuteGoes 22 = .ok (.bipush 49, 2))))
    (ms_lf (ms_iald hx hb hf hA hX (by decide +kernel : decode cX12_minuteGoes 24 = .ok (.iaload, 1)))))
    (ms_b (ms_lf (ms_imul hx hb (by decide +kernel : decode cX12_minuteGoes 25 = .ok (.imul, 1))))
    (ms_b (ms_lf (ms_iload_n (k := 1) hx hb rfl (by decide +kernel : decode cX12_minuteGoes 26 = .ok (.iload_n 1, 1))))
    (ms_lf (ms_iadd hx hb (by decide +kernel : decode cX12_minuteGoes 27 = .ok (.iadd, 1)))))))))
    (ms_b (ms_b (ms_b (ms_b (ms_lf (ms_iconst hx hb (by decide) (by decide +kernel : decode cX12_minuteGoes 28 = .ok (.iconst 4, 1))))
    (ms_lf (ms_ivV (C := RX12) (T := TX12) (N := 80) hx hb hml hown hts hgo hEX hf hK rfl (mm_GV hAW (mm_GI hAW gi_218) qw_1909 qw_1911 qw_99 qw_137) rfl ⟨rfl, hd_218⟩ (mm_rm hRf hRl (Nat.le_of_ble_eq_true rfl)) (by decide +kernel : decode cX12_minuteGoes 29 = .ok (.invokevirtual 427, 3)))))
    (ms_b (ms_lf (ms_istore_n (k := 2) hx hb rfl (by decide : 2 < 4) (by decide +kernel : decode cX12_minuteGoes 32 = .ok (.istore_n 2, 1))))
    (ms_lf (ms_aload_n (k := 0) hx hb rfl (by decide +kernel : decode cX12_minuteGoes 33 = .ok (.aload_n 0, 1))))))
    (ms_b (ms_b (ms_lf (ms_iload_n (k := 1) hx hb rfl (by decide +kernel : decode cX12_minuteGoes 34 = .ok (.iload_n 1, 1))))
    (ms_lf (ms_iload_n (k := 2) hx hb rfl (by decide +kernel : decode cX12_minuteGoes 35 = .ok (.iload_n 2, 1)))))
    (ms_b (ms_lf (ms_ivV (C := RX12) (T := TX12) (N := 80) hx hb hml hown hts hgo hEX hf hK rfl (mm_GV hAW (mm_GI hAW gi_224) qw_1812 qw_1814 qw_80 qw_137) rfl ⟨rfl, hd_224⟩ (mm_rm hRf hRl (Nat.le_of_ble_eq_true rfl)) (by decide +kernel : decode cX12_minuteGoes 36 = .ok (.invokevirtual 430, 3))))
    (ms_b (ms_lf (ms_if_eq hx hb (by decide) (by decide +kernel : decode cX12_minuteGoes 39 = .ok (.ifCond .eq 9, 3))))
    (ms_lf (ms_aload_n (k := 0) hx hb rfl (by decide +kernel : decode cX12_minuteGoes 42 = .ok (.aload_n 0, 1))))))))
    (ms_b (ms_b (ms_b (ms_lf (ms_iload_n (k := 1) hx hb rfl (by decide +kernel : decode cX12_minuteGoes 43 = .ok (.iload_n 1, 1))))
    (ms_lf (ms_iload_n (k := 2) hx hb rfl (by decide +kernel : decode cX12_minuteGoes 44 = .ok (.iload_n 2, 1)))))
    (ms_b (ms_lf (ms_ivV (C := RX12) (T := TX12) (N := 80) hx hb hml hown hts hgo hEX hf hK rfl (mm_GV hAW (mm_GI hAW gi_233) qw_1879 qw_1881 qw_95 qw_137) rfl ⟨rfl, hd_233⟩ (mm_rm hRf hRl (Nat.le_of_ble_eq_true rfl)) (by decide +kernel : decode cX12_minuteGoes 45 = .ok (.invokevirtual 433, 3))))
    (ms_b (ms_lf (ms_aload_n (k := 0) hx hb rfl (by decide +kernel : decode cX12_minuteGoes 48 = .ok (.aload_n 0, 1))))
    (ms_lf (ms_ldcw hx hb hown (hts _ (hAW _ qw_1917)) (by decide +kernel : decode cX12_minuteGoes 49 = .ok (.ldc_w 436, 3)))))))
    (ms_b (ms_b (ms_lf (ms_bipush hx hb (by decide) (by decide +kernel : decode cX12_minuteGoes 52 = .ok (.bipush 8, 2))))
    (ms_lf (ms_aload_n (k := 0) hx hb rfl (by decide +kernel : decode cX12_minuteGoes 54 = .ok (.aload_n 0, 1)))))
    (ms_b (ms_lf (ms_getf (C := RX12) (T := TX12) (N := 80) hx hb hf hts (fun w h => hAW w (inq_12 w h)) hown hK rfl (by decide) (hts _ (hAW _ qw_1472)) rfl (by decide +kernel : decode cX12_minuteGoes 55 = .ok (.getfield 134, 3))))
    (ms_b (ms_lf (ms_bipush hx hb (by decide) (by decide +kernel : decode cX12_minuteGoes 58 = .ok (.bipush 49, 2))))
    (ms_lf (ms_iald hx hb hf hA hX (by decide +kernel : decode cX12_minuteGoes 60 = .ok (.iaload, 1))))))))))
    (ms_b (ms_b (ms_b (ms_b (ms_b (ms_lf (ms_imul hx hb (by decide +kernel : decode cX12_minuteGoes 61 = .ok (.imul, 1))))
    (ms_lf (ms_iadd hx hb (by decide +kernel : decode cX12_minuteGoes 62 = .ok (.iadd, 1)))))
    (ms_b (ms_lf (ms_iload_n (k := 1) hx hb rfl (by decide +kernel : decode cX12_minuteGoes 63 = .ok (.iload_n 1, 1))))
    (ms_lf (ms_iadd hx hb (by decide +kernel : decode cX12_minuteGoes 64 = .ok (.iadd, 1))))))
    (ms_b (ms_b (ms_lf (ms_bipush hx hb (by decide) (by decide +kernel : decode cX12_minuteGoes 65 = .ok (.bipush 100, 2))))
    (ms_lf (ms_ivV (C := RX12) (T := TX12) (N := 80) hx hb hml hown hts hgo hEX hf hK rfl (mm_GV hAW (mm_GI hAW gi_218) qw_1909 qw_1911 qw_99 qw_137) rfl ⟨rfl, hd_218⟩ (mm_rm hRf hRl (Nat.le_of_ble_eq_true rfl)) (by decide +kernel : decode cX12_minuteGoes 67 = .ok (.invokevirtual 427, 3)))))
    (ms_b (ms_lf (ms_aload_n (k := 0) hx hb rfl (by decide +kernel : decode cX12_minuteGoes 70 = .ok (.aload_n 0, 1))))
    (ms_b (ms_lf (ms_iload_n (k := 1) hx hb rfl (by decide +kernel : decode cX12_minuteGoes 71 = .ok (.iload_n 1, 1))))
    (ms_lf (ms_iload_n (k := 2) hx hb rfl (by decide +kernel : decode cX12_minuteGoes 72 = .ok (.iload_n 2, 1))))))))
    (ms_b (ms_b (ms_b (ms_lf (ms_ivV (C := RX12) (T := TX12) (N := 80) hx hb hml hown hts hgo hEX hf hK rfl (mm_GV hAW (mm_GI hAW gi_232) qw_1871 qw_1873 qw_94 qw_137) rfl ⟨rfl, hd_232⟩ (mm_rm hRf hRl (Nat.le_of_ble_eq_true rfl)) (by decide +kernel : decode cX12_minuteGoes 73 = .ok (.invokevirtual 437, 3))))
    (ms_lf (ms_ic_ge hx hb (by decide) (by decide +kernel : decode cX12_minuteGoes 76 = .ok (.if_icmp .ge 7, 3)))))
    (ms_b (ms_lf (ms_iconst hx hb (by decide) (by decide +kernel : decode cX12_minuteGoes 79 = .ok (.iconst 1, 1))))
    (ms_lf (ms_goto hx hb (by decide) (by decide +kernel : decode cX12_minuteGoes 80 = .ok (.goto 4, 3))))))
    (ms_b (ms_b (ms_lf (ms_iconst hx hb (by decide) (by decide +kernel : decode cX12_minuteGoes 83 = .ok (.iconst 0, 1))))
    (ms_lf (ms_istore_n (k := 3) hx hb rfl (by decide : 3 < 4) (by decide +kernel : decode cX12_minuteGoes 84 = .ok (.istore_n 3, 1)))))
    (ms_b (ms_lf (ms_iload_n (k := 3) hx hb rfl (by decide +kernel : decode cX12_minuteGoes 85 = .ok (.iload_n 3, 1))))
    (ms_b (ms_lf (ms_if_eq hx hb (by decide) (by decide +kernel : decode cX12_minuteGoes 86 = .ok (.ifCond .eq 18, 3))))
    (ms_lf (ms_aload_n (k := 0) hx hb rfl (by decide +kernel : decode cX12_minuteGoes 89 = .ok (.aload_n 0, 1)))))))))
    (ms_b (ms_b (ms_b (ms_b (ms_lf (ms_iload_n (k := 1) hx hb rfl (by decide +kernel : decode cX12_minuteGoes 90 = .ok (.iload_n 1, 1))))
    (ms_lf (ms_iload_n (k := 2) hx hb rfl (by decide +kernel : decode cX12_minuteGoes 91 = .ok (.iload_n 2, 1)))))
    (ms_b (ms_lf (ms_ivV (C := RX12) (T := TX12) (N := 80) hx hb hml hown hts hgo hEX hf hK rfl (mm_GV hAW (mm_GI hAW gi_224) qw_1812 qw_1814 qw_80 qw_137) rfl ⟨rfl, hd_224⟩ (mm_rm hRf hRl (Nat.le_of_ble_eq_true rfl)) (by decide +kernel : decode cX12_minuteGoes 92 = .ok (.invokevirtual 430, 3))))
    (ms_lf (ms_if_eq hx hb (by decide) (by decide +kernel : decode cX12_minuteGoes 95 = .ok (.ifCond .eq 9, 3))))))
    (ms_b (ms_b (ms_lf (ms_aload_n (k := 0) hx hb rfl (by decide +kernel : decode cX12_minuteGoes 98 = .ok (.aload_n 0, 1))))
    (ms_lf (ms_iload_n (k := 1) hx hb rfl (by decide +kernel : decode cX12_minuteGoes 99 = .ok (.iload_n 1, 1)))))
    (ms_b (ms_lf (ms_iload_n (k := 2) hx hb rfl (by decide +kernel : decode cX12_minuteGoes 100 = .ok (.iload_n 2, 1))))
    (ms_b (ms_lf (ms_ivV (C := RX12) (T := TX12) (N := 80) hx hb hml hown hts hgo hEX hf hK rfl (mm_GV hAW (mm_GI hAW gi_233) qw_1879 qw_1881 qw_95 qw_137) rfl ⟨rfl, hd_233⟩ (mm_rm hRf hRl (Nat.le_of_ble_eq_true rfl)) (by decide +kernel : decode cX12_minuteGoes 101 = .ok (.invokevirtual 433, 3))))
    (ms_lf (ms_iinc hx hb (by decide) (by decide : 1 < 4) (by decide +kernel : decode cX12_minuteGoes 104 = .ok (.iinc 1 1, 3))))))))
    (ms_b (ms_b (ms_b (ms_lf (ms_goto hx hb (by decide) (by decide +kernel : decode cX12_minuteGoes 107 = .ok (.goto (-105), 3))))
    (ms_lf (ms_aload_n (k := 0) hx hb rfl (by decide +kernel : decode cX12_minuteGoes 110 = .ok (.aload_n 0, 1)))))
    (ms_b (ms_lf (ms_getf (C := RX12) (T := TX12) (N := 80) hx hb hf hts (fun w h => hAW w (inq_12 w h)) hown hK rfl (by decide) (hts _ (hAW _ qw_1472)) rfl (by decide +kernel : decode cX12_minuteGoes 111 = .ok (.getfield 134, 3))))
    (ms_b (ms_lf (ms_bipush hx hb (by decide) (by decide +kernel : decode cX12_minuteGoes 114 = .ok (.bipush 49, 2))))
    (ms_lf (ms_dup2 hx hb (by decide +kernel : decode cX12_minuteGoes 116 = .ok (.dup2, 1)))))))
    (ms_b (ms_b (ms_lf (ms_iald hx hb hf hA hX (by decide +kernel : decode cX12_minuteGoes 117 = .ok (.iaload, 1))))
    (ms_lf (ms_iconst hx hb (by decide) (by decide +kernel : decode cX12_minuteGoes 118 = .ok (.iconst 1, 1)))))
    (ms_b (ms_lf (ms_iadd hx hb (by decide +kernel : decode cX12_minuteGoes 119 = .ok (.iadd, 1))))
    (ms_b (ms_lf (ms_iast hx hb hf hA (by decide +kernel : decode cX12_minuteGoes 120 = .ok (.iastore, 1))))
    (ms_lf (ms_ret hx hb hr hlk (by decide +kernel : decode cX12_minuteGoes 121 = .ok (.return_, 1)))))))))))
set_option maxRecDepth 100000 in
set_option maxHeartbeats 8000000 in
/-- TippedCratesModel.goes -/
theorem sd_235 (l : Launch) (f : Nat → Nat) (D : va_G) (cA : FieldType → ClassId) (d : Nat) : mm_Ok2 l f D cA d (yX12_goes, cX12_goes, 3, none, mc_235) := by
  intro p e R s m args below meth c C hRf hRl pc
  obtain ⟨hx, hb, hml, hr, hlk, hnm, hown, hts, hEX, hgo, hf⟩ := C
  obtain ⟨hK, hA, hX, hZs, hZc, hZq, hTx, hSR0, hSR1, hAO, hN⟩ := id hEX
  have hAW : ∀ w ∈ mm_AW, w ∈ (Cond.code yX12_goes cX12_goes 3 none :: mm_AW) := fun w h => List.mem_cons_of_mem _ h
  have hown : s.vm.findClass "TippedCratesModel" = some m.cls := hown
  show mm_S p l e R s m args below meth c f D mm_cl cA 3 _ pc (mc_235 pc)
  unfold mc_235
  exact (ms_b (ms_b (ms_b (ms_lf (ms_iconst hx hb (by decide) (by decide +kernel : decode cX12_goes 0 = .ok (.iconst 0, 1))))
    (ms_lf (ms_istore_n (k := 2) hx hb rfl (by decide : 2 < 3) (by decide +kernel : decode cX12_goes 1 = .ok (.istore_n 2, 1)))))
    (ms_b (ms_lf (ms_iload_n (k := 2) hx hb rfl (by decide +kernel : decode cX12_goes 2 = .ok (.iload_n 2, 1))))
    (ms_b (ms_lf (ms_iload_n (k := 1) hx hb rfl (by decide +kernel : decode cX12_goes 3 = .ok (.iload_n 1, 1))))
    (ms_lf (ms_ic_ge hx hb (by decide) (by decide +kernel : decode cX12_goes 4 = .ok (.if_icmp .ge 13, 3)))))))
    (ms_b (ms_b (ms_lf (ms_aload_n (k := 0) hx hb rfl (by decide +kernel : decode cX12_goes 7 = .ok (.aload_n 0, 1))))
    (ms_lf (ms_ivV (C := RX12) (T := TX12) (N := 80) hx hb hml hown hts hgo hEX hf hK rfl (mm_GV hAW (mm_GI hAW gi_234) qw_1905 qw_1907 qw_98 qw_137) rfl ⟨rfl, hd_234⟩ (mm_rm hRf hRl (Nat.le_of_ble_eq_true rfl)) (by decide +kernel : decode cX12_goes 8 = .ok (.invokevirtual 440, 3)))))
    (ms_b (ms_lf (ms_iinc hx hb (by decide) (by decide : 2 < 3) (by decide +kernel : decode cX12_goes 11 = .ok (.iinc 2 1, 3))))
    (ms_b (ms_lf (ms_goto hx hb (by decide) (by decide +kernel : decode cX12_goes 14 = .ok (.goto (-12), 3))))
    (ms_lf (ms_ret hx hb hr hlk (by decide +kernel : decode cX12_goes 17 = .ok (.return_, 1))))))))
set_option maxRecDepth 100000 in
set_option maxHeartbeats 8000000 in
/-- TippedCratesModel.flag -/
theorem sd_236 (l : Launch) (f : Nat → Nat) (D : va_G) (cA : FieldType → ClassId) (d : Nat) : mm_Ok2 l f D cA d (yX12_flag, cX12_flag, 3, (some .int), mc_236) := by
  intro p e R s m args below meth c C hRf hRl pc
  obtain ⟨hx, hb, hml, hr, hlk, hnm, hown, hts, hEX, hgo, hf⟩ := C
  obtain ⟨hK, hA, hX, hZs, hZc, hZq, hTx, hSR0, hSR1, hAO, hN⟩ := id hEX
  have hAW : ∀ w ∈ mm_AW, w ∈ (Cond.code yX12_flag cX12_flag 3 (some .int) :: mm_AW) := fun w h => List.mem_cons_of_mem _ h
  have hown : s.vm.findClass "TippedCratesModel" = some m.cls := hown
  show mm_S p l e R s m args below meth c f D mm_cl cA 3 _ pc (mc_236 pc)
  unfold mc_236
  exact (ms_b (ms_b (ms_b (ms_b (ms_lf (ms_aload_n (k := 0) hx hb rfl (by decide +kernel : decode cX12_flag 0 = .ok (.aload_n 0, 1))))
    (ms_b (ms_lf (ms_iload_n (k := 1) hx hb rfl (by decide +kernel : decode cX12_flag 1 = .ok (.iload_n 1, 1))))
    (ms_lf (ms_ivV (C := RX12) (T := TX12) (N := 80) hx hb hml hown hts hgo hEX hf hK rfl (mm_GV hAW (mm_GI hAW gi_209) qw_1774 qw_1776 qw_74 qw_137) rfl ⟨rfl, hd_209⟩ (mm_rm hRf hRl (Nat.le_of_ble_eq_true rfl)) (by decide +kernel : decode cX12_flag 2 = .ok (.invokevirtual 443, 3))))))
    (ms_b (ms_b (ms_lf (ms_if_ne hx hb (by decide) (by decide +kernel : decode cX12_flag 5 = .ok (.ifCond .ne 5, 3))))
    (ms_lf (ms_iconst hx hb (by decide) (by decide +kernel : decode cX12_flag 8 = .ok (.iconst (-1), 1)))))
    (ms_b (ms_lf (ms_iret hx hb hr hlk (by decide +kernel : decode cX12_flag 9 = .ok (.ireturn, 1))))
    (ms_lf (ms_aload_n (k := 0) hx hb rfl (by decide +kernel : decode cX12_flag 10 = .ok (.aload_n 0, 1)))))))
    (ms_b (ms_b (ms_lf (ms_ivV (C := RX12) (T := TX12) (N := 80) hx hb hml hown hts hgo hEX hf hK rfl (mm_GV hAW (mm_GI hAW gi_216) qw_1785 qw_1787 qw_76 qw_137) rfl ⟨rfl, hd_216⟩ (mm_rm hRf hRl (Nat.le_of_ble_eq_true rfl)) (by decide +kernel : decode cX12_flag 11 = .ok (.invokevirtual 446, 3))))
    (ms_b (ms_lf (ms_iload_n (k := 2) hx hb rfl (by decide +kernel : decode cX12_flag 14 = .ok (.iload_n 2, 1))))
    (ms_lf (ms_tsw hx hb (by decide) (by decide) (by decide +kernel : decode cX12_flag 15 = .ok (.tableswitch 52 0 2 #[25, 32, 46], 25))))))
    (ms_b (ms_b (ms_lf (ms_aload_n (k := 0) hx hb rfl (by decide +kernel : decode cX12_flag 40 = .ok (.aload_n 0, 1))))
    (ms_lf (ms_getf (C := RX12) (T := TX12) (N := 80) hx hb hf hts (fun w h => hAW w (inq_12 w h)) hown hK rfl (by decide) (hts _ (hAW _ qw_1472)) rfl (by decide +kernel : decode cX12_flag 41 = .ok (.getfield 134, 3)))))
    (ms_b (ms_lf (ms_iload_n (k := 1) hx hb rfl (by decide +kernel : decode cX12_flag 44 = .ok (.iload_n 1, 1))))
    (ms_lf (ms_iald hx hb hf hA hX (by decide +kernel : decode cX12_flag 45 = .ok (.iaload, 1))))))))
    (ms_b (ms_b (ms_b (ms_lf (ms_iret hx hb hr hlk (by decide +kernel : decode cX12_flag 46 = .ok (.ireturn, 1))))
    (ms_b (ms_lf (ms_aload_n (k := 0) hx hb rfl (by decide +kernel : decode cX12_flag 47 = .ok (.aload_n 0, 1))))
    (ms_lf (ms_iload_n (k := 1) hx hb rfl (by decide +kernel : decode cX12_flag 48 = .ok (.iload_n 1, 1))))))
    (ms_b (ms_b (ms_lf (ms_ivV (C := RX12) (T := TX12) (N := 80) hx hb hml hown hts hgo hEX hf hK rfl (mm_GV hAW (mm_GI hAW gi_213) qw_1789 qw_1791 qw_77 qw_137) rfl ⟨rfl, hd_213⟩ (mm_rm hRf hRl (Nat.le_of_ble_eq_true rfl)) (by decide +kernel : decode cX12_flag 49 = .ok (.invokevirtual 389, 3))))
    (ms_lf (ms_if_eq hx hb (by decide) (by decide +kernel : decode cX12_flag 52 = .ok (.ifCond .eq 7, 3)))))
    (ms_b (ms_lf (ms_iconst hx hb (by decide) (by decide +kernel : decode cX12_flag 55 = .ok (.iconst 1, 1))))
    (ms_lf (ms_goto hx hb (by decide) (by decide +kernel : decode cX12_flag 56 = .ok (.goto 4, 3)))))))
    (ms_b (ms_b (ms_b (ms_lf (ms_iconst hx hb (by decide) (by decide +kernel : decode cX12_flag 59 = .ok (.iconst 0, 1))))
    (ms_lf (ms_iret hx hb hr hlk (by decide +kernel : decode cX12_flag 60 = .ok (.ireturn, 1)))))
    (ms_b (ms_lf (ms_aload_n (k := 0) hx hb rfl (by decide +kernel : decode cX12_flag 61 = .ok (.aload_n 0, 1))))
    (ms_lf (ms_iload_n (k := 1) hx hb rfl (by decide +kernel : decode cX12_flag 62 = .ok (.iload_n 1, 1))))))
    (ms_b (ms_b (ms_lf (ms_ivV (C := RX12) (T := TX12) (N := 80) hx hb hml hown hts hgo hEX hf hK rfl (mm_GV hAW (mm_GI hAW gi_237) qw_1793 qw_1795 qw_78 qw_137) rfl ⟨rfl, hd_237⟩ (mm_rm hRf hRl (Nat.le_of_ble_eq_true rfl)) (by decide +kernel : decode cX12_flag 63 = .ok (.invokevirtual 449, 3))))
    (ms_lf (ms_iret hx hb hr hlk (by decide +kernel : decode cX12_flag 66 = .ok (.ireturn, 1)))))
    (ms_b (ms_lf (ms_iconst hx hb (by decide) (by decide +kernel : decode cX12_flag 67 = .ok (.iconst (-1), 1))))
    (ms_lf (ms_iret hx hb hr hlk (by decide +kernel : decode cX12_flag 68 = .ok (.ireturn, 1)))))))))
