set_option maxRecDepth 100000 in
set_option maxHeartbeats 8000000 in
/-- TippedCratesModel.restore -/
theorem sd_285 (l : Launch) (f : Nat → Nat) (D : va_G) (cA : FieldType → ClassId) (d : Nat) : mm_Ok2 l f D cA d (yX12_restore, cX12_restore, 3, (some .boolean), mc_285) := by
  intro p e R s m args below meth c C hRf hRl pc
  obtain ⟨hx, hb, hml, hr, hlk, hnm, hown, hts, hEX, hgo, hf⟩ := C
  obtain ⟨hK, hA, hX, hZs, hZc, hZq, hTx, hSR0, hSR1, hAO, hN⟩ := id hEX
  have hAW : ∀ w ∈ mm_AW, w ∈ (Cond.code yX12_restore cX12_restore 3 (some .boolean) :: mm_AW) := fun w h => List.mem_cons_of_mem _ h
  have hown : s.vm.findClass "TippedCratesModel" = some m.cls := hown
  show mm_S p l e R s m args below meth c f D mm_cl cA 3 _ pc (mc_285 pc)
  unfold mc_285
  exact (ms_b (ms_b (ms_b (ms_b (ms_b (ms_lf (ms_iload_n (k := 1) hx hb rfl (by decide +kernel : decode cX12_restore 0 = .ok (.iload_n 1, 1))))
    (ms_lf (ms_iconst hx hb (by decide) (by decide +kernel : decode cX12_restore 1 = .ok (.iconst 0, 1)))))
    (ms_b (ms_lf (ms_iconst hx hb (by decide) (by decide +kernel : decode cX12_restore 2 = .ok (.iconst 2, 1))))
    (ms_lf (ms_ivS hx hb hml hown hts hgo hEX (mm_GS hAW (mm_GI hAW gi_206) qw_1782 qw_1783 qw_137) rfl hd_206 (mm_rm hRf hRl (Nat.le_of_ble_eq_true rfl)) (by decide +kernel : decode cX12_restore 3 = .ok (.invokestatic 366, 3))))))
    (ms_b (ms_b (ms_lf (ms_if_eq hx hb (by decide) (by decide +kernel : decode cX12_restore 6 = .ok (.ifCond .eq 12, 3))))
    (ms_lf (ms_aload_n (k := 0) hx hb rfl (by decide +kernel : decode cX12_restore 9 = .ok (.aload_n 0, 1)))))
    (ms_b (ms_lf (ms_getf (C := RX12) (T := TX12) (N := 80) hx hb hf hts (fun w h => hAW w (inq_12 w h)) hown hK rfl (by decide) (hts _ (hAW _ qw_1493)) rfl (by decide +kernel : decode cX12_restore 10 = .ok (.getfield 182, 3))))
    (ms_b (ms_lf (ms_iload_n (k := 1) hx hb rfl (by decide +kernel : decode cX12_restore 13 = .ok (.iload_n 1, 1))))
    (ms_lf (ms_bald hx hb hf hA (by decide +kernel : decode cX12_restore 14 = .ok (.baload, 1))))))))
    (ms_b (ms_b (ms_b (ms_lf (ms_if_ne hx hb (by decide) (by decide +kernel : decode cX12_restore 15 = .ok (.ifCond .ne 5, 3))))
    (ms_lf (ms_iconst hx hb (by decide) (by decide +kernel : decode cX12_restore 18 = .ok (.iconst 0, 1)))))
    (ms_b (ms_lf (ms_iret hx hb hr hlk (by decide +kernel : decode cX12_restore 19 = .ok (.ireturn, 1))))
    (ms_lf (ms_iconst hx hb (by decide) (by decide +kernel : decode cX12_restore 20 = .ok (.iconst 0, 1))))))
    (ms_b (ms_b (ms_lf (ms_istore_n (k := 2) hx hb rfl (by decide : 2 < 3) (by decide +kernel : decode cX12_restore 21 = .ok (.istore_n 2, 1))))
    (ms_lf (ms_iload_n (k := 2) hx hb rfl (by decide +kernel : decode cX12_restore 22 = .ok (.iload_n 2, 1)))))
    (ms_b (ms_lf (ms_bipush hx hb (by decide) (by decide +kernel : decode cX12_restore 23 = .ok (.bipush 51, 2))))
    (ms_b (ms_lf (ms_ic_ge hx hb (by decide) (by decide +kernel : decode cX12_restore 25 = .ok (.if_icmp .ge 26, 3))))
    (ms_lf (ms_aload_n (k := 0) hx hb rfl (by decide +kernel : decode cX12_restore 28 = .ok (.aload_n 0, 1)))))))))
    (ms_b (ms_b (ms_b (ms_b (ms_lf (ms_getf (C := RX12) (T := TX12) (N := 80) hx hb hf hts (fun w h => hAW w (inq_12 w h)) hown hK rfl (by decide) (hts _ (hAW _ qw_1471)) rfl (by decide +kernel : decode cX12_restore 29 = .ok (.getfield 131, 3))))
    (ms_lf (ms_iload_n (k := 2) hx hb rfl (by decide +kernel : decode cX12_restore 32 = .ok (.iload_n 2, 1)))))
    (ms_b (ms_lf (ms_aload_n (k := 0) hx hb rfl (by decide +kernel : decode cX12_restore 33 = .ok (.aload_n 0, 1))))
    (ms_lf (ms_getf (C := RX12) (T := TX12) (N := 80) hx hb hf hts (fun w h => hAW w (inq_12 w h)) hown hK rfl (by decide) (hts _ (hAW _ qw_1494)) rfl (by decide +kernel : decode cX12_restore 34 = .ok (.getfield 185, 3))))))
    (ms_b (ms_b (ms_lf (ms_bipush hx hb (by decide) (by decide +kernel : decode cX12_restore 37 = .ok (.bipush 51, 2))))
    (ms_lf (ms_iload_n (k := 1) hx hb rfl (by decide +kernel : decode cX12_restore 39 = .ok (.iload_n 1, 1)))))
    (ms_b (ms_lf (ms_imul hx hb (by decide +kernel : decode cX12_restore 40 = .ok (.imul, 1))))
    (ms_b (ms_lf (ms_iload_n (k := 2) hx hb rfl (by decide +kernel : decode cX12_restore 41 = .ok (.iload_n 2, 1))))
    (ms_lf (ms_iadd hx hb (by decide +kernel : decode cX12_restore 42 = .ok (.iadd, 1))))))))
    (ms_b (ms_b (ms_b (ms_lf (ms_iald hx hb hf hA hX (by decide +kernel : decode cX12_restore 43 = .ok (.iaload, 1))))
    (ms_lf (ms_iast hx hb hf hA (by decide +kernel : decode cX12_restore 44 = .ok (.iastore, 1)))))
    (ms_b (ms_lf (ms_iinc hx hb (by decide) (by decide : 2 < 3) (by decide +kernel : decode cX12_restore 45 = .ok (.iinc 2 1, 3))))
    (ms_lf (ms_goto hx hb (by decide) (by decide +kernel : decode cX12_restore 48 = .ok (.goto (-26), 3))))))
    (ms_b (ms_b (ms_lf (ms_aload_n (k := 0) hx hb rfl (by decide +kernel : decode cX12_restore 51 = .ok (.aload_n 0, 1))))
    (ms_lf (ms_iconst hx hb (by decide) (by decide +kernel : decode cX12_restore 52 = .ok (.iconst 0, 1)))))
    (ms_b (ms_lf (ms_put (C := RX12) (T := TX12) (N := 80) hx hb hf hts (fun w h => hAW w (inq_12 w h)) tyX12 tyX12_ok nmX12 hown hK rfl (by decide) (hts _ (hAW _ qw_1475)) rfl rfl rfl (by decide +kernel : decode cX12_restore 53 = .ok (.putfield 298, 3))))
    (ms_b (ms_lf (ms_iconst hx hb (by decide) (by decide +kernel : decode cX12_restore 56 = .ok (.iconst 1, 1))))
    (ms_lf (ms_iret hx hb hr hlk (by decide +kernel : decode cX12_restore 57 = .ok (.ireturn, 1))))))))))
set_option maxRecDepth 100000 in
set_option maxHeartbeats 8000000 in
/-- TippedCratesModel.isStuck -/
theorem sd_286 (l : Launch) (f : Nat → Nat) (D : va_G) (cA : FieldType → ClassId) (d : Nat) : mm_Ok2 l f D cA d (yX12_isStuck, cX12_isStuck, 2, (some .boolean), mc_286) := by
  intro p e R s m args below meth c C hRf hRl pc
  obtain ⟨hx, hb, hml, hr, hlk, hnm, hown, hts, hEX, hgo, hf⟩ := C
  obtain ⟨hK, hA, hX, hZs, hZc, hZq, hTx, hSR0, hSR1, hAO, hN⟩ := id hEX
  have hAW : ∀ w ∈ mm_AW, w ∈ (Cond.code yX12_isStuck cX12_isStuck 2 (some .boolean) :: mm_AW) := fun w h => List.mem_cons_of_mem _ h
  have hown : s.vm.findClass "TippedCratesModel" = some m.cls := hown
  show mm_S p l e R s m args below meth c f D mm_cl cA 2 _ pc (mc_286 pc)
  unfold mc_286
  exact (ms_b (ms_b (ms_b (ms_b (ms_lf (ms_aload_n (k := 0) hx hb rfl (by decide +kernel : decode cX12_isStuck 0 = .ok (.aload_n 0, 1))))
    (ms_b (ms_lf (ms_iload_n (k := 1) hx hb rfl (by decide +kernel : decode cX12_isStuck 1 = .ok (.iload_n 1, 1))))
    (ms_lf (ms_iconst hx hb (by decide) (by decide +kernel : decode cX12_isStuck 2 = .ok (.iconst 0, 1))))))
    (ms_b (ms_lf (ms_ivV (C := RX12) (T := TX12) (N := 80) hx hb hml hown hts hgo hEX hf hK rfl (mm_GV hAW (mm_GI hAW gi_224) qw_1812 qw_1814 qw_80 qw_137) rfl ⟨rfl, hd_224⟩ (mm_rm hRf hRl (Nat.le_of_ble_eq_true rfl)) (by decide +kernel : decode cX12_isStuck 3 = .ok (.invokevirtual 430, 3))))
    (ms_b (ms_lf (ms_if_ne hx hb (by decide) (by decide +kernel : decode cX12_isStuck 6 = .ok (.ifCond .ne 34, 3))))
    (ms_lf (ms_aload_n (k := 0) hx hb rfl (by decide +kernel : decode cX12_isStuck 9 = .ok (.aload_n 0, 1)))))))
    (ms_b (ms_b (ms_lf (ms_iload_n (k := 1) hx hb rfl (by decide +kernel : decode cX12_isStuck 10 = .ok (.iload_n 1, 1))))
    (ms_b (ms_lf (ms_iconst hx hb (by decide) (by decide +kernel : decode cX12_isStuck 11 = .ok (.iconst 1, 1))))
    (ms_lf (ms_ivV (C := RX12) (T := TX12) (N := 80) hx hb hml hown hts hgo hEX hf hK rfl (mm_GV hAW (mm_GI hAW gi_224) qw_1812 qw_1814 qw_80 qw_137) rfl ⟨rfl, hd_224⟩ (mm_rm hRf hRl (Nat.le_of_ble_eq_true rfl)) (by decide +kernel : decode cX12_isStuck 12 = .ok (.invokevirtual 430, 3))))))
    (ms_b (ms_lf (ms_if_ne hx hb (by decide) (by decide +kernel : decode cX12_isStuck 15 = .ok (.ifCond .ne 25, 3))))
    (ms_b (ms_lf (ms_aload_n (k := 0) hx hb rfl (by decide +kernel : decode cX12_isStuck 18 = .ok (.aload_n 0, 1))))
    (ms_lf (ms_iload_n (k := 1) hx hb rfl (by decide +kernel : decode cX12_isStuck 19 = .ok (.iload_n 1, 1))))))))
    (ms_b (ms_b (ms_b (ms_lf (ms_iconst hx hb (by decide) (by decide +kernel : decode cX12_isStuck 20 = .ok (.iconst 2, 1))))
    (ms_b (ms_lf (ms_ivV (C := RX12) (T := TX12) (N := 80) hx hb hml hown hts hgo hEX hf hK rfl (mm_GV hAW (mm_GI hAW gi_224) qw_1812 qw_1814 qw_80 qw_137) rfl ⟨rfl, hd_224⟩ (mm_rm hRf hRl (Nat.le_of_ble_eq_true rfl)) (by decide +kernel : decode cX12_isStuck 21 = .ok (.invokevirtual 430, 3))))
    (ms_lf (ms_if_ne hx hb (by decide) (by decide +kernel : decode cX12_isStuck 24 = .ok (.ifCond .ne 16, 3))))))
    (ms_b (ms_lf (ms_aload_n (k := 0) hx hb rfl (by decide +kernel : decode cX12_isStuck 27 = .ok (.aload_n 0, 1))))
    (ms_b (ms_lf (ms_iload_n (k := 1) hx hb rfl (by decide +kernel : decode cX12_isStuck 28 = .ok (.iload_n 1, 1))))
    (ms_lf (ms_iconst hx hb (by decide) (by decide +kernel : decode cX12_isStuck 29 = .ok (.iconst 3, 1)))))))
    (ms_b (ms_b (ms_lf (ms_ivV (C := RX12) (T := TX12) (N := 80) hx hb hml hown hts hgo hEX hf hK rfl (mm_GV hAW (mm_GI hAW gi_224) qw_1812 qw_1814 qw_80 qw_137) rfl ⟨rfl, hd_224⟩ (mm_rm hRf hRl (Nat.le_of_ble_eq_true rfl)) (by decide +kernel : decode cX12_isStuck 30 = .ok (.invokevirtual 430, 3))))
    (ms_b (ms_lf (ms_if_ne hx hb (by decide) (by decide +kernel : decode cX12_isStuck 33 = .ok (.ifCond .ne 7, 3))))
    (ms_lf (ms_iconst hx hb (by decide) (by decide +kernel : decode cX12_isStuck 36 = .ok (.iconst 1, 1))))))
    (ms_b (ms_lf (ms_goto hx hb (by decide) (by decide +kernel : decode cX12_isStuck 37 = .ok (.goto 4, 3))))
    (ms_b (ms_lf (ms_iconst hx hb (by decide) (by decide +kernel : decode cX12_isStuck 40 = .ok (.iconst 0, 1))))
    (ms_lf (ms_iret hx hb hr hlk (by decide +kernel : decode cX12_isStuck 41 = .ok (.ireturn, 1)))))))))
set_option maxRecDepth 100000 in
set_option maxHeartbeats 8000000 in
/-- TippedCratesModel.count -/
theorem sd_287 (l : Launch) (f : Nat → Nat) (D : va_G) (cA : FieldType → ClassId) (d : Nat) : mm_Ok2 l f D cA d (yX12_count, cX12_count, 4, (some .int), mc_287) := by
  intro p e R s m args below meth c C hRf hRl pc
  obtain ⟨hx, hb, hml, hr, hlk, hnm, hown, hts, hEX, hgo, hf⟩ := C
  obtain ⟨hK, hA, hX, hZs, hZc, hZq, hTx, hSR0, hSR1, hAO, hN⟩ := id hEX
  have hAW : ∀ w ∈ mm_AW, w ∈ (Cond.code yX12_count cX12_count 4 (some .int) :: mm_AW) := fun w h => List.mem_cons_of_mem _ h
  have hown : s.vm.findClass "TippedCratesModel" = some m.cls := hown
  show mm_S p l e R s m args below meth c f D mm_cl cA 4 _ pc (mc_287 pc)
  unfold mc_287
  exact (ms_b (ms_b (ms_b (ms_b (ms_b (ms_b (ms_b (ms_lf (ms_aload_n (k := 0) hx hb rfl (by decide +kernel : decode cX12_count 0 = .ok (.aload_n 0, 1))))
    (ms_b (ms_lf (ms_ivV (C := RX12) (T := TX12) (N := 80) hx hb hml hown hts hgo hEX hf hK rfl (mm_GV hAW (mm_GI hAW gi_216) qw_1785 qw_1787 qw_76 qw_137) rfl ⟨rfl, hd_216⟩ (mm_rm hRf hRl (Nat.le_of_ble_eq_true rfl)) (by decide +kernel : decode cX12_count 1 = .ok (.invokevirtual 446, 3))))
    (ms_lf (ms_iconst hx hb (by decide) (by decide +kernel : decode cX12_count 4 = .ok (.iconst 0, 1))))))
    (ms_b (ms_lf (ms_istore_n (k := 2) hx hb rfl (by decide : 2 < 4) (by decide +kernel : decode cX12_count 5 = .ok (.istore_n 2, 1))))
    (ms_b (ms_lf (ms_iload_n (k := 1) hx hb rfl (by decide +kernel : decode cX12_count 6 = .ok (.iload_n 1, 1))))
    (ms_lf (ms_tsw hx hb (by decide) (by decide) (by decide +kernel : decode cX12_count 7 = .ok (.tableswitch 409 0 16 #[81, 91, 101, 111, 119, 127, 132, 165, 192, 197, 202, 207, 252, 276, 313, 348, 385], 81)))))))
    (ms_b (ms_b (ms_lf (ms_aload_n (k := 0) hx hb rfl (by decide +kernel : decode cX12_count 88 = .ok (.aload_n 0, 1))))
    (ms_b (ms_lf (ms_getf (C := RX12) (T := TX12) (N := 80) hx hb hf hts (fun w h => hAW w (inq_12 w h)) hown hK rfl (by decide) (hts _ (hAW _ qw_1437)) rfl (by decide +kernel : decode cX12_count 89 = .ok (.getfield 43, 3))))
    (ms_lf (ms_aload_n (k := 0) hx hb rfl (by decide +kernel : decode cX12_count 92 = .ok (.aload_n 0, 1))))))
    (ms_b (ms_b (ms_lf (ms_getf (C := RX12) (T := TX12) (N := 80) hx hb hf hts (fun w h => hAW w (inq_12 w h)) hown hK rfl (by decide) (hts _ (hAW _ qw_1433)) rfl (by decide +kernel : decode cX12_count 93 = .ok (.getfield 272, 3))))
    (ms_lf (ms_iald hx hb hf hA hX (by decide +kernel : decode cX12_count 96 = .ok (.iaload, 1)))))
    (ms_b (ms_lf (ms_iret hx hb hr hlk (by decide +kernel : decode cX12_count 97 = .ok (.ireturn, 1))))
    (ms_lf (ms_aload_n (k := 0) hx hb rfl (by decide +kernel : decode cX12_count 98 = .ok (.aload_n 0, 1))))))))
    (ms_b (ms_b (ms_b (ms_lf (ms_getf (C := RX12) (T := TX12) (N := 80) hx hb hf hts (fun w h => hAW w (inq_12 w h)) hown hK rfl (by decide) (hts _ (hAW _ qw_1438)) rfl (by decide +kernel : decode cX12_count 99 = .ok (.getfield 46, 3))))
    (ms_b (ms_lf (ms_aload_n (k := 0) hx hb rfl (by decide +kernel : decode cX12_count 102 = .ok (.aload_n 0, 1))))
    (ms_lf (ms_getf (C := RX12) (T := TX12) (N := 80) hx hb hf hts (fun w h => hAW w (inq_12 w h)) hown hK rfl (by decide) (hts _ (hAW _ qw_1433)) rfl (by decide +kernel : decode cX12_count 103 = .ok (.getfield 272, 3))))))
    (ms_b (ms_lf (ms_iald hx hb hf hA hX (by decide +kernel : decode cX12_count 106 = .ok (.iaload, 1))))
    (ms_b (ms_lf (ms_iret hx hb hr hlk (by decide +kernel : decode cX12_count 107 = .ok (.ireturn, 1))))
    (ms_lf (ms_aload_n (k := 0) hx hb rfl (by decide +kernel : decode cX12_count 108 = .ok (.aload_n 0, 1)))))))
    (ms_b (ms_b (ms_lf (ms_getf (C := RX12) (T := TX12) (N := 80) hx hb hf hts (fun w h => hAW w (inq_12 w h)) hown hK rfl (by decide) (hts _ (hAW _ qw_1446)) rfl (by decide +kernel : decode cX12_count 109 = .ok (.getfield 70, 3))))
    (ms_b (ms_lf (ms_aload_n (k := 0) hx hb rfl (by decide +kernel : decode cX12_count 112 = .ok (.aload_n 0, 1))))
    (ms_lf (ms_getf (C := RX12) (T := TX12) (N := 80) hx hb hf hts (fun w h => hAW w (inq_12 w h)) hown hK rfl (by decide) (hts _ (hAW _ qw_1433)) rfl (by decide +kernel : decode cX12_count 113 = .ok (.getfield 272, 3))))))
    (ms_b (ms_b (ms_lf (ms_iald hx hb hf hA hX (by decide +kernel : decode cX12_count 116 = .ok (.iaload, 1))))
    (ms_lf (ms_iret hx hb hr hlk (by decide +kernel : decode cX12_count 117 = .ok (.ireturn, 1)))))
    (ms_b (ms_lf (ms_aload_n (k := 0) hx hb rfl (by decide +kernel : decode cX12_count 118 = .ok (.aload_n 0, 1))))
    (ms_lf (ms_getf (C := RX12) (T := TX12) (N := 80) hx hb hf hts (fun w h => hAW w (inq_12 w h)) hown hK rfl (by decide) (hts _ (hAW _ qw_1472)) rfl (by decide +kernel : decode cX12_count 119 = .ok (.getfield 134, 3)))))))))
    (ms_b (ms_b (ms_b (ms_b (ms_lf (ms_bipush hx hb (by decide) (by decide +kernel : decode cX12_count 122 = .ok (.bipush 49, 2))))
    (ms_b (ms_lf (ms_iald hx hb hf hA hX (by decide +kernel : decode cX12_count 124 = .ok (.iaload, 1))))
    (ms_lf (ms_iret hx hb hr hlk (by decide +kernel : decode cX12_count 125 = .ok (.ireturn, 1))))))
    (ms_b (ms_lf (ms_aload_n (k := 0) hx hb rfl (by decide +kernel : decode cX12_count 126 = .ok (.aload_n 0, 1))))
    (ms_b (ms_lf (ms_getf (C := RX12) (T := TX12) (N := 80) hx hb hf hts (fun w h => hAW w (inq_12 w h)) hown hK rfl (by decide) (hts _ (hAW _ qw_1472)) rfl (by decide +kernel : decode cX12_count 127 = .ok (.getfield 134, 3))))
    (ms_lf (ms_bipush hx hb (by decide) (by decide +kernel : decode cX12_count 130 = .ok (.bipush 50, 2)))))))
    (ms_b (ms_b (ms_lf (ms_iald hx hb hf hA hX (by decide +kernel : decode cX12_count 132 = .ok (.iaload, 1))))
    (ms_b (ms_lf (ms_iret hx hb hr hlk (by decide +kernel : decode cX12_count 133 = .ok (.ireturn, 1))))
    (ms_lf (ms_aload_n (k := 0) hx hb rfl (by decide +kernel : decode cX12_count 134 = .ok (.aload_n 0, 1))))))
    (ms_b (ms_b (ms_lf (ms_getf (C := RX12) (T := TX12) (N := 80) hx hb hf hts (fun w h => hAW w (inq_12 w h)) hown hK rfl (by decide) (hts _ (hAW _ qw_1474)) rfl (by decide +kernel : decode cX12_count 135 = .ok (.getfield 370, 3))))
    (ms_lf (ms_iret hx hb hr hlk (by decide +kernel : decode cX12_count 138 = .ok (.ireturn, 1)))))
    (ms_b (ms_lf (ms_iconst hx hb (by decide) (by decide +kernel : decode cX12_count 139 = .ok (.iconst 0, 1))))
    (ms_lf (ms_istore_n (k := 3) hx hb rfl (by decide : 3 < 4) (by decide +kernel : decode cX12_count 140 = .ok (.istore_n 3, 1))))))))
    (ms_b (ms_b (ms_b (ms_lf (ms_iload_n (k := 3) hx hb rfl (by decide +kernel : decode cX12_count 141 = .ok (.iload_n 3, 1))))
    (ms_b (ms_lf (ms_aload_n (k := 0) hx hb rfl (by decide +kernel : decode cX12_count 142 = .ok (.aload_n 0, 1))))
    (ms_lf (ms_ivV (C := RX12) (T := TX12) (N := 80) hx hb hml hown hts hgo hEX hf hK rfl (mm_GV hAW (mm_GI hAW gi_208) qw_1778 qw_1780 qw_75 qw_137) rfl ⟨rfl, hd_208⟩ (mm_rm hRf hRl (Nat.le_of_ble_eq_true rfl)) (by decide +kernel : decode cX12_count 143 = .ok (.invokevirtual 363, 3))))))
    (ms_b (ms_lf (ms_ic_ge hx hb (by decide) (by decide +kernel : decode cX12_count 146 = .ok (.if_icmp .ge 24, 3))))
    (ms_b (ms_lf (ms_aload_n (k := 0) hx hb rfl (by decide +kernel : decode cX12_count 149 = .ok (.aload_n 0, 1))))
    (ms_lf (ms_getf (C := RX12) (T := TX12) (N := 80) hx hb hf hts (fun w h => hAW w (inq_12 w h)) hown hK rfl (by decide) (hts _ (hAW _ qw_1472)) rfl (by decide +kernel : decode cX12_count 150 = .ok (.getfield 134, 3)))))))
    (ms_b (ms_b (ms_lf (ms_iload_n (k := 3) hx hb rfl (by decide +kernel : decode cX12_count 153 = .ok (.iload_n 3, 1))))
    (ms_b (ms_lf (ms_iald hx hb hf hA hX (by decide +kernel : decode cX12_count 154 = .ok (.iaload, 1))))
    (ms_lf (ms_if_le hx hb (by decide) (by decide +kernel : decode cX12_count 155 = .ok (.ifCond .le 9, 3))))))
    (ms_b (ms_b (ms_lf (ms_iload_n (k := 2) hx hb rfl (by decide +kernel : decode cX12_count 158 = .ok (.iload_n 2, 1))))
    (ms_lf (ms_iconst hx hb (by decide) (by decide +kernel : decode cX12_count 159 = .ok (.iconst 1, 1)))))
    (ms_b (ms_lf (ms_iload_n (k := 3) hx hb rfl (by decide +kernel : decode cX12_count 160 = .ok (.iload_n 3, 1))))
    (ms_lf (ms_ishl hx hb (by decide +kernel : decode cX12_count 161 = .ok (.ishl, 1))))))))))
    (ms_b (ms_b (ms_b (ms_b (ms_b (ms_lf (ms_ior hx hb (by decide +kernel : decode cX12_count 162 = .ok (.ior, 1))))
    (ms_b (ms_lf (ms_istore_n (k := 2) hx hb rfl (by decide : 2 < 4) (by decide +kernel : decode cX12_count 163 = .ok (.istore_n 2, 1))))
    (ms_lf (ms_iinc hx hb (by decide) (by decide : 3 < 4) (by decide +kernel : decode cX12_count 164 = .ok (.iinc 3 1, 3))))))
    (ms_b (ms_lf (ms_goto hx hb (by decide) (by decide +kernel : decode cX12_count 167 = .ok (.goto (-26), 3))))
    (ms_b (ms_lf (ms_iload_n (k := 2) hx hb rfl (by decide +kernel : decode cX12_count 170 = .ok (.iload_n 2, 1))))
    (ms_lf (ms_iret hx hb hr hlk (by decide +kernel : decode cX12_count 171 = .ok (.ireturn, 1)))))))
    (ms_b (ms_b (ms_lf (ms_iconst hx hb (by decide) (by decide +kernel : decode cX12_count 172 = .ok (.iconst 0, 1))))
    (ms_b (ms_lf (ms_istore_n (k := 3) hx hb rfl (by decide : 3 < 4) (by decide +kernel : decode cX12_count 173 = .ok (.istore_n 3, 1))))
    (ms_lf (ms_iload_n (k := 3) hx hb rfl (by decide +kernel : decode cX12_count 174 = .ok (.iload_n 3, 1))))))
    (ms_b (ms_b (ms_lf (ms_aload_n (k := 0) hx hb rfl (by decide +kernel : decode cX12_count 175 = .ok (.aload_n 0, 1))))
    (ms_lf (ms_ivV (C := RX12) (T := TX12) (N := 80) hx hb hml hown hts hgo hEX hf hK rfl (mm_GV hAW (mm_GI hAW gi_208) qw_1778 qw_1780 qw_75 qw_137) rfl ⟨rfl, hd_208⟩ (mm_rm hRf hRl (Nat.le_of_ble_eq_true rfl)) (by decide +kernel : decode cX12_count 176 = .ok (.invokevirtual 363, 3)))))
    (ms_b (ms_lf (ms_ic_ge hx hb (by decide) (by decide +kernel : decode cX12_count 179 = .ok (.if_icmp .ge 18, 3))))
    (ms_lf (ms_iload_n (k := 2) hx hb rfl (by decide +kernel : decode cX12_count 182 = .ok (.iload_n 2, 1))))))))
    (ms_b (ms_b (ms_b (ms_lf (ms_aload_n (k := 0) hx hb rfl (by decide +kernel : decode cX12_count 183 = .ok (.aload_n 0, 1))))
    (ms_b (ms_lf (ms_getf (C := RX12) (T := TX12) (N := 80) hx hb hf hts (fun w h => hAW w (inq_12 w h)) hown hK rfl (by decide) (hts _ (hAW _ qw_1472)) rfl (by decide +kernel : decode cX12_count 184 = .ok (.getfield 134, 3))))
    (ms_lf (ms_iload_n (k := 3) hx hb rfl (by decide +kernel : decode cX12_count 187 = .ok (.iload_n 3, 1))))))
    (ms_b (ms_lf (ms_iald hx hb hf hA hX (by decide +kernel : decode cX12_count 188 = .ok (.iaload, 1))))
    (ms_b (ms_lf (ms_iadd hx hb (by decide +kernel : decode cX12_count 189 = .ok (.iadd, 1))))
    (ms_lf (ms_istore_n (k := 2) hx hb rfl (by decide : 2 < 4) (by decide +kernel : decode cX12_count 190 = .ok (.istore_n 2, 1)))))))
    (ms_b (ms_b (ms_lf (ms_iinc hx hb (by decide) (by decide : 3 < 4) (by decide +kernel : decode cX12_count 191 = .ok (.iinc 3 1, 3))))
    (ms_b (ms_lf (ms_goto hx hb (by decide) (by decide +kernel : decode cX12_count 194 = .ok (.goto (-20), 3))))
    (ms_lf (ms_iload_n (k := 2) hx hb rfl (by decide +kernel : decode cX12_count 197 = .ok (.iload_n 2, 1))))))
    (ms_b (ms_b (ms_lf (ms_iret hx hb hr hlk (by decide +kernel : decode cX12_count 198 = .ok (.ireturn, 1))))
    (ms_lf (ms_aload_n (k := 0) hx hb rfl (by decide +kernel : decode cX12_count 199 = .ok (.aload_n 0, 1)))))
    (ms_b (ms_lf (ms_getf (C := RX12) (T := TX12) (N := 80) hx hb hf hts (fun w h => hAW w (inq_12 w h)) hown hK rfl (by decide) (hts _ (hAW _ qw_1417)) rfl (by decide +kernel : decode cX12_count 200 = .ok (.getfield 205, 3))))
    (ms_lf (ms_iret hx hb hr hlk (by decide +kernel : decode cX12_count 203 = .ok (.ireturn, 1)))))))))
    (ms_b (ms_b (ms_b (ms_b (ms_lf (ms_aload_n (k := 0) hx hb rfl (by decide +kernel : decode cX12_count 204 = .ok (.aload_n 0, 1))))
    (ms_b (ms_lf (ms_getf (C := RX12) (T := TX12) (N := 80) hx hb hf hts (fun w h => hAW w (inq_12 w h)) hown hK rfl (by decide) (hts _ (hAW _ qw_1475)) rfl (by decide +kernel : decode cX12_count 205 = .ok (.getfield 298, 3))))
    (ms_lf (ms_iret hx hb hr hlk (by decide +kernel : decode cX12_count 208 = .ok (.ireturn, 1))))))
    (ms_b (ms_lf (ms_aload_n (k := 0) hx hb rfl (by decide +kernel : decode cX12_count 209 = .ok (.aload_n 0, 1))))
    (ms_b (ms_lf (ms_getf (C := RX12) (T := TX12) (N := 80) hx hb hf hts (fun w h => hAW w (inq_12 w h)) hown hK rfl (by decide) (hts _ (hAW _ qw_1487)) rfl (by decide +kernel : decode cX12_count 210 = .ok (.getfield 301, 3))))
    (ms_lf (ms_iret hx hb hr hlk (by decide +kernel : decode cX12_count 213 = .ok (.ireturn, 1)))))))
    (ms_b (ms_b (ms_lf (ms_aload_n (k := 0) hx hb rfl (by decide +kernel : decode cX12_count 214 = .ok (.aload_n 0, 1))))
    (ms_b (ms_lf (ms_getf (C := RX12) (T := TX12) (N := 80) hx hb hf hts (fun w h => hAW w (inq_12 w h)) hown hK rfl (by decide) (hts _ (hAW _ qw_1493)) rfl (by decide +kernel : decode cX12_count 215 = .ok (.getfield 182, 3))))
    (ms_lf (ms_iconst hx hb (by decide) (by decide +kernel : decode cX12_count 218 = .ok (.iconst 0, 1))))))
    (ms_b (ms_b (ms_lf (ms_bald hx hb hf hA (by decide +kernel : decode cX12_count 219 = .ok (.baload, 1))))
    (ms_lf (ms_if_eq hx hb (by decide) (by decide +kernel : decode cX12_count 220 = .ok (.ifCond .eq 7, 3)))))
    (ms_b (ms_lf (ms_iconst hx hb (by decide) (by decide +kernel : decode cX12_count 223 = .ok (.iconst 1, 1))))
    (ms_lf (ms_goto hx hb (by decide) (by decide +kernel : decode cX12_count 224 = .ok (.goto 4, 3))))))))
    (ms_b (ms_b (ms_b (ms_lf (ms_iconst hx hb (by decide) (by decide +kernel : decode cX12_count 227 = .ok (.iconst 0, 1))))
    (ms_b (ms_lf (ms_aload_n (k := 0) hx hb rfl (by decide +kernel : decode cX12_count 228 = .ok (.aload_n 0, 1))))
    (ms_lf (ms_getf (C := RX12) (T := TX12) (N := 80) hx hb hf hts (fun w h => hAW w (inq_12 w h)) hown hK rfl (by decide) (hts _ (hAW _ qw_1493)) rfl (by decide +kernel : decode cX12_count 229 = .ok (.getfield 182, 3))))))
    (ms_b (ms_b (ms_lf (ms_iconst hx hb (by decide) (by decide +kernel : decode cX12_count 232 = .ok (.iconst 1, 1))))
    (ms_lf (ms_bald hx hb hf hA (by decide +kernel : decode cX12_count 233 = .ok (.baload, 1)))))
    (ms_b (ms_lf (ms_if_eq hx hb (by decide) (by decide +kernel : decode cX12_count 234 = .ok (.ifCond .eq 7, 3))))
    (ms_lf (ms_iconst hx hb (by decide) (by decide +kernel : decode cX12_count 237 = .ok (.iconst 1, 1)))))))
    (ms_b (ms_b (ms_lf (ms_goto hx hb (by decide) (by decide +kernel : decode cX12_count 238 = .ok (.goto 4, 3))))
    (ms_b (ms_lf (ms_iconst hx hb (by decide) (by decide +kernel : decode cX12_count 241 = .ok (.iconst 0, 1))))
    (ms_lf (ms_iadd hx hb (by decide +kernel : decode cX12_count 242 = .ok (.iadd, 1))))))
    (ms_b (ms_b (ms_lf (ms_aload_n (k := 0) hx hb rfl (by decide +kernel : decode cX12_count 243 = .ok (.aload_n 0, 1))))
    (ms_lf (ms_getf (C := RX12) (T := TX12) (N := 80) hx hb hf hts (fun w h => hAW w (inq_12 w h)) hown hK rfl (by decide) (hts _ (hAW _ qw_1493)) rfl (by decide +kernel : decode cX12_count 244 = .ok (.getfield 182, 3)))))
    (ms_b (ms_lf (ms_iconst hx hb (by decide) (by decide +kernel : decode cX12_count 247 = .ok (.iconst 2, 1))))
    (ms_lf (ms_bald hx hb hf hA (by decide +kernel : decode cX12_count 248 = .ok (.baload, 1)))))))))))
    (ms_b (ms_b (ms_b (ms_b (ms_b (ms_b (ms_lf (ms_if_eq hx hb (by decide) (by decide +kernel : decode cX12_count 249 = .ok (.ifCond .eq 7, 3))))
    (ms_b (ms_lf (ms_iconst hx hb (by decide) (by decide +kernel : decode cX12_count 252 = .ok (.iconst 1, 1))))
    (ms_lf (ms_goto hx hb (by decide) (by decide +kernel : decode cX12_count 253 = .ok (.goto 4, 3))))))
    (ms_b (ms_lf (ms_iconst hx hb (by decide) (by decide +kernel : decode cX12_count 256 = .ok (.iconst 0, 1))))
    (ms_b (ms_lf (ms_iadd hx hb (by decide +kernel : decode cX12_count 257 = .ok (.iadd, 1))))
    (ms_lf (ms_iret hx hb hr hlk (by decide +kernel : decode cX12_count 258 = .ok (.ireturn, 1)))))))
    (ms_b (ms_b (ms_lf (ms_aload_n (k := 0) hx hb rfl (by decide +kernel : decode cX12_count 259 = .ok (.aload_n 0, 1))))
    (ms_b (ms_lf (ms_getf (C := RX12) (T := TX12) (N := 80) hx hb hf hts (fun w h => hAW w (inq_12 w h)) hown hK rfl (by decide) (hts _ (hAW _ qw_1472)) rfl (by decide +kernel : decode cX12_count 260 = .ok (.getfield 134, 3))))
    (ms_lf (ms_bipush hx hb (by decide) (by decide +kernel : decode cX12_count 263 = .ok (.bipush 46, 2))))))
    (ms_b (ms_b (ms_lf (ms_iald hx hb hf hA hX (by decide +kernel : decode cX12_count 265 = .ok (.iaload, 1))))
    (ms_lf (ms_aload_n (k := 0) hx hb rfl (by decide +kernel : decode cX12_count 266 = .ok (.aload_n 0, 1)))))
    (ms_b (ms_lf (ms_getf (C := RX12) (T := TX12) (N := 80) hx hb hf hts (fun w h => hAW w (inq_12 w h)) hown hK rfl (by decide) (hts _ (hAW _ qw_1472)) rfl (by decide +kernel : decode cX12_count 267 = .ok (.getfield 134, 3))))
    (ms_lf (ms_bipush hx hb (by decide) (by decide +kernel : decode cX12_count 270 = .ok (.bipush 47, 2))))))))
    (ms_b (ms_b (ms_b (ms_lf (ms_iald hx hb hf hA hX (by decide +kernel : decode cX12_count 272 = .ok (.iaload, 1))))
    (ms_b (ms_lf (ms_iadd hx hb (by decide +kernel : decode cX12_count 273 = .ok (.iadd, 1))))
    (ms_lf (ms_aload_n (k := 0) hx hb rfl (by decide +kernel : decode cX12_count 274 = .ok (.aload_n 0, 1))))))
    (ms_b (ms_lf (ms_getf (C := RX12) (T := TX12) (N := 80) hx hb hf hts (fun w h => hAW w (inq_12 w h)) hown hK rfl (by decide) (hts _ (hAW _ qw_1472)) rfl (by decide +kernel : decode cX12_count 275 = .ok (.getfield 134, 3))))
    (ms_b (ms_lf (ms_bipush hx hb (by decide) (by decide +kernel : decode cX12_count 278 = .ok (.bipush 48, 2))))
    (ms_lf (ms_iald hx hb hf hA hX (by decide +kernel : decode cX12_count 280 = .ok (.iaload, 1)))))))
    (ms_b (ms_b (ms_lf (ms_iadd hx hb (by decide +kernel : decode cX12_count 281 = .ok (.iadd, 1))))
    (ms_b (ms_lf (ms_iret hx hb hr hlk (by decide +kernel : decode cX12_count 282 = .ok (.ireturn, 1))))
    (ms_lf (ms_iconst hx hb (by decide) (by decide +kernel : decode cX12_count 283 = .ok (.iconst 0, 1))))))
    (ms_b (ms_b (ms_lf (ms_istore_n (k := 3) hx hb rfl (by decide : 3 < 4) (by decide +kernel : decode cX12_count 284 = .ok (.istore_n 3, 1))))
    (ms_lf (ms_iload_n (k := 3) hx hb rfl (by decide +kernel : decode cX12_count 285 = .ok (.iload_n 3, 1)))))
    (ms_b (ms_lf (ms_aload_n (k := 0) hx hb rfl (by decide +kernel : decode cX12_count 286 = .ok (.aload_n 0, 1))))
    (ms_lf (ms_getf (C := RX12) (T := TX12) (N := 80) hx hb hf hts (fun w h => hAW w (inq_12 w h)) hown hK rfl (by decide) (hts _ (hAW _ qw_1446)) rfl (by decide +kernel : decode cX12_count 287 = .ok (.getfield 70, 3)))))))))
    (ms_b (ms_b (ms_b (ms_b (ms_lf (ms_aload_n (k := 0) hx hb rfl (by decide +kernel : decode cX12_count 290 = .ok (.aload_n 0, 1))))
    (ms_b (ms_lf (ms_getf (C := RX12) (T := TX12) (N := 80) hx hb hf hts (fun w h => hAW w (inq_12 w h)) hown hK rfl (by decide) (hts _ (hAW _ qw_1433)) rfl (by decide +kernel : decode cX12_count 291 = .ok (.getfield 272, 3))))
    (ms_lf (ms_iald hx hb hf hA hX (by decide +kernel : decode cX12_count 294 = .ok (.iaload, 1))))))
    (ms_b (ms_lf (ms_ic_ge hx hb (by decide) (by decide +kernel : decode cX12_count 295 = .ok (.if_icmp .ge 23, 3))))
    (ms_b (ms_lf (ms_iload_n (k := 2) hx hb rfl (by decide +kernel : decode cX12_count 298 = .ok (.iload_n 2, 1))))
    (ms_lf (ms_iconst hx hb (by decide) (by decide +kernel : decode cX12_count 299 = .ok (.iconst 1, 1)))))))
    (ms_b (ms_b (ms_lf (ms_aload_n (k := 0) hx hb rfl (by decide +kernel : decode cX12_count 300 = .ok (.aload_n 0, 1))))
    (ms_b (ms_lf (ms_getf (C := RX12) (T := TX12) (N := 80) hx hb hf hts (fun w h => hAW w (inq_12 w h)) hown hK rfl (by decide) (hts _ (hAW _ qw_1472)) rfl (by decide +kernel : decode cX12_count 301 = .ok (.getfield 134, 3))))
    (ms_lf (ms_bipush hx hb (by decide) (by decide +kernel : decode cX12_count 304 = .ok (.bipush 43, 2))))))
    (ms_b (ms_b (ms_lf (ms_iload_n (k := 3) hx hb rfl (by decide +kernel : decode cX12_count 306 = .ok (.iload_n 3, 1))))
    (ms_lf (ms_iadd hx hb (by decide +kernel : decode cX12_count 307 = .ok (.iadd, 1)))))
    (ms_b (ms_lf (ms_iald hx hb hf hA hX (by decide +kernel : decode cX12_count 308 = .ok (.iaload, 1))))
    (ms_lf (ms_ishl hx hb (by decide +kernel : decode cX12_count 309 = .ok (.ishl, 1))))))))
    (ms_b (ms_b (ms_b (ms_lf (ms_ior hx hb (by decide +kernel : decode cX12_count 310 = .ok (.ior, 1))))
    (ms_b (ms_lf (ms_istore_n (k := 2) hx hb rfl (by decide : 2 < 4) (by decide +kernel : decode cX12_count 311 = .ok (.istore_n 2, 1))))
    (ms_lf (ms_iinc hx hb (by decide) (by decide : 3 < 4) (by decide +kernel : decode cX12_count 312 = .ok (.iinc 3 1, 3))))))
    (ms_b (ms_b (ms_lf (ms_goto hx hb (by decide) (by decide +kernel : decode cX12_count 315 = .ok (.goto (-30), 3))))
    (ms_lf (ms_iload_n (k := 2) hx hb rfl (by decide +kernel : decode cX12_count 318 = .ok (.iload_n 2, 1)))))
    (ms_b (ms_lf (ms_iret hx hb hr hlk (by decide +kernel : decode cX12_count 319 = .ok (.ireturn, 1))))
    (ms_lf (ms_iconst hx hb (by decide) (by decide +kernel : decode cX12_count 320 = .ok (.iconst 0, 1)))))))
    (ms_b (ms_b (ms_lf (ms_istore_n (k := 3) hx hb rfl (by decide : 3 < 4) (by decide +kernel : decode cX12_count 321 = .ok (.istore_n 3, 1))))
    (ms_b (ms_lf (ms_iload_n (k := 3) hx hb rfl (by decide +kernel : decode cX12_count 322 = .ok (.iload_n 3, 1))))
    (ms_lf (ms_aload_n (k := 0) hx hb rfl (by decide +kernel : decode cX12_count 323 = .ok (.aload_n 0, 1))))))
    (ms_b (ms_b (ms_lf (ms_ivV (C := RX12) (T := TX12) (N := 80) hx hb hml hown hts hgo hEX hf hK rfl (mm_GV hAW (mm_GI hAW gi_208) qw_1778 qw_1780 qw_75 qw_137) rfl ⟨rfl, hd_208⟩ (mm_rm hRf hRl (Nat.le_of_ble_eq_true rfl)) (by decide +kernel : decode cX12_count 324 = .ok (.invokevirtual 363, 3))))
    (ms_lf (ms_ic_ge hx hb (by decide) (by decide +kernel : decode cX12_count 327 = .ok (.if_icmp .ge 26, 3)))))
    (ms_b (ms_lf (ms_aload_n (k := 0) hx hb rfl (by decide +kernel : decode cX12_count 330 = .ok (.aload_n 0, 1))))
    (ms_lf (ms_getf (C := RX12) (T := TX12) (N := 80) hx hb hf hts (fun w h => hAW w (inq_12 w h)) hown hK rfl (by decide) (hts _ (hAW _ qw_1472)) rfl (by decide +kernel : decode cX12_count 331 = .ok (.getfield 134, 3))))))))))
    (ms_b (ms_b (ms_b (ms_b (ms_b (ms_lf (ms_iload_n (k := 3) hx hb rfl (by decide +kernel : decode cX12_count 334 = .ok (.iload_n 3, 1))))
    (ms_b (ms_lf (ms_iald hx hb hf hA hX (by decide +kernel : decode cX12_count 335 = .ok (.iaload, 1))))
    (ms_lf (ms_iload_n (k := 2) hx hb rfl (by decide +kernel : decode cX12_count 336 = .ok (.iload_n 2, 1))))))
    (ms_b (ms_lf (ms_ic_le hx hb (by decide) (by decide +kernel : decode cX12_count 337 = .ok (.if_icmp .le 10, 3))))
    (ms_b (ms_lf (ms_aload_n (k := 0) hx hb rfl (by decide +kernel : decode cX12_count 340 = .ok (.aload_n 0, 1))))
    (ms_lf (ms_getf (C := RX12) (T := TX12) (N := 80) hx hb hf hts (fun w h => hAW w (inq_12 w h)) hown hK rfl (by decide) (hts _ (hAW _ qw_1472)) rfl (by decide +kernel : decode cX12_count 341 = .ok (.getfield 134, 3)))))))
    (ms_b (ms_b (ms_lf (ms_iload_n (k := 3) hx hb rfl (by decide +kernel : decode cX12_count 344 = .ok (.iload_n 3, 1))))
    (ms_b (ms_lf (ms_iald hx hb hf hA hX (by decide +kernel : decode cX12_count 345 = .ok (.iaload, 1))))
    (ms_lf (ms_istore_n (k := 2) hx hb rfl (by decide : 2 < 4) (by decide +kernel : decode cX12_count 346 = .ok (.istore_n 2, 1))))))
    (ms_b (ms_b (ms_lf (ms_iinc hx hb (by decide) (by decide : 3 < 4) (by decide +kernel : decode cX12_count 347 = .ok (.iinc 3 1, 3))))
    (ms_lf (ms_goto hx hb (by decide) (by decide +kernel : decode cX12_count 350 = .ok (.goto (-28), 3)))))
    (ms_b (ms_lf (ms_iload_n (k := 2) hx hb rfl (by decide +kernel : decode cX12_count 353 = .ok (.iload_n 2, 1))))
    (ms_lf (ms_iret hx hb hr hlk (by decide +kernel : decode cX12_count 354 = .ok (.ireturn, 1))))))))
    (ms_b (ms_b (ms_b (ms_lf (ms_iconst hx hb (by decide) (by decide +kernel : decode cX12_count 355 = .ok (.iconst 0, 1))))
    (ms_b (ms_lf (ms_istore_n (k := 3) hx hb rfl (by decide : 3 < 4) (by decide +kernel : decode cX12_count 356 = .ok (.istore_n 3, 1))))
    (ms_lf (ms_iload_n (k := 3) hx hb rfl (by decide +kernel : decode cX12_count 357 = .ok (.iload_n 3, 1))))))
    (ms_b (ms_lf (ms_aload_n (k := 0) hx hb rfl (by decide +kernel : decode cX12_count 358 = .ok (.aload_n 0, 1))))
    (ms_b (ms_lf (ms_getf (C := RX12) (T := TX12) (N := 80) hx hb hf hts (fun w h => hAW w (inq_12 w h)) hown hK rfl (by decide) (hts _ (hAW _ qw_1446)) rfl (by decide +kernel : decode cX12_count 359 = .ok (.getfield 70, 3))))
    (ms_lf (ms_aload_n (k := 0) hx hb rfl (by decide +kernel : decode cX12_count 362 = .ok (.aload_n 0, 1)))))))
    (ms_b (ms_b (ms_lf (ms_getf (C := RX12) (T := TX12) (N := 80) hx hb hf hts (fun w h => hAW w (inq_12 w h)) hown hK rfl (by decide) (hts _ (hAW _ qw_1433)) rfl (by decide +kernel : decode cX12_count 363 = .ok (.getfield 272, 3))))
    (ms_b (ms_lf (ms_iald hx hb hf hA hX (by decide +kernel : decode cX12_count 366 = .ok (.iaload, 1))))
    (ms_lf (ms_ic_ge hx hb (by decide) (by decide +kernel : decode cX12_count 367 = .ok (.if_icmp .ge 23, 3))))))
    (ms_b (ms_b (ms_lf (ms_aload_n (k := 0) hx hb rfl (by decide +kernel : decode cX12_count 370 = .ok (.aload_n 0, 1))))
    (ms_lf (ms_iload_n (k := 3) hx hb rfl (by decide +kernel : decode cX12_count 371 = .ok (.iload_n 3, 1)))))
    (ms_b (ms_lf (ms_ivV (C := RX12) (T := TX12) (N := 80) hx hb hml hown hts hgo hEX hf hK rfl (mm_GV hAW (mm_GI hAW gi_286) qw_2085 qw_2087 qw_115 qw_137) rfl ⟨rfl, hd_286⟩ (mm_rm hRf hRl (Nat.le_of_ble_eq_true rfl)) (by decide +kernel : decode cX12_count 372 = .ok (.invokevirtual 523, 3))))
    (ms_lf (ms_if_eq hx hb (by decide) (by decide +kernel : decode cX12_count 375 = .ok (.ifCond .eq 9, 3)))))))))
    (ms_b (ms_b (ms_b (ms_b (ms_lf (ms_iload_n (k := 2) hx hb rfl (by decide +kernel : decode cX12_count 378 = .ok (.iload_n 2, 1))))
    (ms_b (ms_lf (ms_iconst hx hb (by decide) (by decide +kernel : decode cX12_count 379 = .ok (.iconst 1, 1))))
    (ms_lf (ms_iload_n (k := 3) hx hb rfl (by decide +kernel : decode cX12_count 380 = .ok (.iload_n 3, 1))))))
    (ms_b (ms_lf (ms_ishl hx hb (by decide +kernel : decode cX12_count 381 = .ok (.ishl, 1))))
    (ms_b (ms_lf (ms_ior hx hb (by decide +kernel : decode cX12_count 382 = .ok (.ior, 1))))
    (ms_lf (ms_istore_n (k := 2) hx hb rfl (by decide : 2 < 4) (by decide +kernel : decode cX12_count 383 = .ok (.istore_n 2, 1)))))))
    (ms_b (ms_b (ms_lf (ms_iinc hx hb (by decide) (by decide : 3 < 4) (by decide +kernel : decode cX12_count 384 = .ok (.iinc 3 1, 3))))
    (ms_b (ms_lf (ms_goto hx hb (by decide) (by decide +kernel : decode cX12_count 387 = .ok (.goto (-30), 3))))
    (ms_lf (ms_iload_n (k := 2) hx hb rfl (by decide +kernel : decode cX12_count 390 = .ok (.iload_n 2, 1))))))
    (ms_b (ms_b (ms_lf (ms_iret hx hb hr hlk (by decide +kernel : decode cX12_count 391 = .ok (.ireturn, 1))))
    (ms_lf (ms_aload_n (k := 0) hx hb rfl (by decide +kernel : decode cX12_count 392 = .ok (.aload_n 0, 1)))))
    (ms_b (ms_lf (ms_getf (C := RX12) (T := TX12) (N := 80) hx hb hf hts (fun w h => hAW w (inq_12 w h)) hown hK rfl (by decide) (hts _ (hAW _ qw_1472)) rfl (by decide +kernel : decode cX12_count 393 = .ok (.getfield 134, 3))))
    (ms_lf (ms_bipush hx hb (by decide) (by decide +kernel : decode cX12_count 396 = .ok (.bipush 25, 2))))))))
    (ms_b (ms_b (ms_b (ms_lf (ms_iald hx hb hf hA hX (by decide +kernel : decode cX12_count 398 = .ok (.iaload, 1))))
    (ms_b (ms_lf (ms_aload_n (k := 0) hx hb rfl (by decide +kernel : decode cX12_count 399 = .ok (.aload_n 0, 1))))
    (ms_lf (ms_getf (C := RX12) (T := TX12) (N := 80) hx hb hf hts (fun w h => hAW w (inq_12 w h)) hown hK rfl (by decide) (hts _ (hAW _ qw_1472)) rfl (by decide +kernel : decode cX12_count 400 = .ok (.getfield 134, 3))))))
    (ms_b (ms_b (ms_lf (ms_bipush hx hb (by decide) (by decide +kernel : decode cX12_count 403 = .ok (.bipush 31, 2))))
    (ms_lf (ms_iald hx hb hf hA hX (by decide +kernel : decode cX12_count 405 = .ok (.iaload, 1)))))
    (ms_b (ms_lf (ms_iadd hx hb (by decide +kernel : decode cX12_count 406 = .ok (.iadd, 1))))
    (ms_lf (ms_aload_n (k := 0) hx hb rfl (by decide +kernel : decode cX12_count 407 = .ok (.aload_n 0, 1)))))))
    (ms_b (ms_b (ms_lf (ms_getf (C := RX12) (T := TX12) (N := 80) hx hb hf hts (fun w h => hAW w (inq_12 w h)) hown hK rfl (by decide) (hts _ (hAW _ qw_1472)) rfl (by decide +kernel : decode cX12_count 408 = .ok (.getfield 134, 3))))
    (ms_b (ms_lf (ms_bipush hx hb (by decide) (by decide +kernel : decode cX12_count 411 = .ok (.bipush 37, 2))))
    (ms_lf (ms_iald hx hb hf hA hX (by decide +kernel : decode cX12_count 413 = .ok (.iaload, 1))))))
    (ms_b (ms_b (ms_lf (ms_iadd hx hb (by decide +kernel : decode cX12_count 414 = .ok (.iadd, 1))))
    (ms_lf (ms_iret hx hb hr hlk (by decide +kernel : decode cX12_count 415 = .ok (.ireturn, 1)))))
    (ms_b (ms_lf (ms_iconst hx hb (by decide) (by decide +kernel : decode cX12_count 416 = .ok (.iconst (-1), 1))))
    (ms_lf (ms_iret hx hb hr hlk (by decide +kernel : decode cX12_count 417 = .ok (.ireturn, 1))))))))))))
set_option maxRecDepth 100000 in
set_option maxHeartbeats 8000000 in
/-- java/lang/String.length -/
theorem sd_288 (l : Launch) (f : Nat → Nat) (D : va_G) (cA : FieldType → ClassId) (d : Nat) : mm_Ok2 l f D cA d (yJ0_length_8abf5, cJ0_length_8abf5, 1, (some .int), mc_288) := by
  intro p e R s m args below meth c C hRf hRl pc
  obtain ⟨hx, hb, hml, hr, hlk, hnm, hown, hts, hEX, hgo, hf⟩ := C
  obtain ⟨hK, hA, hX, hZs, hZc, hZq, hTx, hSR0, hSR1, hAO, hN⟩ := id hEX
  have hAW : ∀ w ∈ mm_AW, w ∈ (Cond.code yJ0_length_8abf5 cJ0_length_8abf5 1 (some .int) :: mm_AW) := fun w h => List.mem_cons_of_mem _ h
  have hown : s.vm.findClass "java/lang/String" = some m.cls := hown
  show mm_S p l e R s m args below meth c f D mm_cl cA 1 _ pc (mc_288 pc)
  unfold mc_288
  exact (ms_b (ms_b (ms_lf (ms_aload_n (k := 0) hx hb rfl (by decide +kernel : decode cJ0_length_8abf5 0 = .ok (.aload_n 0, 1))))
    (ms_b (ms_lf (ms_sgv (SB := mm_sb) hx hb hown hTx (hts _ (hAW _ qw_2089)) (by decide +kernel : decode cJ0_length_8abf5 1 = .ok (.getfield 9, 3))))
    (ms_lf (ms_xlen hx hb hTx (by decide +kernel : decode cJ0_length_8abf5 4 = .ok (.arraylength, 1))))))
    (ms_b (ms_b (ms_lf (ms_aload_n (k := 0) hx hb rfl (by decide +kernel : decode cJ0_length_8abf5 5 = .ok (.aload_n 0, 1))))
    (ms_lf (ms_ivX (SB := mm_sb) hx hb hml hown hts hgo hEX hTx (mm_GV hAW (mm_GI hAW gi_292) qw_157 qw_158 qw_159 qw_119) rfl ⟨rfl, hd_292⟩ (mm_rm hRf hRl (Nat.le_of_ble_eq_true rfl)) (by decide +kernel : decode cJ0_length_8abf5 6 = .ok (.invokevirtual 335, 3)))))
    (ms_b (ms_lf (ms_ishr hx hb (by decide +kernel : decode cJ0_length_8abf5 9 = .ok (.ishr, 1))))
    (ms_lf (ms_iret hx hb hr hlk (by decide +kernel : decode cJ0_length_8abf5 10 = .ok (.ireturn, 1)))))))
set_option maxRecDepth 100000 in
set_option maxHeartbeats 8000000 in
/-- java/lang/String.charAt -/
theorem sd_289 (l : Launch) (f : Nat → Nat) (D : va_G) (cA : FieldType → ClassId) (d : Nat) : mm_Ok2 l f D cA d (yJ0_charAt_5068e, cJ0_charAt_5068e, 2, (some .char), mc_289) := by
  intro p e R s m args below meth c C hRf hRl pc
  obtain ⟨hx, hb, hml, hr, hlk, hnm, hown, hts, hEX, hgo, hf⟩ := C
  obtain ⟨hK, hA, hX, hZs, hZc, hZq, hTx, hSR0, hSR1, hAO, hN⟩ := id hEX
  have hAW : ∀ w ∈ mm_AW, w ∈ (Cond.code yJ0_charAt_5068e cJ0_charAt_5068e 2 (some .char) :: mm_AW) := fun w h => List.mem_cons_of_mem _ h
  have hown : s.vm.findClass "java/lang/String" = some m.cls := hown
  show mm_S p l e R s m args below meth c f D mm_cl cA 2 _ pc (mc_289 pc)
  unfold mc_289
  exact (ms_b (ms_b (ms_b (ms_lf (ms_aload_n (k := 0) hx hb rfl (by decide +kernel : decode cJ0_charAt_5068e 0 = .ok (.aload_n 0, 1))))
    (ms_b (ms_lf (ms_ivX (SB := mm_sb) hx hb hml hown hts hgo hEX hTx (mm_GV hAW (mm_GI hAW gi_293) qw_167 qw_168 qw_169 qw_119) rfl ⟨rfl, hd_293⟩ (mm_rm hRf hRl (Nat.le_of_ble_eq_true rfl)) (by decide +kernel : decode cJ0_charAt_5068e 1 = .ok (.invokevirtual 492, 3))))
    (ms_lf (ms_if_eq hx hb (by decide) (by decide +kernel : decode cJ0_charAt_5068e 4 = .ok (.ifCond .eq 12, 3))))))
    (ms_b (ms_lf (ms_aload_n (k := 0) hx hb rfl (by decide +kernel : decode cJ0_charAt_5068e 7 = .ok (.aload_n 0, 1))))
    (ms_b (ms_lf (ms_sgv (SB := mm_sb) hx hb hown hTx (hts _ (hAW _ qw_2089)) (by decide +kernel : decode cJ0_charAt_5068e 8 = .ok (.getfield 9, 3))))
    (ms_lf (ms_iload_n (k := 1) hx hb rfl (by decide +kernel : decode cJ0_charAt_5068e 11 = .ok (.iload_n 1, 1)))))))
    (ms_b (ms_b (ms_lf (ms_ivS hx hb hml hown hts hgo hEX (mm_GS hAW (mm_GI hAW gi_295) qw_171 qw_172 qw_120) rfl hd_295 (mm_rm hRf hRl (Nat.le_of_ble_eq_true rfl)) (by decide +kernel : decode cJ0_charAt_5068e 12 = .ok (.invokestatic 495, 3))))
    (ms_b (ms_lf (ms_ire hx hb hr hlk (by decide +kernel : decode cJ0_charAt_5068e 15 = .ok (.ireturn, 1))))
    (ms_lf (ms_aload_n (k := 0) hx hb rfl (by decide +kernel : decode cJ0_charAt_5068e 16 = .ok (.aload_n 0, 1))))))
    (ms_b (ms_lf (ms_sgv (SB := mm_sb) hx hb hown hTx (hts _ (hAW _ qw_2089)) (by decide +kernel : decode cJ0_charAt_5068e 17 = .ok (.getfield 9, 3))))
    (ms_b (ms_lf (ms_iload_n (k := 1) hx hb rfl (by decide +kernel : decode cJ0_charAt_5068e 20 = .ok (.iload_n 1, 1))))
    (ms_lf (ms_ire hx hb hr hlk (by decide +kernel : decode cJ0_charAt_5068e 24 = .ok (.ireturn, 1))))))))
set_option maxRecDepth 100000 in
set_option maxHeartbeats 8000000 in
/-- java/lang/String.indexOf -/
theorem sd_290 (l : Launch) (f : Nat → Nat) (D : va_G) (cA : FieldType → ClassId) (d : Nat) : mm_Ok2 l f D cA d (yJ0_indexOf_0f7a4, cJ0_indexOf_0f7a4, 2, (some .int), mc_290) := by
  intro p e R s m args below meth c C hRf hRl pc
  obtain ⟨hx, hb, hml, hr, hlk, hnm, hown, hts, hEX, hgo, hf⟩ := C
  obtain ⟨hK, hA, hX, hZs, hZc, hZq, hTx, hSR0, hSR1, hAO, hN⟩ := id hEX
  have hAW : ∀ w ∈ mm_AW, w ∈ (Cond.code yJ0_indexOf_0f7a4 cJ0_indexOf_0f7a4 2 (some .int) :: mm_AW) := fun w h => List.mem_cons_of_mem _ h
  have hown : s.vm.findClass "java/lang/String" = some m.cls := hown
  show mm_S p l e R s m args below meth c f D mm_cl cA 2 _ pc (mc_290 pc)
  unfold mc_290
  exact (ms_b (ms_b (ms_lf (ms_aload_n (k := 0) hx hb rfl (by decide +kernel : decode cJ0_indexOf_0f7a4 0 = .ok (.aload_n 0, 1))))
    (ms_lf (ms_iload_n (k := 1) hx hb rfl (by decide +kernel : decode cJ0_indexOf_0f7a4 1 = .ok (.iload_n 1, 1)))))
    (ms_b (ms_lf (ms_iconst hx hb (by decide) (by decide +kernel : decode cJ0_indexOf_0f7a4 2 = .ok (.iconst 0, 1))))
    (ms_b (ms_lf (ms_ivX (SB := mm_sb) hx hb hml hown hts hgo hEX hTx (mm_GV hAW (mm_GI hAW gi_291) qw_676 qw_677 qw_678 qw_119) rfl ⟨rfl, hd_291⟩ (mm_rm hRf hRl (Nat.le_of_ble_eq_true rfl)) (by decide +kernel : decode cJ0_indexOf_0f7a4 3 = .ok (.invokevirtual 633, 3))))
    (ms_lf (ms_iret hx hb hr hlk (by decide +kernel : decode cJ0_indexOf_0f7a4 6 = .ok (.ireturn, 1)))))))
set_option maxRecDepth 100000 in
set_option maxHeartbeats 8000000 in
/-- java/lang/String.indexOf -/
theorem sd_291 (l : Launch) (f : Nat → Nat) (D : va_G) (cA : FieldType → ClassId) (d : Nat) : mm_Ok2 l f D cA d (yJ0_indexOf_7cf53, cJ0_indexOf_7cf53, 3, (some .int), mc_291) := by
  intro p e R s m args below meth c C hRf hRl pc
  obtain ⟨hx, hb, hml, hr, hlk, hnm, hown, hts, hEX, hgo, hf⟩ := C
  obtain ⟨hK, hA, hX, hZs, hZc, hZq, hTx, hSR0, hSR1, hAO, hN⟩ := id hEX
  have hAW : ∀ w ∈ mm_AW, w ∈ (Cond.code yJ0_indexOf_7cf53 cJ0_indexOf_7cf53 3 (some .int) :: mm_AW) := fun w h => List.mem_cons_of_mem _ h
  have hown : s.vm.findClass "java/lang/String" = some m.cls := hown
  show mm_S p l e R s m args below meth c f D mm_cl cA 3 _ pc (mc_291 pc)
  unfold mc_291
  exact (ms_b (ms_b (ms_b (ms_b (ms_lf (ms_aload_n (k := 0) hx hb rfl (by decide +kernel : decode cJ0_indexOf_7cf53 0 = .ok (.aload_n 0, 1))))
    (ms_lf (ms_ivX (SB := mm_sb) hx hb hml hown hts hgo hEX hTx (mm_GV hAW (mm_GI hAW gi_293) qw_167 qw_168 qw_169 qw_119) rfl ⟨rfl, hd_293⟩ (mm_rm hRf hRl (Nat.le_of_ble_eq_true rfl)) (by decide +kernel : decode cJ0_indexOf_7cf53 1 = .ok (.invokevirtual 492, 3)))))
    (ms_b (ms_lf (ms_if_eq hx hb (by decide) (by decide +kernel : decode cJ0_indexOf_7cf53 4 = .ok (.ifCond .eq 19, 3))))
    (ms_lf (ms_aload_n (k := 0) hx hb rfl (by decide +kernel : decode cJ0_indexOf_7cf53 7 = .ok (.aload_n 0, 1))))))
    (ms_b (ms_b (ms_lf (ms_sgv (SB := mm_sb) hx hb hown hTx (hts _ (hAW _ qw_2089)) (by decide +kernel : decode cJ0_indexOf_7cf53 8 = .ok (.getfield 9, 3))))
    (ms_lf (ms_iload_n (k := 1) hx hb rfl (by decide +kernel : decode cJ0_indexOf_7cf53 11 = .ok (.iload_n 1, 1)))))
    (ms_b (ms_lf (ms_iload_n (k := 2) hx hb rfl (by decide +kernel : decode cJ0_indexOf_7cf53 12 = .ok (.iload_n 2, 1))))
    (ms_b (ms_lf (ms_aload_n (k := 0) hx hb rfl (by decide +kernel : decode cJ0_indexOf_7cf53 13 = .ok (.aload_n 0, 1))))
    (ms_lf (ms_ivX (SB := mm_sb) hx hb hml hown hts hgo hEX hTx (mm_GV hAW (mm_GI hAW gi_288) qw_680 qw_154 qw_155 qw_119) rfl ⟨rfl, hd_288⟩ (mm_rm hRf hRl (Nat.le_of_ble_eq_true rfl)) (by decide +kernel : decode cJ0_indexOf_7cf53 14 = .ok (.invokevirtual 505, 3))))))))
    (ms_b (ms_b (ms_b (ms_lf (ms_ivS hx hb hml hown hts hgo hEX (mm_GS hAW (mm_GI hAW gi_297) qw_681 qw_682 qw_120) rfl hd_297 (mm_rm hRf hRl (Nat.le_of_ble_eq_true rfl)) (by decide +kernel : decode cJ0_indexOf_7cf53 17 = .ok (.invokestatic 637, 3))))
    (ms_lf (ms_goto hx hb (by decide) (by decide +kernel : decode cJ0_indexOf_7cf53 20 = .ok (.goto 16, 3)))))
    (ms_b (ms_lf (ms_aload_n (k := 0) hx hb rfl (by decide +kernel : decode cJ0_indexOf_7cf53 23 = .ok (.aload_n 0, 1))))
    (ms_lf (ms_sgv (SB := mm_sb) hx hb hown hTx (hts _ (hAW _ qw_2089)) (by decide +kernel : decode cJ0_indexOf_7cf53 24 = .ok (.getfield 9, 3))))))
    (ms_b (ms_b (ms_lf (ms_iload_n (k := 1) hx hb rfl (by decide +kernel : decode cJ0_indexOf_7cf53 27 = .ok (.iload_n 1, 1))))
    (ms_lf (ms_iload_n (k := 2) hx hb rfl (by decide +kernel : decode cJ0_indexOf_7cf53 28 = .ok (.iload_n 2, 1)))))
    (ms_b (ms_lf (ms_aload_n (k := 0) hx hb rfl (by decide +kernel : decode cJ0_indexOf_7cf53 29 = .ok (.aload_n 0, 1))))
    (ms_b (ms_lf (ms_ivX (SB := mm_sb) hx hb hml hown hts hgo hEX hTx (mm_GV hAW (mm_GI hAW gi_288) qw_680 qw_154 qw_155 qw_119) rfl ⟨rfl, hd_288⟩ (mm_rm hRf hRl (Nat.le_of_ble_eq_true rfl)) (by decide +kernel : decode cJ0_indexOf_7cf53 30 = .ok (.invokevirtual 505, 3))))
    (ms_lf (ms_iret hx hb hr hlk (by decide +kernel : decode cJ0_indexOf_7cf53 36 = .ok (.ireturn, 1)))))))))
set_option maxRecDepth 100000 in
set_option maxHeartbeats 8000000 in
/-- java/lang/String.coder -/
theorem sd_292 (l : Launch) (f : Nat → Nat) (D : va_G) (cA : FieldType → ClassId) (d : Nat) : mm_Ok2 l f D cA d (yJ0_coder_7d493, cJ0_coder_7d493, 1, (some .byte), mc_292) := by
  intro p e R s m args below meth c C hRf hRl pc
  obtain ⟨hx, hb, hml, hr, hlk, hnm, hown, hts, hEX, hgo, hf⟩ := C
  obtain ⟨hK, hA, hX, hZs, hZc, hZq, hTx, hSR0, hSR1, hAO, hN⟩ := id hEX
  have hAW : ∀ w ∈ mm_AW, w ∈ (Cond.code yJ0_coder_7d493 cJ0_coder_7d493 1 (some .byte) :: mm_AW) := fun w h => List.mem_cons_of_mem _ h
  have hown : s.vm.findClass "java/lang/String" = some m.cls := hown
  show mm_S p l e R s m args below meth c f D mm_cl cA 1 _ pc (mc_292 pc)
  unfold mc_292
  exact (ms_b (ms_b (ms_lf (ms_gsi hx hb hown hZc (hts _ (hAW _ qw_161)) rfl (by decide +kernel : decode cJ0_coder_7d493 0 = .ok (.getstatic 38, 3))))
    (ms_b (ms_lf (ms_if_eq hx hb (by decide) (by decide +kernel : decode cJ0_coder_7d493 3 = .ok (.ifCond .eq 10, 3))))
    (ms_lf (ms_aload_n (k := 0) hx hb rfl (by decide +kernel : decode cJ0_coder_7d493 6 = .ok (.aload_n 0, 1))))))
    (ms_b (ms_b (ms_lf (ms_sgc (SB := mm_sb) hx hb hown hTx (hts _ (hAW _ qw_2090)) (by decide +kernel : decode cJ0_coder_7d493 7 = .ok (.getfield 15, 3))))
    (ms_lf (ms_goto hx hb (by decide) (by decide +kernel : decode cJ0_coder_7d493 10 = .ok (.goto 4, 3)))))
    (ms_b (ms_lf (ms_iconst hx hb (by decide) (by decide +kernel : decode cJ0_coder_7d493 13 = .ok (.iconst 1, 1))))
    (ms_lf (ms_ire hx hb hr hlk (by decide +kernel : decode cJ0_coder_7d493 14 = .ok (.ireturn, 1)))))))
set_option maxRecDepth 100000 in
set_option maxHeartbeats 8000000 in
/-- java/lang/String.isLatin1 -/
theorem sd_293 (l : Launch) (f : Nat → Nat) (D : va_G) (cA : FieldType → ClassId) (d : Nat) : mm_Ok2 l f D cA d (yJ0_isLatin1_aae02, cJ0_isLatin1_aae02, 1, (some .boolean), mc_293) := by
  intro p e R s m args below meth c C hRf hRl pc
  obtain ⟨hx, hb, hml, hr, hlk, hnm, hown, hts, hEX, hgo, hf⟩ := C
  obtain ⟨hK, hA, hX, hZs, hZc, hZq, hTx, hSR0, hSR1, hAO, hN⟩ := id hEX
  have hAW : ∀ w ∈ mm_AW, w ∈ (Cond.code yJ0_isLatin1_aae02 cJ0_isLatin1_aae02 1 (some .boolean) :: mm_AW) := fun w h => List.mem_cons_of_mem _ h
  have hown : s.vm.findClass "java/lang/String" = some m.cls := hown
  show mm_S p l e R s m args below meth c f D mm_cl cA 1 _ pc (mc_293 pc)
  unfold mc_293
  exact (ms_b (ms_b (ms_b (ms_lf (ms_gsi hx hb hown hZc (hts _ (hAW _ qw_161)) rfl (by decide +kernel : decode cJ0_isLatin1_aae02 0 = .ok (.getstatic 38, 3))))
    (ms_lf (ms_if_eq hx hb (by decide) (by decide +kernel : decode cJ0_isLatin1_aae02 3 = .ok (.ifCond .eq 14, 3)))))
    (ms_b (ms_lf (ms_aload_n (k := 0) hx hb rfl (by decide +kernel : decode cJ0_isLatin1_aae02 6 = .ok (.aload_n 0, 1))))
    (ms_lf (ms_sgc (SB := mm_sb) hx hb hown hTx (hts _ (hAW _ qw_2090)) (by decide +kernel : decode cJ0_isLatin1_aae02 7 = .ok (.getfield 15, 3))))))
    (ms_b (ms_b (ms_lf (ms_if_ne hx hb (by decide) (by decide +kernel : decode cJ0_isLatin1_aae02 10 = .ok (.ifCond .ne 7, 3))))
    (ms_lf (ms_iconst hx hb (by decide) (by decide +kernel : decode cJ0_isLatin1_aae02 13 = .ok (.iconst 1, 1)))))
    (ms_b (ms_lf (ms_goto hx hb (by decide) (by decide +kernel : decode cJ0_isLatin1_aae02 14 = .ok (.goto 4, 3))))
    (ms_b (ms_lf (ms_iconst hx hb (by decide) (by decide +kernel : decode cJ0_isLatin1_aae02 17 = .ok (.iconst 0, 1))))
    (ms_lf (ms_iret hx hb hr hlk (by decide +kernel : decode cJ0_isLatin1_aae02 18 = .ok (.ireturn, 1))))))))
set_option maxRecDepth 100000 in
set_option maxHeartbeats 8000000 in
/-- java/lang/String.checkIndex -/
theorem sd_294 (l : Launch) (f : Nat → Nat) (D : va_G) (cA : FieldType → ClassId) (d : Nat) : mm_Ok2 l f D cA d (yJ0_checkIndex_df160, cJ0_checkIndex_df160, 2, none, mc_294) := by
  intro p e R s m args below meth c C hRf hRl pc
  obtain ⟨hx, hb, hml, hr, hlk, hnm, hown, hts, hEX, hgo, hf⟩ := C
  obtain ⟨hK, hA, hX, hZs, hZc, hZq, hTx, hSR0, hSR1, hAO, hN⟩ := id hEX
  have hAW : ∀ w ∈ mm_AW, w ∈ (Cond.code yJ0_checkIndex_df160 cJ0_checkIndex_df160 2 none :: mm_AW) := fun w h => List.mem_cons_of_mem _ h
  have hown : s.vm.findClass "java/lang/String" = some m.cls := hown
  show mm_S p l e R s m args below meth c f D mm_cl cA 2 _ pc (mc_294 pc)
  unfold mc_294
  exact (ms_b (ms_b (ms_lf (ms_iload_n (k := 0) hx hb rfl (by decide +kernel : decode cJ0_checkIndex_df160 0 = .ok (.iload_n 0, 1))))
    (ms_b (ms_lf (ms_iload_n (k := 1) hx hb rfl (by decide +kernel : decode cJ0_checkIndex_df160 1 = .ok (.iload_n 1, 1))))
    (ms_lf (ms_gsq hx hb hown hZq (hts _ (hAW _ qw_177)) rfl (by decide +kernel : decode cJ0_checkIndex_df160 2 = .ok (.getstatic 1053, 3))))))
    (ms_b (ms_lf (ms_ivS hx hb hml hown hts hgo hEX (mm_GS hAW (mm_GI hAW gi_300) qw_179 qw_180 qw_121) rfl hd_300 (mm_rm hRf hRl (Nat.le_of_ble_eq_true rfl)) (by decide +kernel : decode cJ0_checkIndex_df160 5 = .ok (.invokestatic 1059, 3))))
    (ms_b (ms_lf (ms_pop hx hb (by decide +kernel : decode cJ0_checkIndex_df160 8 = .ok (.pop, 1))))
    (ms_lf (ms_ret hx hb hr hlk (by decide +kernel : decode cJ0_checkIndex_df160 9 = .ok (.return_, 1)))))))
set_option maxRecDepth 100000 in
set_option maxHeartbeats 8000000 in
/-- java/lang/StringLatin1.charAt -/
theorem sd_295 (l : Launch) (f : Nat → Nat) (D : va_G) (cA : FieldType → ClassId) (d : Nat) : mm_Ok2 l f D cA d (yJ1_charAt_3b067, cJ1_charAt_3b067, 2, (some .char), mc_295) := by
  intro p e R s m args below meth c C hRf hRl pc
  obtain ⟨hx, hb, hml, hr, hlk, hnm, hown, hts, hEX, hgo, hf⟩ := C
  obtain ⟨hK, hA, hX, hZs, hZc, hZq, hTx, hSR0, hSR1, hAO, hN⟩ := id hEX
  have hAW : ∀ w ∈ mm_AW, w ∈ (Cond.code yJ1_charAt_3b067 cJ1_charAt_3b067 2 (some .char) :: mm_AW) := fun w h => List.mem_cons_of_mem _ h
  have hown : s.vm.findClass "java/lang/StringLatin1" = some m.cls := hown
  show mm_S p l e R s m args below meth c f D mm_cl cA 2 _ pc (mc_295 pc)
  unfold mc_295
  exact (ms_b (ms_b (ms_b (ms_lf (ms_iload_n (k := 1) hx hb rfl (by decide +kernel : decode cJ1_charAt_3b067 0 = .ok (.iload_n 1, 1))))
    (ms_lf (ms_aload_n (k := 0) hx hb rfl (by decide +kernel : decode cJ1_charAt_3b067 1 = .ok (.aload_n 0, 1)))))
    (ms_b (ms_lf (ms_xlen hx hb hTx (by decide +kernel : decode cJ1_charAt_3b067 2 = .ok (.arraylength, 1))))
    (ms_b (ms_lf (ms_ivS hx hb hml hown hts hgo hEX (mm_GS hAW (mm_GI hAW gi_294) qw_174 qw_175 qw_119) rfl hd_294 (mm_rm hRf hRl (Nat.le_of_ble_eq_true rfl)) (by decide +kernel : decode cJ1_charAt_3b067 3 = .ok (.invokestatic 9, 3))))
    (ms_lf (ms_aload_n (k := 0) hx hb rfl (by decide +kernel : decode cJ1_charAt_3b067 6 = .ok (.aload_n 0, 1)))))))
    (ms_b (ms_b (ms_lf (ms_iload_n (k := 1) hx hb rfl (by decide +kernel : decode cJ1_charAt_3b067 7 = .ok (.iload_n 1, 1))))
    (ms_b (ms_lf (ms_xbl hx hb hTx (by decide +kernel : decode cJ1_charAt_3b067 8 = .ok (.baload, 1))))
    (ms_lf (ms_sipush hx hb (by decide) (by decide +kernel : decode cJ1_charAt_3b067 9 = .ok (.sipush 255, 3))))))
    (ms_b (ms_lf (ms_iand hx hb (by decide +kernel : decode cJ1_charAt_3b067 12 = .ok (.iand, 1))))
    (ms_b (ms_lf (ms_i2c hx hb (by decide +kernel : decode cJ1_charAt_3b067 13 = .ok (.i2c, 1))))
    (ms_lf (ms_ire hx hb hr hlk (by decide +kernel : decode cJ1_charAt_3b067 14 = .ok (.ireturn, 1))))))))
set_option maxRecDepth 100000 in
set_option maxHeartbeats 8000000 in
/-- java/lang/StringLatin1.canEncode -/
theorem sd_296 (l : Launch) (f : Nat → Nat) (D : va_G) (cA : FieldType → ClassId) (d : Nat) : mm_Ok2 l f D cA d (yJ1_canEncode_9a6ad, cJ1_canEncode_9a6ad, 1, (some .boolean), mc_296) := by
  intro p e R s m args below meth c C hRf hRl pc
  obtain ⟨hx, hb, hml, hr, hlk, hnm, hown, hts, hEX, hgo, hf⟩ := C
  obtain ⟨hK, hA, hX, hZs, hZc, hZq, hTx, hSR0, hSR1, hAO, hN⟩ := id hEX
  have hAW : ∀ w ∈ mm_AW, w ∈ (Cond.code yJ1_canEncode_9a6ad cJ1_canEncode_9a6ad 1 (some .boolean) :: mm_AW) := fun w h => List.mem_cons_of_mem _ h
  have hown : s.vm.findClass "java/lang/StringLatin1" = some m.cls := hown
  show mm_S p l e R s m args below meth c f D mm_cl cA 1 _ pc (mc_296 pc)
  unfold mc_296
  exact (ms_b (ms_b (ms_b (ms_lf (ms_iload_n (k := 0) hx hb rfl (by decide +kernel : decode cJ1_canEncode_9a6ad 0 = .ok (.iload_n 0, 1))))
    (ms_lf (ms_if_lt hx hb (by decide) (by decide +kernel : decode cJ1_canEncode_9a6ad 1 = .ok (.ifCond .lt 14, 3)))))
    (ms_b (ms_lf (ms_iload_n (k := 0) hx hb rfl (by decide +kernel : decode cJ1_canEncode_9a6ad 4 = .ok (.iload_n 0, 1))))
    (ms_lf (ms_sipush hx hb (by decide) (by decide +kernel : decode cJ1_canEncode_9a6ad 5 = .ok (.sipush 255, 3))))))
    (ms_b (ms_b (ms_lf (ms_ic_gt hx hb (by decide) (by decide +kernel : decode cJ1_canEncode_9a6ad 8 = .ok (.if_icmp .gt 7, 3))))
    (ms_lf (ms_iconst hx hb (by decide) (by decide +kernel : decode cJ1_canEncode_9a6ad 11 = .ok (.iconst 1, 1)))))
    (ms_b (ms_lf (ms_goto hx hb (by decide) (by decide +kernel : decode cJ1_canEncode_9a6ad 12 = .ok (.goto 4, 3))))
    (ms_b (ms_lf (ms_iconst hx hb (by decide) (by decide +kernel : decode cJ1_canEncode_9a6ad 15 = .ok (.iconst 0, 1))))
    (ms_lf (ms_iret hx hb hr hlk (by decide +kernel : decode cJ1_canEncode_9a6ad 16 = .ok (.ireturn, 1))))))))
set_option maxRecDepth 100000 in
set_option maxHeartbeats 8000000 in
/-- java/lang/StringLatin1.indexOf -/
theorem sd_297 (l : Launch) (f : Nat → Nat) (D : va_G) (cA : FieldType → ClassId) (d : Nat) : mm_Ok2 l f D cA d (yJ1_indexOf_4cfef, cJ1_indexOf_4cfef, 4, (some .int), mc_297) := by
  intro p e R s m args below meth c C hRf hRl pc
  obtain ⟨hx, hb, hml, hr, hlk, hnm, hown, hts, hEX, hgo, hf⟩ := C
  obtain ⟨hK, hA, hX, hZs, hZc, hZq, hTx, hSR0, hSR1, hAO, hN⟩ := id hEX
  have hAW : ∀ w ∈ mm_AW, w ∈ (Cond.code yJ1_indexOf_4cfef cJ1_indexOf_4cfef 4 (some .int) :: mm_AW) := fun w h => List.mem_cons_of_mem _ h
  have hown : s.vm.findClass "java/lang/StringLatin1" = some m.cls := hown
  show mm_S p l e R s m args below meth c f D mm_cl cA 4 _ pc (mc_297 pc)
  unfold mc_297
  exact (ms_b (ms_b (ms_b (ms_b (ms_lf (ms_iload_n (k := 1) hx hb rfl (by decide +kernel : decode cJ1_indexOf_4cfef 0 = .ok (.iload_n 1, 1))))
    (ms_b (ms_lf (ms_ivS hx hb hml hown hts hgo hEX (mm_GS hAW (mm_GI hAW gi_296) qw_684 qw_685 qw_120) rfl hd_296 (mm_rm hRf hRl (Nat.le_of_ble_eq_true rfl)) (by decide +kernel : decode cJ1_indexOf_4cfef 1 = .ok (.invokestatic 88, 3))))
    (ms_lf (ms_if_ne hx hb (by decide) (by decide +kernel : decode cJ1_indexOf_4cfef 4 = .ok (.ifCond .ne 5, 3))))))
    (ms_b (ms_lf (ms_iconst hx hb (by decide) (by decide +kernel : decode cJ1_indexOf_4cfef 7 = .ok (.iconst (-1), 1))))
    (ms_b (ms_lf (ms_iret hx hb hr hlk (by decide +kernel : decode cJ1_indexOf_4cfef 8 = .ok (.ireturn, 1))))
    (ms_lf (ms_iload_n (k := 2) hx hb rfl (by decide +kernel : decode cJ1_indexOf_4cfef 9 = .ok (.iload_n 2, 1)))))))
    (ms_b (ms_b (ms_lf (ms_iconst hx hb (by decide) (by decide +kernel : decode cJ1_indexOf_4cfef 10 = .ok (.iconst 0, 1))))
    (ms_b (ms_lf (ms_mmax hx hb hml hown (hts _ (hAW _ qw_687)) (hts _ (hAW _ qw_688)) (hts _ (hAW _ qw_134)) (hts _ (hAW _ qw_689)) (by omega) (by omega) (by decide +kernel : decode cJ1_indexOf_4cfef 11 = .ok (.invokestatic 92, 3))))
    (ms_lf (ms_istore_n (k := 2) hx hb rfl (by decide : 2 < 4) (by decide +kernel : decode cJ1_indexOf_4cfef 14 = .ok (.istore_n 2, 1))))))
    (ms_b (ms_lf (ms_iload_n (k := 3) hx hb rfl (by decide +kernel : decode cJ1_indexOf_4cfef 15 = .ok (.iload_n 3, 1))))
    (ms_b (ms_lf (ms_aload_n (k := 0) hx hb rfl (by decide +kernel : decode cJ1_indexOf_4cfef 16 = .ok (.aload_n 0, 1))))
    (ms_lf (ms_xlen hx hb hTx (by decide +kernel : decode cJ1_indexOf_4cfef 17 = .ok (.arraylength, 1))))))))
    (ms_b (ms_b (ms_b (ms_lf (ms_mmin hx hb hml hown (hts _ (hAW _ qw_690)) (hts _ (hAW _ qw_691)) (hts _ (hAW _ qw_134)) (hts _ (hAW _ qw_692)) (by omega) (by omega) (by decide +kernel : decode cJ1_indexOf_4cfef 18 = .ok (.invokestatic 38, 3))))
    (ms_b (ms_lf (ms_istore_n (k := 3) hx hb rfl (by decide : 3 < 4) (by decide +kernel : decode cJ1_indexOf_4cfef 21 = .ok (.istore_n 3, 1))))
    (ms_lf (ms_iload_n (k := 2) hx hb rfl (by decide +kernel : decode cJ1_indexOf_4cfef 22 = .ok (.iload_n 2, 1))))))
    (ms_b (ms_lf (ms_iload_n (k := 3) hx hb rfl (by decide +kernel : decode cJ1_indexOf_4cfef 23 = .ok (.iload_n 3, 1))))
    (ms_b (ms_lf (ms_ic_lt hx hb (by decide) (by decide +kernel : decode cJ1_indexOf_4cfef 24 = .ok (.if_icmp .lt 5, 3))))
    (ms_lf (ms_iconst hx hb (by decide) (by decide +kernel : decode cJ1_indexOf_4cfef 27 = .ok (.iconst (-1), 1)))))))
    (ms_b (ms_b (ms_lf (ms_iret hx hb hr hlk (by decide +kernel : decode cJ1_indexOf_4cfef 28 = .ok (.ireturn, 1))))
    (ms_b (ms_lf (ms_aload_n (k := 0) hx hb rfl (by decide +kernel : decode cJ1_indexOf_4cfef 29 = .ok (.aload_n 0, 1))))
    (ms_lf (ms_iload_n (k := 1) hx hb rfl (by decide +kernel : decode cJ1_indexOf_4cfef 30 = .ok (.iload_n 1, 1))))))
    (ms_b (ms_b (ms_lf (ms_iload_n (k := 2) hx hb rfl (by decide +kernel : decode cJ1_indexOf_4cfef 31 = .ok (.iload_n 2, 1))))
    (ms_lf (ms_iload_n (k := 3) hx hb rfl (by decide +kernel : decode cJ1_indexOf_4cfef 32 = .ok (.iload_n 3, 1)))))
    (ms_b (ms_lf (ms_ivS hx hb hml hown hts hgo hEX (mm_GS hAW (mm_GI hAW gi_298) qw_693 qw_694 qw_120) rfl hd_298 (mm_rm hRf hRl (Nat.le_of_ble_eq_true rfl)) (by decide +kernel : decode cJ1_indexOf_4cfef 33 = .ok (.invokestatic 95, 3))))
    (ms_lf (ms_iret hx hb hr hlk (by decide +kernel : decode cJ1_indexOf_4cfef 36 = .ok (.ireturn, 1)))))))))
set_option maxRecDepth 100000 in
set_option maxHeartbeats 8000000 in
/-- java/lang/StringLatin1.indexOfChar -/
theorem sd_298 (l : Launch) (f : Nat → Nat) (D : va_G) (cA : FieldType → ClassId) (d : Nat) : mm_Ok2 l f D cA d (yJ1_indexOfChar_4cfef, cJ1_indexOfChar_4cfef, 6, (some .int), mc_298) := by
  intro p e R s m args below meth c C hRf hRl pc
  obtain ⟨hx, hb, hml, hr, hlk, hnm, hown, hts, hEX, hgo, hf⟩ := C
  obtain ⟨hK, hA, hX, hZs, hZc, hZq, hTx, hSR0, hSR1, hAO, hN⟩ := id hEX
  have hAW : ∀ w ∈ mm_AW, w ∈ (Cond.code yJ1_indexOfChar_4cfef cJ1_indexOfChar_4cfef 6 (some .int) :: mm_AW) := fun w h => List.mem_cons_of_mem _ h
  have hown : s.vm.findClass "java/lang/StringLatin1" = some m.cls := hown
  show mm_S p l e R s m args below meth c f D mm_cl cA 6 _ pc (mc_298 pc)
  unfold mc_298
  exact (ms_b (ms_b (ms_b (ms_b (ms_lf (ms_iload_n (k := 1) hx hb rfl (by decide +kernel : decode cJ1_indexOfChar_4cfef 0 = .ok (.iload_n 1, 1))))
    (ms_lf (ms_i2b hx hb (by decide +kernel : decode cJ1_indexOfChar_4cfef 1 = .ok (.i2b, 1)))))
    (ms_b (ms_lf (ms_istore hx hb (by decide : 4 < 6) (by decide +kernel : decode cJ1_indexOfChar_4cfef 2 = .ok (.istore 4, 2))))
    (ms_lf (ms_iload_n (k := 2) hx hb rfl (by decide +kernel : decode cJ1_indexOfChar_4cfef 4 = .ok (.iload_n 2, 1))))))
    (ms_b (ms_b (ms_lf (ms_istore hx hb (by decide : 5 < 6) (by decide +kernel : decode cJ1_indexOfChar_4cfef 5 = .ok (.istore 5, 2))))
    (ms_lf (ms_iload hx hb (by decide +kernel : decode cJ1_indexOfChar_4cfef 7 = .ok (.iload 5, 2)))))
    (ms_b (ms_lf (ms_iload_n (k := 3) hx hb rfl (by decide +kernel : decode cJ1_indexOfChar_4cfef 9 = .ok (.iload_n 3, 1))))
    (ms_b (ms_lf (ms_ic_ge hx hb (by decide) (by decide +kernel : decode cJ1_indexOfChar_4cfef 10 = .ok (.if_icmp .ge 21, 3))))
    (ms_lf (ms_aload_n (k := 0) hx hb rfl (by decide +kernel : decode cJ1_indexOfChar_4cfef 13 = .ok (.aload_n 0, 1))))))))
    (ms_b (ms_b (ms_b (ms_lf (ms_iload hx hb (by decide +kernel : decode cJ1_indexOfChar_4cfef 14 = .ok (.iload 5, 2))))
    (ms_lf (ms_xbl hx hb hTx (by decide +kernel : decode cJ1_indexOfChar_4cfef 16 = .ok (.baload, 1)))))
    (ms_b (ms_lf (ms_iload hx hb (by decide +kernel : decode cJ1_indexOfChar_4cfef 17 = .ok (.iload 4, 2))))
    (ms_b (ms_lf (ms_ic_ne hx hb (by decide) (by decide +kernel : decode cJ1_indexOfChar_4cfef 19 = .ok (.if_icmp .ne 6, 3))))
    (ms_lf (ms_iload hx hb (by decide +kernel : decode cJ1_indexOfChar_4cfef 22 = .ok (.iload 5, 2)))))))
    (ms_b (ms_b (ms_lf (ms_iret hx hb hr hlk (by decide +kernel : decode cJ1_indexOfChar_4cfef 24 = .ok (.ireturn, 1))))
    (ms_lf (ms_iinc hx hb (by decide) (by decide : 5 < 6) (by decide +kernel : decode cJ1_indexOfChar_4cfef 25 = .ok (.iinc 5 1, 3)))))
    (ms_b (ms_lf (ms_goto hx hb (by decide) (by decide +kernel : decode cJ1_indexOfChar_4cfef 28 = .ok (.goto (-21), 3))))
    (ms_b (ms_lf (ms_iconst hx hb (by decide) (by decide +kernel : decode cJ1_indexOfChar_4cfef 31 = .ok (.iconst (-1), 1))))
    (ms_lf (ms_iret hx hb hr hlk (by decide +kernel : decode cJ1_indexOfChar_4cfef 32 = .ok (.ireturn, 1)))))))))
set_option maxRecDepth 100000 in
set_option maxHeartbeats 8000000 in
/-- java/util/Arrays.fill -/
theorem sd_299 (l : Launch) (f : Nat → Nat) (D : va_G) (cA : FieldType → ClassId) (d : Nat) : mm_Ok2 l f D cA d (yJ7_fill_53178, cJ7_fill_53178, 4, none, mc_299) := by
  intro p e R s m args below meth c C hRf hRl pc
  obtain ⟨hx, hb, hml, hr, hlk, hnm, hown, hts, hEX, hgo, hf⟩ := C
  obtain ⟨hK, hA, hX, hZs, hZc, hZq, hTx, hSR0, hSR1, hAO, hN⟩ := id hEX
  have hAW : ∀ w ∈ mm_AW, w ∈ (Cond.code yJ7_fill_53178 cJ7_fill_53178 4 none :: mm_AW) := fun w h => List.mem_cons_of_mem _ h
  have hown : s.vm.findClass "java/util/Arrays" = some m.cls := hown
  show mm_S p l e R s m args below meth c f D mm_cl cA 4 _ pc (mc_299 pc)
  unfold mc_299
  exact (ms_b (ms_b (ms_b (ms_lf (ms_iconst hx hb (by decide) (by decide +kernel : decode cJ7_fill_53178 0 = .ok (.iconst 0, 1))))
    (ms_b (ms_lf (ms_istore_n (k := 2) hx hb rfl (by decide : 2 < 4) (by decide +kernel : decode cJ7_fill_53178 1 = .ok (.istore_n 2, 1))))
    (ms_lf (ms_aload_n (k := 0) hx hb rfl (by decide +kernel : decode cJ7_fill_53178 2 = .ok (.aload_n 0, 1))))))
    (ms_b (ms_b (ms_lf (ms_alen hx hb hf hA hX (by decide +kernel : decode cJ7_fill_53178 3 = .ok (.arraylength, 1))))
    (ms_lf (ms_istore_n (k := 3) hx hb rfl (by decide : 3 < 4) (by decide +kernel : decode cJ7_fill_53178 4 = .ok (.istore_n 3, 1)))))
    (ms_b (ms_lf (ms_iload_n (k := 2) hx hb rfl (by decide +kernel : decode cJ7_fill_53178 5 = .ok (.iload_n 2, 1))))
    (ms_lf (ms_iload_n (k := 3) hx hb rfl (by decide +kernel : decode cJ7_fill_53178 6 = .ok (.iload_n 3, 1)))))))
    (ms_b (ms_b (ms_b (ms_lf (ms_ic_ge hx hb (by decide) (by decide +kernel : decode cJ7_fill_53178 7 = .ok (.if_icmp .ge 13, 3))))
    (ms_lf (ms_aload_n (k := 0) hx hb rfl (by decide +kernel : decode cJ7_fill_53178 10 = .ok (.aload_n 0, 1)))))
    (ms_b (ms_lf (ms_iload_n (k := 2) hx hb rfl (by decide +kernel : decode cJ7_fill_53178 11 = .ok (.iload_n 2, 1))))
    (ms_lf (ms_iload_n (k := 1) hx hb rfl (by decide +kernel : decode cJ7_fill_53178 12 = .ok (.iload_n 1, 1))))))
    (ms_b (ms_b (ms_lf (ms_iast hx hb hf hA (by decide +kernel : decode cJ7_fill_53178 13 = .ok (.iastore, 1))))
    (ms_lf (ms_iinc hx hb (by decide) (by decide : 2 < 4) (by decide +kernel : decode cJ7_fill_53178 14 = .ok (.iinc 2 1, 3)))))
    (ms_b (ms_lf (ms_goto hx hb (by decide) (by decide +kernel : decode cJ7_fill_53178 17 = .ok (.goto (-12), 3))))
    (ms_lf (ms_ret hx hb hr hlk (by decide +kernel : decode cJ7_fill_53178 20 = .ok (.return_, 1))))))))
set_option maxRecDepth 100000 in
set_option maxHeartbeats 8000000 in
/-- jdk/internal/util/Preconditions.checkIndex -/
theorem sd_300 (l : Launch) (f : Nat → Nat) (D : va_G) (cA : FieldType → ClassId) (d : Nat) : mm_Ok2 l f D cA d (yJ3_checkIndex_8e157, cJ3_checkIndex_8e157, 3, (some .int), mc_300) := by
  intro p e R s m args below meth c C hRf hRl pc
  obtain ⟨hx, hb, hml, hr, hlk, hnm, hown, hts, hEX, hgo, hf⟩ := C
  obtain ⟨hK, hA, hX, hZs, hZc, hZq, hTx, hSR0, hSR1, hAO, hN⟩ := id hEX
  have hAW : ∀ w ∈ mm_AW, w ∈ (Cond.code yJ3_checkIndex_8e157 cJ3_checkIndex_8e157 3 (some .int) :: mm_AW) := fun w h => List.mem_cons_of_mem _ h
  have hown : s.vm.findClass "jdk/internal/util/Preconditions" = some m.cls := hown
  show mm_S p l e R s m args below meth c f D mm_cl cA 3 _ pc (mc_300 pc)
  unfold mc_300
  exact (ms_b (ms_b (ms_b (ms_lf (ms_iload_n (k := 0) hx hb rfl (by decide +kernel : decode cJ3_checkIndex_8e157 0 = .ok (.iload_n 0, 1))))
    (ms_lf (ms_if_lt hx hb (by decide) (by decide +kernel : decode cJ3_checkIndex_8e157 1 = .ok (.ifCond .lt 8, 3)))))
    (ms_b (ms_lf (ms_iload_n (k := 0) hx hb rfl (by decide +kernel : decode cJ3_checkIndex_8e157 4 = .ok (.iload_n 0, 1))))
    (ms_b (ms_lf (ms_iload_n (k := 1) hx hb rfl (by decide +kernel : decode cJ3_checkIndex_8e157 5 = .ok (.iload_n 1, 1))))
    (ms_lf (ms_ic_lt hx hb (by decide) (by decide +kernel : decode cJ3_checkIndex_8e157 6 = .ok (.if_icmp .lt 10, 3)))))))
    (ms_b (ms_b (ms_lf (ms_aload_n (k := 2) hx hb rfl (by decide +kernel : decode cJ3_checkIndex_8e157 9 = .ok (.aload_n 2, 1))))
    (ms_lf (ms_iload_n (k := 0) hx hb rfl (by decide +kernel : decode cJ3_checkIndex_8e157 10 = .ok (.iload_n 0, 1)))))
    (ms_b (ms_lf (ms_iload_n (k := 1) hx hb rfl (by decide +kernel : decode cJ3_checkIndex_8e157 11 = .ok (.iload_n 1, 1))))
    (ms_b (ms_lf (ms_iload_n (k := 0) hx hb rfl (by decide +kernel : decode cJ3_checkIndex_8e157 16 = .ok (.iload_n 0, 1))))
    (ms_lf (ms_iret hx hb hr hlk (by decide +kernel : decode cJ3_checkIndex_8e157 17 = .ok (.ireturn, 1))))))))
