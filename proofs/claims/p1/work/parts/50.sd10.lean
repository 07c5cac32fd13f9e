set_option maxRecDepth 100000 in
set_option maxHeartbeats 8000000 in
/-- TippedCratesModel.restore -/
theorem sd_285 (l : Launch) (f : Nat → Nat) (D : va_G) (cA : FieldType → ClassId) (d : Nat) : mm_Ok2 l f D cA d (yX12_restore, cX12_restore, 3, (some .boolean), mc_285) := by
  intro p e R s m args below meth c C hRf hRl pc
  obtain ⟨hx, hb, hml, hr, hlk, hnm, hown, hts, hEX, hgo, hf⟩ := C
  obtain ⟨hK, hA, hX, hZs, hZc, hZq, hTx, hSR0, hSR1, hAO, hN⟩ := id hEX
  have hAW : ∀ w ∈ mm_AW, w ∈ (Cond.code yX12_restore cX12_restore 3 (some .boolean) :: mm_AW) := fun w h => List.mem_cons_of_mem _ h
  have hown : s.vm.findClass "TippedCratesModel" = some m.cls := hown
  show mm_S p l e R s m args below meth c f D mm_cl cA 3 _ pc (mc_285 pc)
  unfold mc_285
  exact (ms_b (ms_b (ms_b (ms_b (ms_b (ms_lf (ms_iload_n hx hb rfl (by decide +kernel)))
    (ms_lf (ms_iconst hx hb (by decide) (by decide +kernel))))
    (ms_b (ms_lf (ms_iconst hx hb (by decide) (by decide +kernel)))
    (ms_lf (ms_ivS hx hb hml hown hts hgo hEX (mm_GS hAW (mm_GI hAW gi_206) qw_1782 qw_1783 qw_137) rfl hd_206 (mm_rm hRf hRl (Nat.le_of_ble_eq_true rfl)) (by decide +kernel)))))
    (ms_b (ms_b (ms_lf (ms_if_eq hx hb (by decide) (by decide +kernel)))
    (ms_lf (ms_aload_n hx hb rfl (by decide +kernel))))
    (ms_b (ms_lf (ms_getf (C := RX12) (T := TX12) (N := 80) hx hb hf hts (fun w h => hAW w (inq_12 w h)) hown hK rfl (by decide) (hts _ (hAW _ qw_1493)) rfl (by decide +kernel)))
    (ms_b (ms_lf (ms_iload_n hx hb rfl (by decide +kernel)))
    (ms_lf (ms_bald hx hb hf hA (by decide +kernel)))))))
    (ms_b (ms_b (ms_b (ms_lf (ms_if_ne hx hb (by decide) (by decide +kernel)))
    (ms_lf (ms_iconst hx hb (by decide) (by decide +kernel))))
    (ms_b (ms_lf (ms_iret hx hb hr hlk (by decide +kernel)))
    (ms_lf (ms_iconst hx hb (by decide) (by decide +kernel)))))
    (ms_b (ms_b (ms_lf (ms_istore_n hx hb rfl (by decide : 2 < 3) (by decide +kernel)))
    (ms_lf (ms_iload_n hx hb rfl (by decide +kernel))))
    (ms_b (ms_lf (ms_bipush hx hb (by decide) (by decide +kernel)))
    (ms_b (ms_lf (ms_ic_ge hx hb (by decide) (by decide +kernel)))
    (ms_lf (ms_aload_n hx hb rfl (by decide +kernel))))))))
    (ms_b (ms_b (ms_b (ms_b (ms_lf (ms_getf (C := RX12) (T := TX12) (N := 80) hx hb hf hts (fun w h => hAW w (inq_12 w h)) hown hK rfl (by decide) (hts _ (hAW _ qw_1471)) rfl (by decide +kernel)))
    (ms_lf (ms_iload_n hx hb rfl (by decide +kernel))))
    (ms_b (ms_lf (ms_aload_n hx hb rfl (by decide +kernel)))
    (ms_lf (ms_getf (C := RX12) (T := TX12) (N := 80) hx hb hf hts (fun w h => hAW w (inq_12 w h)) hown hK rfl (by decide) (hts _ (hAW _ qw_1494)) rfl (by decide +kernel)))))
    (ms_b (ms_b (ms_lf (ms_bipush hx hb (by decide) (by decide +kernel)))
    (ms_lf (ms_iload_n hx hb rfl (by decide +kernel))))
    (ms_b (ms_lf (ms_imul hx hb (by decide +kernel)))
    (ms_b (ms_lf (ms_iload_n hx hb rfl (by decide +kernel)))
    (ms_lf (ms_iadd hx hb (by decide +kernel)))))))
    (ms_b (ms_b (ms_b (ms_lf (ms_iald hx hb hf hA hX (by decide +kernel)))
    (ms_lf (ms_iast hx hb hf hA (by decide +kernel))))
    (ms_b (ms_lf (ms_iinc hx hb (by decide) (by decide : 2 < 3) (by decide +kernel)))
    (ms_lf (ms_goto hx hb (by decide) (by decide +kernel)))))
    (ms_b (ms_b (ms_lf (ms_aload_n hx hb rfl (by decide +kernel)))
    (ms_lf (ms_iconst hx hb (by decide) (by decide +kernel))))
    (ms_b (ms_lf (ms_put (C := RX12) (T := TX12) (N := 80) hx hb hf hts (fun w h => hAW w (inq_12 w h)) tyX12 tyX12_ok nmX12 hown hK rfl (by decide) (hts _ (hAW _ qw_1475)) rfl rfl rfl (by decide +kernel)))
    (ms_b (ms_lf (ms_iconst hx hb (by decide) (by decide +kernel)))
    (ms_lf (ms_iret hx hb hr hlk (by decide +kernel)))))))))
set_option maxRecDepth 100000 in
set_option maxHeartbeats 8000000 in
/-- TippedCratesModel.isStuck -/
theorem sd_286 (l : Launch) (f : Nat → Nat) (D : va_G) (cA : FieldType → ClassId) (d : Nat) : mm_Ok2 l f D cA d (yX12_isStuck, cX12_isStuck, 2, (some .boolean), mc_286) := by
  intro p e R s m args below meth c C hRf hRl pc
  obtain ⟨hx, hb, hml, hr, hlk, hnm, hown, hts, hEX, hgo, hf⟩ := C
  obtain ⟨hK, hA, hX, hZs, hZc, hZq, hTx, hSR0, hSR1, hAO, hN⟩ := id hEX
  have hAW : ∀ w ∈ mm_AW, w ∈ (Cond.code yX12_isStuck cX12_isStuck 2 (some .boolean) :: mm_AW) := fun w h => List.mem_cons_of_mem _ h
  have hown : s.vm.findClass "TippedCratesModel" = some m.cls := hown
  show mm_S p l e R s m args below meth c f D mm_cl cA 2 _ pc (mc_286 pc)
  unfold mc_286
  exact (ms_b (ms_b (ms_b (ms_b (ms_lf (ms_aload_n hx hb rfl (by decide +kernel)))
    (ms_b (ms_lf (ms_iload_n hx hb rfl (by decide +kernel)))
    (ms_lf (ms_iconst hx hb (by decide) (by decide +kernel)))))
    (ms_b (ms_lf (ms_ivV (C := RX12) (T := TX12) (N := 80) hx hb hml hown hts hgo hEX hf hK rfl (mm_GV hAW (mm_GI hAW gi_224) qw_1812 qw_1814 qw_80 qw_137) rfl ⟨rfl, hd_224⟩ (mm_rm hRf hRl (Nat.le_of_ble_eq_true rfl)) (by decide +kernel)))
    (ms_b (ms_lf (ms_if_ne hx hb (by decide) (by decide +kernel)))
    (ms_lf (ms_aload_n hx hb rfl (by decide +kernel))))))
    (ms_b (ms_b (ms_lf (ms_iload_n hx hb rfl (by decide +kernel)))
    (ms_b (ms_lf (ms_iconst hx hb (by decide) (by decide +kernel)))
    (ms_lf (ms_ivV (C := RX12) (T := TX12) (N := 80) hx hb hml hown hts hgo hEX hf hK rfl (mm_GV hAW (mm_GI hAW gi_224) qw_1812 qw_1814 qw_80 qw_137) rfl ⟨rfl, hd_224⟩ (mm_rm hRf hRl (Nat.le_of_ble_eq_true rfl)) (by decide +kernel)))))
    (ms_b (ms_lf (ms_if_ne hx hb (by decide) (by decide +kernel)))
    (ms_b (ms_lf (ms_aload_n hx hb rfl (by decide +kernel)))
    (ms_lf (ms_iload_n hx hb rfl (by decide +kernel)))))))
    (ms_b (ms_b (ms_b (ms_lf (ms_iconst hx hb (by decide) (by decide +kernel)))
    (ms_b (ms_lf (ms_ivV (C := RX12) (T := TX12) (N := 80) hx hb hml hown hts hgo hEX hf hK rfl (mm_GV hAW (mm_GI hAW gi_224) qw_1812 qw_1814 qw_80 qw_137) rfl ⟨rfl, hd_224⟩ (mm_rm hRf hRl (Nat.le_of_ble_eq_true rfl)) (by decide +kernel)))
    (ms_lf (ms_if_ne hx hb (by decide) (by decide +kernel)))))
    (ms_b (ms_lf (ms_aload_n hx hb rfl (by decide +kernel)))
    (ms_b (ms_lf (ms_iload_n hx hb rfl (by decide +kernel)))
    (ms_lf (ms_iconst hx hb (by decide) (by decide +kernel))))))
    (ms_b (ms_b (ms_lf (ms_ivV (C := RX12) (T := TX12) (N := 80) hx hb hml hown hts hgo hEX hf hK rfl (mm_GV hAW (mm_GI hAW gi_224) qw_1812 qw_1814 qw_80 qw_137) rfl ⟨rfl, hd_224⟩ (mm_rm hRf hRl (Nat.le_of_ble_eq_true rfl)) (by decide +kernel)))
    (ms_b (ms_lf (ms_if_ne hx hb (by decide) (by decide +kernel)))
    (ms_lf (ms_iconst hx hb (by decide) (by decide +kernel)))))
    (ms_b (ms_lf (ms_goto hx hb (by decide) (by decide +kernel)))
    (ms_b (ms_lf (ms_iconst hx hb (by decide) (by decide +kernel)))
    (ms_lf (ms_iret hx hb hr hlk (by decide +kernel))))))))
set_option maxRecDepth 100000 in
set_option maxHeartbeats 8000000 in
/-- TippedCratesModel.count -/
theorem sd_287 (l : Launch) (f : Nat → Nat) (D : va_G) (cA : FieldType → ClassId) (d : Nat) : mm_Ok2 l f D cA d (yX12_count, cX12_count, 4, (some .int), mc_287) := by
  intro p e R s m args below meth c C hRf hRl pc
  obtain ⟨hx, hb, hml, hr, hlk, hnm, hown, hts, hEX, hgo, hf⟩ := C
  obtain ⟨hK, hA, hX, hZs, hZc, hZq, hTx, hSR0, hSR1, hAO, hN⟩ := id hEX
  have hAW : ∀ w ∈ mm_AW, w ∈ (Cond.code yX12_count cX12_count 4 (some .int) :: mm_AW) := fun w h => List.mem_cons_of_mem _ h
  have hown : s.vm.findClass "TippedCratesModel" = some m.cls := hown
  show mm_S p l e R s m args below meth c f D mm_cl cA 4 _ pc (mc_287 pc)
  unfold mc_287
  exact (ms_b (ms_b (ms_b (ms_b (ms_b (ms_b (ms_b (ms_lf (ms_aload_n hx hb rfl (by decide +kernel)))
    (ms_b (ms_lf (ms_ivV (C := RX12) (T := TX12) (N := 80) hx hb hml hown hts hgo hEX hf hK rfl (mm_GV hAW (mm_GI hAW gi_216) qw_1785 qw_1787 qw_76 qw_137) rfl ⟨rfl, hd_216⟩ (mm_rm hRf hRl (Nat.le_of_ble_eq_true rfl)) (by decide +kernel)))
    (ms_lf (ms_iconst hx hb (by decide) (by decide +kernel)))))
    (ms_b (ms_lf (ms_istore_n hx hb rfl (by decide : 2 < 4) (by decide +kernel)))
    (ms_b (ms_lf (ms_iload_n hx hb rfl (by decide +kernel)))
    (ms_lf (ms_tsw hx hb (by decide) (by decide) (by decide +kernel))))))
    (ms_b (ms_b (ms_lf (ms_aload_n hx hb rfl (by decide +kernel)))
    (ms_b (ms_lf (ms_getf (C := RX12) (T := TX12) (N := 80) hx hb hf hts (fun w h => hAW w (inq_12 w h)) hown hK rfl (by decide) (hts _ (hAW _ qw_1437)) rfl (by decide +kernel)))
    (ms_lf (ms_aload_n hx hb rfl (by decide +kernel)))))
    (ms_b (ms_b (ms_lf (ms_getf (C := RX12) (T := TX12) (N := 80) hx hb hf hts (fun w h => hAW w (inq_12 w h)) hown hK rfl (by decide) (hts _ (hAW _ qw_1433)) rfl (by decide +kernel)))
    (ms_lf (ms_iald hx hb hf hA hX (by decide +kernel))))
    (ms_b (ms_lf (ms_iret hx hb hr hlk (by decide +kernel)))
    (ms_lf (ms_aload_n hx hb rfl (by decide +kernel)))))))
    (ms_b (ms_b (ms_b (ms_lf (ms_getf (C := RX12) (T := TX12) (N := 80) hx hb hf hts (fun w h => hAW w (inq_12 w h)) hown hK rfl (by decide) (hts _ (hAW _ qw_1438)) rfl (by decide +kernel)))
    (ms_b (ms_lf (ms_aload_n hx hb rfl (by decide +kernel)))
    (ms_lf (ms_getf (C := RX12) (T := TX12) (N := 80) hx hb hf hts (fun w h => hAW w (inq_12 w h)) hown hK rfl (by decide) (hts _ (hAW _ qw_1433)) rfl (by decide +kernel)))))
    (ms_b (ms_lf (ms_iald hx hb hf hA hX (by decide +kernel)))
    (ms_b (ms_lf (ms_iret hx hb hr hlk (by decide +kernel)))
    (ms_lf (ms_aload_n hx hb rfl (by decide +kernel))))))
    (ms_b (ms_b (ms_lf (ms_getf (C := RX12) (T := TX12) (N := 80) hx hb hf hts (fun w h => hAW w (inq_12 w h)) hown hK rfl (by decide) (hts _ (hAW _ qw_1446)) rfl (by decide +kernel)))
    (ms_b (ms_lf (ms_aload_n hx hb rfl (by decide +kernel)))
    (ms_lf (ms_getf (C := RX12) (T := TX12) (N := 80) hx hb hf hts (fun w h => hAW w (inq_12 w h)) hown hK rfl (by decide) (hts _ (hAW _ qw_1433)) rfl (by decide +kernel)))))
    (ms_b (ms_b (ms_lf (ms_iald hx hb hf hA hX (by decide +kernel)))
    (ms_lf (ms_iret hx hb hr hlk (by decide +kernel))))
    (ms_b (ms_lf (ms_aload_n hx hb rfl (by decide +kernel)))
    (ms_lf (ms_getf (C := RX12) (T := TX12) (N := 80) hx hb hf hts (fun w h => hAW w (inq_12 w h)) hown hK rfl (by decide) (hts _ (hAW _ qw_1472)) rfl (by decide +kernel))))))))
    (ms_b (ms_b (ms_b (ms_b (ms_lf (ms_bipush hx hb (by decide) (by decide +kernel)))
    (ms_b (ms_lf (ms_iald hx hb hf hA hX (by decide +kernel)))
    (ms_lf (ms_iret hx hb hr hlk (by decide +kernel)))))
    (ms_b (ms_lf (ms_aload_n hx hb rfl (by decide +kernel)))
    (ms_b (ms_lf (ms_getf (C := RX12) (T := TX12) (N := 80) hx hb hf hts (fun w h => hAW w (inq_12 w h)) hown hK rfl (by decide) (hts _ (hAW _ qw_1472)) rfl (by decide +kernel)))
    (ms_lf (ms_bipush hx hb (by decide) (by decide +kernel))))))
    (ms_b (ms_b (ms_lf (ms_iald hx hb hf hA hX (by decide +kernel)))
    (ms_b (ms_lf (ms_iret hx hb hr hlk (by decide +kernel)))
    (ms_lf (ms_aload_n hx hb rfl (by decide +kernel)))))
    (ms_b (ms_b (ms_lf (ms_getf (C := RX12) (T := TX12) (N := 80) hx hb hf hts (fun w h => hAW w (inq_12 w h)) hown hK rfl (by decide) (hts _ (hAW _ qw_1474)) rfl (by decide +kernel)))
    (ms_lf (ms_iret hx hb hr hlk (by decide +kernel))))
    (ms_b (ms_lf (ms_iconst hx hb (by decide) (by decide +kernel)))
    (ms_lf (ms_istore_n hx hb rfl (by decide : 3 < 4) (by decide +kernel)))))))
    (ms_b (ms_b (ms_b (ms_lf (ms_iload_n hx hb rfl (by decide +kernel)))
    (ms_b (ms_lf (ms_aload_n hx hb rfl (by decide +kernel)))
    (ms_lf (ms_ivV (C := RX12) (T := TX12) (N := 80) hx hb hml hown hts hgo hEX hf hK rfl (mm_GV hAW (mm_GI hAW gi_208) qw_1778 qw_1780 qw_75 qw_137) rfl ⟨rfl, hd_208⟩ (mm_rm hRf hRl (Nat.le_of_ble_eq_true rfl)) (by decide +kernel)))))
    (ms_b (ms_lf (ms_ic_ge hx hb (by decide) (by decide +kernel)))
    (ms_b (ms_lf (ms_aload_n hx hb rfl (by decide +kernel)))
    (ms_lf (ms_getf (C := RX12) (T := TX12) (N := 80) hx hb hf hts (fun w h => hAW w (inq_12 w h)) hown hK rfl (by decide) (hts _ (hAW _ qw_1472)) rfl (by decide +kernel))))))
    (ms_b (ms_b (ms_lf (ms_iload_n hx hb rfl (by decide +kernel)))
    (ms_b (ms_lf (ms_iald hx hb hf hA hX (by decide +kernel)))
    (ms_lf (ms_if_le hx hb (by decide) (by decide +kernel)))))
    (ms_b (ms_b (ms_lf (ms_iload_n hx hb rfl (by decide +kernel)))
    (ms_lf (ms_iconst hx hb (by decide) (by decide +kernel))))
    (ms_b (ms_lf (ms_iload_n hx hb rfl (by decide +kernel)))
    (ms_lf (ms_ishl hx hb (by decide +kernel)))))))))
    (ms_b (ms_b (ms_b (ms_b (ms_b (ms_lf (ms_ior hx hb (by decide +kernel)))
    (ms_b (ms_lf (ms_istore_n hx hb rfl (by decide : 2 < 4) (by decide +kernel)))
    (ms_lf (ms_iinc hx hb (by decide) (by decide : 3 < 4) (by decide +kernel)))))
    (ms_b (ms_lf (ms_goto hx hb (by decide) (by decide +kernel)))
    (ms_b (ms_lf (ms_iload_n hx hb rfl (by decide +kernel)))
    (ms_lf (ms_iret hx hb hr hlk (by decide +kernel))))))
    (ms_b (ms_b (ms_lf (ms_iconst hx hb (by decide) (by decide +kernel)))
    (ms_b (ms_lf (ms_istore_n hx hb rfl (by decide : 3 < 4) (by decide +kernel)))
    (ms_lf (ms_iload_n hx hb rfl (by decide +kernel)))))
    (ms_b (ms_b (ms_lf (ms_aload_n hx hb rfl (by decide +kernel)))
    (ms_lf (ms_ivV (C := RX12) (T := TX12) (N := 80) hx hb hml hown hts hgo hEX hf hK rfl (mm_GV hAW (mm_GI hAW gi_208) qw_1778 qw_1780 qw_75 qw_137) rfl ⟨rfl, hd_208⟩ (mm_rm hRf hRl (Nat.le_of_ble_eq_true rfl)) (by decide +kernel))))
    (ms_b (ms_lf (ms_ic_ge hx hb (by decide) (by decide +kernel)))
    (ms_lf (ms_iload_n hx hb rfl (by decide +kernel)))))))
    (ms_b (ms_b (ms_b (ms_lf (ms_aload_n hx hb rfl (by decide +kernel)))
    (ms_b (ms_lf (ms_getf (C := RX12) (T := TX12) (N := 80) hx hb hf hts (fun w h => hAW w (inq_12 w h)) hown hK rfl (by decide) (hts _ (hAW _ qw_1472)) rfl (by decide +kernel)))
    (ms_lf (ms_iload_n hx hb rfl (by decide +kernel)))))
    (ms_b (ms_lf (ms_iald hx hb hf hA hX (by decide +kernel)))
    (ms_b (ms_lf (ms_iadd hx hb (by decide +kernel)))
    (ms_lf (ms_istore_n hx hb rfl (by decide : 2 < 4) (by decide +kernel))))))
    (ms_b (ms_b (ms_lf (ms_iinc hx hb (by decide) (by decide : 3 < 4) (by decide +kernel)))
    (ms_b (ms_lf (ms_goto hx hb (by decide) (by decide +kernel)))
    (ms_lf (ms_iload_n hx hb rfl (by decide +kernel)))))
    (ms_b (ms_b (ms_lf (ms_iret hx hb hr hlk (by decide +kernel)))
    (ms_lf (ms_aload_n hx hb rfl (by decide +kernel))))
    (ms_b (ms_lf (ms_getf (C := RX12) (T := TX12) (N := 80) hx hb hf hts (fun w h => hAW w (inq_12 w h)) hown hK rfl (by decide) (hts _ (hAW _ qw_1417)) rfl (by decide +kernel)))
    (ms_lf (ms_iret hx hb hr hlk (by decide +kernel))))))))
    (ms_b (ms_b (ms_b (ms_b (ms_lf (ms_aload_n hx hb rfl (by decide +kernel)))
    (ms_b (ms_lf (ms_getf (C := RX12) (T := TX12) (N := 80) hx hb hf hts (fun w h => hAW w (inq_12 w h)) hown hK rfl (by decide) (hts _ (hAW _ qw_1475)) rfl (by decide +kernel)))
    (ms_lf (ms_iret hx hb hr hlk (by decide +kernel)))))
    (ms_b (ms_lf (ms_aload_n hx hb rfl (by decide +kernel)))
    (ms_b (ms_lf (ms_getf (C := RX12) (T := TX12) (N := 80) hx hb hf hts (fun w h => hAW w (inq_12 w h)) hown hK rfl (by decide) (hts _ (hAW _ qw_1487)) rfl (by decide +kernel)))
    (ms_lf (ms_iret hx hb hr hlk (by decide +kernel))))))
    (ms_b (ms_b (ms_lf (ms_aload_n hx hb rfl (by decide +kernel)))
    (ms_b (ms_lf (ms_getf (C := RX12) (T := TX12) (N := 80) hx hb hf hts (fun w h => hAW w (inq_12 w h)) hown hK rfl (by decide) (hts _ (hAW _ qw_1493)) rfl (by decide +kernel)))
    (ms_lf (ms_iconst hx hb (by decide) (by decide +kernel)))))
    (ms_b (ms_b (ms_lf (ms_bald hx hb hf hA (by decide +kernel)))
    (ms_lf (ms_if_eq hx hb (by decide) (by decide +kernel))))
    (ms_b (ms_lf (ms_iconst hx hb (by decide) (by decide +kernel)))
    (ms_lf (ms_goto hx hb (by decide) (by decide +kernel)))))))
    (ms_b (ms_b (ms_b (ms_lf (ms_iconst hx hb (by decide) (by decide +kernel)))
    (ms_b (ms_lf (ms_aload_n hx hb rfl (by decide +kernel)))
    (ms_lf (ms_getf (C := RX12) (T := TX12) (N := 80) hx hb hf hts (fun w h => hAW w (inq_12 w h)) hown hK rfl (by decide) (hts _ (hAW _ qw_1493)) rfl (by decide +kernel)))))
    (ms_b (ms_b (ms_lf (ms_iconst hx hb (by decide) (by decide +kernel)))
    (ms_lf (ms_bald hx hb hf hA (by decide +kernel))))
    (ms_b (ms_lf (ms_if_eq hx hb (by decide) (by decide +kernel)))
    (ms_lf (ms_iconst hx hb (by decide) (by decide +kernel))))))
    (ms_b (ms_b (ms_lf (ms_goto hx hb (by decide) (by decide +kernel)))
    (ms_b (ms_lf (ms_iconst hx hb (by decide) (by decide +kernel)))
    (ms_lf (ms_iadd hx hb (by decide +kernel)))))
    (ms_b (ms_b (ms_lf (ms_aload_n hx hb rfl (by decide +kernel)))
    (ms_lf (ms_getf (C := RX12) (T := TX12) (N := 80) hx hb hf hts (fun w h => hAW w (inq_12 w h)) hown hK rfl (by decide) (hts _ (hAW _ qw_1493)) rfl (by decide +kernel))))
    (ms_b (ms_lf (ms_iconst hx hb (by decide) (by decide +kernel)))
    (ms_lf (ms_bald hx hb hf hA (by decide +kernel))))))))))
    (ms_b (ms_b (ms_b (ms_b (ms_b (ms_b (ms_lf (ms_if_eq hx hb (by decide) (by decide +kernel)))
    (ms_b (ms_lf (ms_iconst hx hb (by decide) (by decide +kernel)))
    (ms_lf (ms_goto hx hb (by decide) (by decide +kernel)))))
    (ms_b (ms_lf (ms_iconst hx hb (by decide) (by decide +kernel)))
    (ms_b (ms_lf (ms_iadd hx hb (by decide +kernel)))
    (ms_lf (ms_iret hx hb hr hlk (by decide +kernel))))))
    (ms_b (ms_b (ms_lf (ms_aload_n hx hb rfl (by decide +kernel)))
    (ms_b (ms_lf (ms_getf (C := RX12) (T := TX12) (N := 80) hx hb hf hts (fun w h => hAW w (inq_12 w h)) hown hK rfl (by decide) (hts _ (hAW _ qw_1472)) rfl (by decide +kernel)))
    (ms_lf (ms_bipush hx hb (by decide) (by decide +kernel)))))
    (ms_b (ms_b (ms_lf (ms_iald hx hb hf hA hX (by decide +kernel)))
    (ms_lf (ms_aload_n hx hb rfl (by decide +kernel))))
    (ms_b (ms_lf (ms_getf (C := RX12) (T := TX12) (N := 80) hx hb hf hts (fun w h => hAW w (inq_12 w h)) hown hK rfl (by decide) (hts _ (hAW _ qw_1472)) rfl (by decide +kernel)))
    (ms_lf (ms_bipush hx hb (by decide) (by decide +kernel)))))))
    (ms_b (ms_b (ms_b (ms_lf (ms_iald hx hb hf hA hX (by decide +kernel)))
    (ms_b (ms_lf (ms_iadd hx hb (by decide +kernel)))
    (ms_lf (ms_aload_n hx hb rfl (by decide +kernel)))))
    (ms_b (ms_lf (ms_getf (C := RX12) (T := TX12) (N := 80) hx hb hf hts (fun w h => hAW w (inq_12 w h)) hown hK rfl (by decide) (hts _ (hAW _ qw_1472)) rfl (by decide +kernel)))
    (ms_b (ms_lf (ms_bipush hx hb (by decide) (by decide +kernel)))
    (ms_lf (ms_iald hx hb hf hA hX (by decide +kernel))))))
    (ms_b (ms_b (ms_lf (ms_iadd hx hb (by decide +kernel)))
    (ms_b (ms_lf (ms_iret hx hb hr hlk (by decide +kernel)))
    (ms_lf (ms_iconst hx hb (by decide) (by decide +kernel)))))
    (ms_b (ms_b (ms_lf (ms_istore_n hx hb rfl (by decide : 3 < 4) (by decide +kernel)))
    (ms_lf (ms_iload_n hx hb rfl (by decide +kernel))))
    (ms_b (ms_lf (ms_aload_n hx hb rfl (by decide +kernel)))
    (ms_lf (ms_getf (C := RX12) (T := TX12) (N := 80) hx hb hf hts (fun w h => hAW w (inq_12 w h)) hown hK rfl (by decide) (hts _ (hAW _ qw_1446)) rfl (by decide +kernel))))))))
    (ms_b (ms_b (ms_b (ms_b (ms_lf (ms_aload_n hx hb rfl (by decide +kernel)))
    (ms_b (ms_lf (ms_getf (C := RX12) (T := TX12) (N := 80) hx hb hf hts (fun w h => hAW w (inq_12 w h)) hown hK rfl (by decide) (hts _ (hAW _ qw_1433)) rfl (by decide +kernel)))
    (ms_lf (ms_iald hx hb hf hA hX (by decide +kernel)))))
    (ms_b (ms_lf (ms_ic_ge hx hb (by decide) (by decide +kernel)))
    (ms_b (ms_lf (ms_iload_n hx hb rfl (by decide +kernel)))
    (ms_lf (ms_iconst hx hb (by decide) (by decide +kernel))))))
    (ms_b (ms_b (ms_lf (ms_aload_n hx hb rfl (by decide +kernel)))
    (ms_b (ms_lf (ms_getf (C := RX12) (T := TX12) (N := 80) hx hb hf hts (fun w h => hAW w (inq_12 w h)) hown hK rfl (by decide) (hts _ (hAW _ qw_1472)) rfl (by decide +kernel)))
    (ms_lf (ms_bipush hx hb (by decide) (by decide +kernel)))))
    (ms_b (ms_b (ms_lf (ms_iload_n hx hb rfl (by decide +kernel)))
    (ms_lf (ms_iadd hx hb (by decide +kernel))))
    (ms_b (ms_lf (ms_iald hx hb hf hA hX (by decide +kernel)))
    (ms_lf (ms_ishl hx hb (by decide +kernel)))))))
    (ms_b (ms_b (ms_b (ms_lf (ms_ior hx hb (by decide +kernel)))
    (ms_b (ms_lf (ms_istore_n hx hb rfl (by decide : 2 < 4) (by decide +kernel)))
    (ms_lf (ms_iinc hx hb (by decide) (by decide : 3 < 4) (by decide +kernel)))))
    (ms_b (ms_b (ms_lf (ms_goto hx hb (by decide) (by decide +kernel)))
    (ms_lf (ms_iload_n hx hb rfl (by decide +kernel))))
    (ms_b (ms_lf (ms_iret hx hb hr hlk (by decide +kernel)))
    (ms_lf (ms_iconst hx hb (by decide) (by decide +kernel))))))
    (ms_b (ms_b (ms_lf (ms_istore_n hx hb rfl (by decide : 3 < 4) (by decide +kernel)))
    (ms_b (ms_lf (ms_iload_n hx hb rfl (by decide +kernel)))
    (ms_lf (ms_aload_n hx hb rfl (by decide +kernel)))))
    (ms_b (ms_b (ms_lf (ms_ivV (C := RX12) (T := TX12) (N := 80) hx hb hml hown hts hgo hEX hf hK rfl (mm_GV hAW (mm_GI hAW gi_208) qw_1778 qw_1780 qw_75 qw_137) rfl ⟨rfl, hd_208⟩ (mm_rm hRf hRl (Nat.le_of_ble_eq_true rfl)) (by decide +kernel)))
    (ms_lf (ms_ic_ge hx hb (by decide) (by decide +kernel))))
    (ms_b (ms_lf (ms_aload_n hx hb rfl (by decide +kernel)))
    (ms_lf (ms_getf (C := RX12) (T := TX12) (N := 80) hx hb hf hts (fun w h => hAW w (inq_12 w h)) hown hK rfl (by decide) (hts _ (hAW _ qw_1472)) rfl (by decide +kernel)))))))))
    (ms_b (ms_b (ms_b (ms_b (ms_b (ms_lf (ms_iload_n hx hb rfl (by decide +kernel)))
    (ms_b (ms_lf (ms_iald hx hb hf hA hX (by decide +kernel)))
    (ms_lf (ms_iload_n hx hb rfl (by decide +kernel)))))
    (ms_b (ms_lf (ms_ic_le hx hb (by decide) (by decide +kernel)))
    (ms_b (ms_lf (ms_aload_n hx hb rfl (by decide +kernel)))
    (ms_lf (ms_getf (C := RX12) (T := TX12) (N := 80) hx hb hf hts (fun w h => hAW w (inq_12 w h)) hown hK rfl (by decide) (hts _ (hAW _ qw_1472)) rfl (by decide +kernel))))))
    (ms_b (ms_b (ms_lf (ms_iload_n hx hb rfl (by decide +kernel)))
    (ms_b (ms_lf (ms_iald hx hb hf hA hX (by decide +kernel)))
    (ms_lf (ms_istore_n hx hb rfl (by decide : 2 < 4) (by decide +kernel)))))
    (ms_b (ms_b (ms_lf (ms_iinc hx hb (by decide) (by decide : 3 < 4) (by decide +kernel)))
    (ms_lf (ms_goto hx hb (by decide) (by decide +kernel))))
    (ms_b (ms_lf (ms_iload_n hx hb rfl (by decide +kernel)))
    (ms_lf (ms_iret hx hb hr hlk (by decide +kernel)))))))
    (ms_b (ms_b (ms_b (ms_lf (ms_iconst hx hb (by decide) (by decide +kernel)))
    (ms_b (ms_lf (ms_istore_n hx hb rfl (by decide : 3 < 4) (by decide +kernel)))
    (ms_lf (ms_iload_n hx hb rfl (by decide +kernel)))))
    (ms_b (ms_lf (ms_aload_n hx hb rfl (by decide +kernel)))
    (ms_b (ms_lf (ms_getf (C := RX12) (T := TX12) (N := 80) hx hb hf hts (fun w h => hAW w (inq_12 w h)) hown hK rfl (by decide) (hts _ (hAW _ qw_1446)) rfl (by decide +kernel)))
    (ms_lf (ms_aload_n hx hb rfl (by decide +kernel))))))
    (ms_b (ms_b (ms_lf (ms_getf (C := RX12) (T := TX12) (N := 80) hx hb hf hts (fun w h => hAW w (inq_12 w h)) hown hK rfl (by decide) (hts _ (hAW _ qw_1433)) rfl (by decide +kernel)))
    (ms_b (ms_lf (ms_iald hx hb hf hA hX (by decide +kernel)))
    (ms_lf (ms_ic_ge hx hb (by decide) (by decide +kernel)))))
    (ms_b (ms_b (ms_lf (ms_aload_n hx hb rfl (by decide +kernel)))
    (ms_lf (ms_iload_n hx hb rfl (by decide +kernel))))
    (ms_b (ms_lf (ms_ivV (C := RX12) (T := TX12) (N := 80) hx hb hml hown hts hgo hEX hf hK rfl (mm_GV hAW (mm_GI hAW gi_286) qw_2085 qw_2087 qw_115 qw_137) rfl ⟨rfl, hd_286⟩ (mm_rm hRf hRl (Nat.le_of_ble_eq_true rfl)) (by decide +kernel)))
    (ms_lf (ms_if_eq hx hb (by decide) (by decide +kernel))))))))
    (ms_b (ms_b (ms_b (ms_b (ms_lf (ms_iload_n hx hb rfl (by decide +kernel)))
    (ms_b (ms_lf (ms_iconst hx hb (by decide) (by decide +kernel)))
    (ms_lf (ms_iload_n hx hb rfl (by decide +kernel)))))
    (ms_b (ms_lf (ms_ishl hx hb (by decide +kernel)))
    (ms_b (ms_lf (ms_ior hx hb (by decide +kernel)))
    (ms_lf (ms_istore_n hx hb rfl (by decide : 2 < 4) (by decide +kernel))))))
    (ms_b (ms_b (ms_lf (ms_iinc hx hb (by decide) (by decide : 3 < 4) (by decide +kernel)))
    (ms_b (ms_lf (ms_goto hx hb (by decide) (by decide +kernel)))
    (ms_lf (ms_iload_n hx hb rfl (by decide +kernel)))))
    (ms_b (ms_b (ms_lf (ms_iret hx hb hr hlk (by decide +kernel)))
    (ms_lf (ms_aload_n hx hb rfl (by decide +kernel))))
    (ms_b (ms_lf (ms_getf (C := RX12) (T := TX12) (N := 80) hx hb hf hts (fun w h => hAW w (inq_12 w h)) hown hK rfl (by decide) (hts _ (hAW _ qw_1472)) rfl (by decide +kernel)))
    (ms_lf (ms_bipush hx hb (by decide) (by decide +kernel)))))))
    (ms_b (ms_b (ms_b (ms_lf (ms_iald hx hb hf hA hX (by decide +kernel)))
    (ms_b (ms_lf (ms_aload_n hx hb rfl (by decide +kernel)))
    (ms_lf (ms_getf (C := RX12) (T := TX12) (N := 80) hx hb hf hts (fun w h => hAW w (inq_12 w h)) hown hK rfl (by decide) (hts _ (hAW _ qw_1472)) rfl (by decide +kernel)))))
    (ms_b (ms_b (ms_lf (ms_bipush hx hb (by decide) (by decide +kernel)))
    (ms_lf (ms_iald hx hb hf hA hX (by decide +kernel))))
    (ms_b (ms_lf (ms_iadd hx hb (by decide +kernel)))
    (ms_lf (ms_aload_n hx hb rfl (by decide +kernel))))))
    (ms_b (ms_b (ms_lf (ms_getf (C := RX12) (T := TX12) (N := 80) hx hb hf hts (fun w h => hAW w (inq_12 w h)) hown hK rfl (by decide) (hts _ (hAW _ qw_1472)) rfl (by decide +kernel)))
    (ms_b (ms_lf (ms_bipush hx hb (by decide) (by decide +kernel)))
    (ms_lf (ms_iald hx hb hf hA hX (by decide +kernel)))))
    (ms_b (ms_b (ms_lf (ms_iadd hx hb (by decide +kernel)))
    (ms_lf (ms_iret hx hb hr hlk (by decide +kernel))))
    (ms_b (ms_lf (ms_iconst hx hb (by decide) (by decide +kernel)))
    (ms_lf (ms_iret hx hb hr hlk (by decide +kernel)))))))))))
set_option maxRecDepth 100000 in
set_option maxHeartbeats 8000000 in
/-- java/lang/Math.max -/
theorem sd_288 (l : Launch) (f : Nat → Nat) (D : va_G) (cA : FieldType → ClassId) (d : Nat) : mm_Ok2 l f D cA d (yJ9_max_7cf53, cJ9_max_7cf53, 2, (some .int), mc_288) := by
  intro p e R s m args below meth c C hRf hRl pc
  obtain ⟨hx, hb, hml, hr, hlk, hnm, hown, hts, hEX, hgo, hf⟩ := C
  obtain ⟨hK, hA, hX, hZs, hZc, hZq, hTx, hSR0, hSR1, hAO, hN⟩ := id hEX
  have hAW : ∀ w ∈ mm_AW, w ∈ (Cond.code yJ9_max_7cf53 cJ9_max_7cf53 2 (some .int) :: mm_AW) := fun w h => List.mem_cons_of_mem _ h
  have hown : s.vm.findClass "java/lang/Math" = some m.cls := hown
  show mm_S p l e R s m args below meth c f D mm_cl cA 2 _ pc (mc_288 pc)
  unfold mc_288
  exact (ms_b (ms_b (ms_lf (ms_iload_n hx hb rfl (by decide +kernel)))
    (ms_b (ms_lf (ms_iload_n hx hb rfl (by decide +kernel)))
    (ms_lf (ms_ic_lt hx hb (by decide) (by decide +kernel)))))
    (ms_b (ms_b (ms_lf (ms_iload_n hx hb rfl (by decide +kernel)))
    (ms_lf (ms_goto hx hb (by decide) (by decide +kernel))))
    (ms_b (ms_lf (ms_iload_n hx hb rfl (by decide +kernel)))
    (ms_lf (ms_iret hx hb hr hlk (by decide +kernel))))))
set_option maxRecDepth 100000 in
set_option maxHeartbeats 8000000 in
/-- java/lang/Math.min -/
theorem sd_289 (l : Launch) (f : Nat → Nat) (D : va_G) (cA : FieldType → ClassId) (d : Nat) : mm_Ok2 l f D cA d (yJ9_min_7cf53, cJ9_min_7cf53, 2, (some .int), mc_289) := by
  intro p e R s m args below meth c C hRf hRl pc
  obtain ⟨hx, hb, hml, hr, hlk, hnm, hown, hts, hEX, hgo, hf⟩ := C
  obtain ⟨hK, hA, hX, hZs, hZc, hZq, hTx, hSR0, hSR1, hAO, hN⟩ := id hEX
  have hAW : ∀ w ∈ mm_AW, w ∈ (Cond.code yJ9_min_7cf53 cJ9_min_7cf53 2 (some .int) :: mm_AW) := fun w h => List.mem_cons_of_mem _ h
  have hown : s.vm.findClass "java/lang/Math" = some m.cls := hown
  show mm_S p l e R s m args below meth c f D mm_cl cA 2 _ pc (mc_289 pc)
  unfold mc_289
  exact (ms_b (ms_b (ms_lf (ms_iload_n hx hb rfl (by decide +kernel)))
    (ms_b (ms_lf (ms_iload_n hx hb rfl (by decide +kernel)))
    (ms_lf (ms_ic_gt hx hb (by decide) (by decide +kernel)))))
    (ms_b (ms_b (ms_lf (ms_iload_n hx hb rfl (by decide +kernel)))
    (ms_lf (ms_goto hx hb (by decide) (by decide +kernel))))
    (ms_b (ms_lf (ms_iload_n hx hb rfl (by decide +kernel)))
    (ms_lf (ms_iret hx hb hr hlk (by decide +kernel))))))
set_option maxRecDepth 100000 in
set_option maxHeartbeats 8000000 in
/-- java/lang/String.length -/
theorem sd_290 (l : Launch) (f : Nat → Nat) (D : va_G) (cA : FieldType → ClassId) (d : Nat) : mm_Ok2 l f D cA d (yJ0_length_8abf5, cJ0_length_8abf5, 1, (some .int), mc_290) := by
  intro p e R s m args below meth c C hRf hRl pc
  obtain ⟨hx, hb, hml, hr, hlk, hnm, hown, hts, hEX, hgo, hf⟩ := C
  obtain ⟨hK, hA, hX, hZs, hZc, hZq, hTx, hSR0, hSR1, hAO, hN⟩ := id hEX
  have hAW : ∀ w ∈ mm_AW, w ∈ (Cond.code yJ0_length_8abf5 cJ0_length_8abf5 1 (some .int) :: mm_AW) := fun w h => List.mem_cons_of_mem _ h
  have hown : s.vm.findClass "java/lang/String" = some m.cls := hown
  show mm_S p l e R s m args below meth c f D mm_cl cA 1 _ pc (mc_290 pc)
  unfold mc_290
  exact (ms_b (ms_b (ms_lf (ms_aload_n hx hb rfl (by decide +kernel)))
    (ms_b (ms_lf (ms_sgv (SB := mm_sb) hx hb hown hTx (hts _ (hAW _ qw_2089)) (by decide +kernel)))
    (ms_lf (ms_xlen hx hb hTx (by decide +kernel)))))
    (ms_b (ms_b (ms_lf (ms_aload_n hx hb rfl (by decide +kernel)))
    (ms_lf (ms_ivX (SB := mm_sb) hx hb hml hown hts hgo hEX hTx (mm_GV hAW (mm_GI hAW gi_294) qw_157 qw_158 qw_159 qw_119) rfl ⟨rfl, hd_294⟩ (mm_rm hRf hRl (Nat.le_of_ble_eq_true rfl)) (by decide +kernel))))
    (ms_b (ms_lf (ms_ishr hx hb (by decide +kernel)))
    (ms_lf (ms_iret hx hb hr hlk (by decide +kernel))))))
set_option maxRecDepth 100000 in
set_option maxHeartbeats 8000000 in
/-- java/lang/String.charAt -/
theorem sd_291 (l : Launch) (f : Nat → Nat) (D : va_G) (cA : FieldType → ClassId) (d : Nat) : mm_Ok2 l f D cA d (yJ0_charAt_5068e, cJ0_charAt_5068e, 2, (some .char), mc_291) := by
  intro p e R s m args below meth c C hRf hRl pc
  obtain ⟨hx, hb, hml, hr, hlk, hnm, hown, hts, hEX, hgo, hf⟩ := C
  obtain ⟨hK, hA, hX, hZs, hZc, hZq, hTx, hSR0, hSR1, hAO, hN⟩ := id hEX
  have hAW : ∀ w ∈ mm_AW, w ∈ (Cond.code yJ0_charAt_5068e cJ0_charAt_5068e 2 (some .char) :: mm_AW) := fun w h => List.mem_cons_of_mem _ h
  have hown : s.vm.findClass "java/lang/String" = some m.cls := hown
  show mm_S p l e R s m args below meth c f D mm_cl cA 2 _ pc (mc_291 pc)
  unfold mc_291
  exact (ms_b (ms_b (ms_b (ms_lf (ms_aload_n hx hb rfl (by decide +kernel)))
    (ms_b (ms_lf (ms_ivX (SB := mm_sb) hx hb hml hown hts hgo hEX hTx (mm_GV hAW (mm_GI hAW gi_295) qw_167 qw_168 qw_169 qw_119) rfl ⟨rfl, hd_295⟩ (mm_rm hRf hRl (Nat.le_of_ble_eq_true rfl)) (by decide +kernel)))
    (ms_lf (ms_if_eq hx hb (by decide) (by decide +kernel)))))
    (ms_b (ms_lf (ms_aload_n hx hb rfl (by decide +kernel)))
    (ms_b (ms_lf (ms_sgv (SB := mm_sb) hx hb hown hTx (hts _ (hAW _ qw_2089)) (by decide +kernel)))
    (ms_lf (ms_iload_n hx hb rfl (by decide +kernel))))))
    (ms_b (ms_b (ms_lf (ms_ivS hx hb hml hown hts hgo hEX (mm_GS hAW (mm_GI hAW gi_297) qw_171 qw_172 qw_120) rfl hd_297 (mm_rm hRf hRl (Nat.le_of_ble_eq_true rfl)) (by decide +kernel)))
    (ms_b (ms_lf (ms_ire hx hb hr hlk (by decide +kernel)))
    (ms_lf (ms_aload_n hx hb rfl (by decide +kernel)))))
    (ms_b (ms_lf (ms_sgv (SB := mm_sb) hx hb hown hTx (hts _ (hAW _ qw_2089)) (by decide +kernel)))
    (ms_b (ms_lf (ms_iload_n hx hb rfl (by decide +kernel)))
    (ms_lf (ms_ire hx hb hr hlk (by decide +kernel)))))))
set_option maxRecDepth 100000 in
set_option maxHeartbeats 8000000 in
/-- java/lang/String.indexOf -/
theorem sd_292 (l : Launch) (f : Nat → Nat) (D : va_G) (cA : FieldType → ClassId) (d : Nat) : mm_Ok2 l f D cA d (yJ0_indexOf_0f7a4, cJ0_indexOf_0f7a4, 2, (some .int), mc_292) := by
  intro p e R s m args below meth c C hRf hRl pc
  obtain ⟨hx, hb, hml, hr, hlk, hnm, hown, hts, hEX, hgo, hf⟩ := C
  obtain ⟨hK, hA, hX, hZs, hZc, hZq, hTx, hSR0, hSR1, hAO, hN⟩ := id hEX
  have hAW : ∀ w ∈ mm_AW, w ∈ (Cond.code yJ0_indexOf_0f7a4 cJ0_indexOf_0f7a4 2 (some .int) :: mm_AW) := fun w h => List.mem_cons_of_mem _ h
  have hown : s.vm.findClass "java/lang/String" = some m.cls := hown
  show mm_S p l e R s m args below meth c f D mm_cl cA 2 _ pc (mc_292 pc)
  unfold mc_292
  exact (ms_b (ms_b (ms_lf (ms_aload_n hx hb rfl (by decide +kernel)))
    (ms_lf (ms_iload_n hx hb rfl (by decide +kernel))))
    (ms_b (ms_lf (ms_iconst hx hb (by decide) (by decide +kernel)))
    (ms_b (ms_lf (ms_ivX (SB := mm_sb) hx hb hml hown hts hgo hEX hTx (mm_GV hAW (mm_GI hAW gi_293) qw_676 qw_677 qw_678 qw_119) rfl ⟨rfl, hd_293⟩ (mm_rm hRf hRl (Nat.le_of_ble_eq_true rfl)) (by decide +kernel)))
    (ms_lf (ms_iret hx hb hr hlk (by decide +kernel))))))
set_option maxRecDepth 100000 in
set_option maxHeartbeats 8000000 in
/-- java/lang/String.indexOf -/
theorem sd_293 (l : Launch) (f : Nat → Nat) (D : va_G) (cA : FieldType → ClassId) (d : Nat) : mm_Ok2 l f D cA d (yJ0_indexOf_7cf53, cJ0_indexOf_7cf53, 3, (some .int), mc_293) := by
  intro p e R s m args below meth c C hRf hRl pc
  obtain ⟨hx, hb, hml, hr, hlk, hnm, hown, hts, hEX, hgo, hf⟩ := C
  obtain ⟨hK, hA, hX, hZs, hZc, hZq, hTx, hSR0, hSR1, hAO, hN⟩ := id hEX
  have hAW : ∀ w ∈ mm_AW, w ∈ (Cond.code yJ0_indexOf_7cf53 cJ0_indexOf_7cf53 3 (some .int) :: mm_AW) := fun w h => List.mem_cons_of_mem _ h
  have hown : s.vm.findClass "java/lang/String" = some m.cls := hown
  show mm_S p l e R s m args below meth c f D mm_cl cA 3 _ pc (mc_293 pc)
  unfold mc_293
  exact (ms_b (ms_b (ms_b (ms_b (ms_lf (ms_aload_n hx hb rfl (by decide +kernel)))
    (ms_lf (ms_ivX (SB := mm_sb) hx hb hml hown hts hgo hEX hTx (mm_GV hAW (mm_GI hAW gi_295) qw_167 qw_168 qw_169 qw_119) rfl ⟨rfl, hd_295⟩ (mm_rm hRf hRl (Nat.le_of_ble_eq_true rfl)) (by decide +kernel))))
    (ms_b (ms_lf (ms_if_eq hx hb (by decide) (by decide +kernel)))
    (ms_lf (ms_aload_n hx hb rfl (by decide +kernel)))))
    (ms_b (ms_b (ms_lf (ms_sgv (SB := mm_sb) hx hb hown hTx (hts _ (hAW _ qw_2089)) (by decide +kernel)))
    (ms_lf (ms_iload_n hx hb rfl (by decide +kernel))))
    (ms_b (ms_lf (ms_iload_n hx hb rfl (by decide +kernel)))
    (ms_b (ms_lf (ms_aload_n hx hb rfl (by decide +kernel)))
    (ms_lf (ms_ivX (SB := mm_sb) hx hb hml hown hts hgo hEX hTx (mm_GV hAW (mm_GI hAW gi_290) qw_680 qw_154 qw_155 qw_119) rfl ⟨rfl, hd_290⟩ (mm_rm hRf hRl (Nat.le_of_ble_eq_true rfl)) (by decide +kernel)))))))
    (ms_b (ms_b (ms_b (ms_lf (ms_ivS hx hb hml hown hts hgo hEX (mm_GS hAW (mm_GI hAW gi_299) qw_681 qw_682 qw_120) rfl hd_299 (mm_rm hRf hRl (Nat.le_of_ble_eq_true rfl)) (by decide +kernel)))
    (ms_lf (ms_goto hx hb (by decide) (by decide +kernel))))
    (ms_b (ms_lf (ms_aload_n hx hb rfl (by decide +kernel)))
    (ms_lf (ms_sgv (SB := mm_sb) hx hb hown hTx (hts _ (hAW _ qw_2089)) (by decide +kernel)))))
    (ms_b (ms_b (ms_lf (ms_iload_n hx hb rfl (by decide +kernel)))
    (ms_lf (ms_iload_n hx hb rfl (by decide +kernel))))
    (ms_b (ms_lf (ms_aload_n hx hb rfl (by decide +kernel)))
    (ms_b (ms_lf (ms_ivX (SB := mm_sb) hx hb hml hown hts hgo hEX hTx (mm_GV hAW (mm_GI hAW gi_290) qw_680 qw_154 qw_155 qw_119) rfl ⟨rfl, hd_290⟩ (mm_rm hRf hRl (Nat.le_of_ble_eq_true rfl)) (by decide +kernel)))
    (ms_lf (ms_iret hx hb hr hlk (by decide +kernel))))))))
set_option maxRecDepth 100000 in
set_option maxHeartbeats 8000000 in
/-- java/lang/String.coder -/
theorem sd_294 (l : Launch) (f : Nat → Nat) (D : va_G) (cA : FieldType → ClassId) (d : Nat) : mm_Ok2 l f D cA d (yJ0_coder_7d493, cJ0_coder_7d493, 1, (some .byte), mc_294) := by
  intro p e R s m args below meth c C hRf hRl pc
  obtain ⟨hx, hb, hml, hr, hlk, hnm, hown, hts, hEX, hgo, hf⟩ := C
  obtain ⟨hK, hA, hX, hZs, hZc, hZq, hTx, hSR0, hSR1, hAO, hN⟩ := id hEX
  have hAW : ∀ w ∈ mm_AW, w ∈ (Cond.code yJ0_coder_7d493 cJ0_coder_7d493 1 (some .byte) :: mm_AW) := fun w h => List.mem_cons_of_mem _ h
  have hown : s.vm.findClass "java/lang/String" = some m.cls := hown
  show mm_S p l e R s m args below meth c f D mm_cl cA 1 _ pc (mc_294 pc)
  unfold mc_294
  exact (ms_b (ms_b (ms_lf (ms_gsi hx hb hown hZc (hts _ (hAW _ qw_161)) rfl (by decide +kernel)))
    (ms_b (ms_lf (ms_if_eq hx hb (by decide) (by decide +kernel)))
    (ms_lf (ms_aload_n hx hb rfl (by decide +kernel)))))
    (ms_b (ms_b (ms_lf (ms_sgc (SB := mm_sb) hx hb hown hTx (hts _ (hAW _ qw_2090)) (by decide +kernel)))
    (ms_lf (ms_goto hx hb (by decide) (by decide +kernel))))
    (ms_b (ms_lf (ms_iconst hx hb (by decide) (by decide +kernel)))
    (ms_lf (ms_ire hx hb hr hlk (by decide +kernel))))))
set_option maxRecDepth 100000 in
set_option maxHeartbeats 8000000 in
/-- java/lang/String.isLatin1 -/
theorem sd_295 (l : Launch) (f : Nat → Nat) (D : va_G) (cA : FieldType → ClassId) (d : Nat) : mm_Ok2 l f D cA d (yJ0_isLatin1_aae02, cJ0_isLatin1_aae02, 1, (some .boolean), mc_295) := by
  intro p e R s m args below meth c C hRf hRl pc
  obtain ⟨hx, hb, hml, hr, hlk, hnm, hown, hts, hEX, hgo, hf⟩ := C
  obtain ⟨hK, hA, hX, hZs, hZc, hZq, hTx, hSR0, hSR1, hAO, hN⟩ := id hEX
  have hAW : ∀ w ∈ mm_AW, w ∈ (Cond.code yJ0_isLatin1_aae02 cJ0_isLatin1_aae02 1 (some .boolean) :: mm_AW) := fun w h => List.mem_cons_of_mem _ h
  have hown : s.vm.findClass "java/lang/String" = some m.cls := hown
  show mm_S p l e R s m args below meth c f D mm_cl cA 1 _ pc (mc_295 pc)
  unfold mc_295
  exact (ms_b (ms_b (ms_b (ms_lf (ms_gsi hx hb hown hZc (hts _ (hAW _ qw_161)) rfl (by decide +kernel)))
    (ms_lf (ms_if_eq hx hb (by decide) (by decide +kernel))))
    (ms_b (ms_lf (ms_aload_n hx hb rfl (by decide +kernel)))
    (ms_lf (ms_sgc (SB := mm_sb) hx hb hown hTx (hts _ (hAW _ qw_2090)) (by decide +kernel)))))
    (ms_b (ms_b (ms_lf (ms_if_ne hx hb (by decide) (by decide +kernel)))
    (ms_lf (ms_iconst hx hb (by decide) (by decide +kernel))))
    (ms_b (ms_lf (ms_goto hx hb (by decide) (by decide +kernel)))
    (ms_b (ms_lf (ms_iconst hx hb (by decide) (by decide +kernel)))
    (ms_lf (ms_iret hx hb hr hlk (by decide +kernel)))))))
set_option maxRecDepth 100000 in
set_option maxHeartbeats 8000000 in
/-- java/lang/String.checkIndex -/
theorem sd_296 (l : Launch) (f : Nat → Nat) (D : va_G) (cA : FieldType → ClassId) (d : Nat) : mm_Ok2 l f D cA d (yJ0_checkIndex_df160, cJ0_checkIndex_df160, 2, none, mc_296) := by
  intro p e R s m args below meth c C hRf hRl pc
  obtain ⟨hx, hb, hml, hr, hlk, hnm, hown, hts, hEX, hgo, hf⟩ := C
  obtain ⟨hK, hA, hX, hZs, hZc, hZq, hTx, hSR0, hSR1, hAO, hN⟩ := id hEX
  have hAW : ∀ w ∈ mm_AW, w ∈ (Cond.code yJ0_checkIndex_df160 cJ0_checkIndex_df160 2 none :: mm_AW) := fun w h => List.mem_cons_of_mem _ h
  have hown : s.vm.findClass "java/lang/String" = some m.cls := hown
  show mm_S p l e R s m args below meth c f D mm_cl cA 2 _ pc (mc_296 pc)
  unfold mc_296
  exact (ms_b (ms_b (ms_lf (ms_iload_n hx hb rfl (by decide +kernel)))
    (ms_b (ms_lf (ms_iload_n hx hb rfl (by decide +kernel)))
    (ms_lf (ms_gsq hx hb hown hZq (hts _ (hAW _ qw_177)) rfl (by decide +kernel)))))
    (ms_b (ms_lf (ms_ivS hx hb hml hown hts hgo hEX (mm_GS hAW (mm_GI hAW gi_302) qw_179 qw_180 qw_121) rfl hd_302 (mm_rm hRf hRl (Nat.le_of_ble_eq_true rfl)) (by decide +kernel)))
    (ms_b (ms_lf (ms_pop hx hb (by decide +kernel)))
    (ms_lf (ms_ret hx hb hr hlk (by decide +kernel))))))
set_option maxRecDepth 100000 in
set_option maxHeartbeats 8000000 in
/-- java/lang/StringLatin1.charAt -/
theorem sd_297 (l : Launch) (f : Nat → Nat) (D : va_G) (cA : FieldType → ClassId) (d : Nat) : mm_Ok2 l f D cA d (yJ1_charAt_3b067, cJ1_charAt_3b067, 2, (some .char), mc_297) := by
  intro p e R s m args below meth c C hRf hRl pc
  obtain ⟨hx, hb, hml, hr, hlk, hnm, hown, hts, hEX, hgo, hf⟩ := C
  obtain ⟨hK, hA, hX, hZs, hZc, hZq, hTx, hSR0, hSR1, hAO, hN⟩ := id hEX
  have hAW : ∀ w ∈ mm_AW, w ∈ (Cond.code yJ1_charAt_3b067 cJ1_charAt_3b067 2 (some .char) :: mm_AW) := fun w h => List.mem_cons_of_mem _ h
  have hown : s.vm.findClass "java/lang/StringLatin1" = some m.cls := hown
  show mm_S p l e R s m args below meth c f D mm_cl cA 2 _ pc (mc_297 pc)
  unfold mc_297
  exact (ms_b (ms_b (ms_b (ms_lf (ms_iload_n hx hb rfl (by decide +kernel)))
    (ms_lf (ms_aload_n hx hb rfl (by decide +kernel))))
    (ms_b (ms_lf (ms_xlen hx hb hTx (by decide +kernel)))
    (ms_b (ms_lf (ms_ivS hx hb hml hown hts hgo hEX (mm_GS hAW (mm_GI hAW gi_296) qw_174 qw_175 qw_119) rfl hd_296 (mm_rm hRf hRl (Nat.le_of_ble_eq_true rfl)) (by decide +kernel)))
    (ms_lf (ms_aload_n hx hb rfl (by decide +kernel))))))
    (ms_b (ms_b (ms_lf (ms_iload_n hx hb rfl (by decide +kernel)))
    (ms_b (ms_lf (ms_xbl hx hb hTx (by decide +kernel)))
    (ms_lf (ms_sipush hx hb (by decide) (by decide +kernel)))))
    (ms_b (ms_lf (ms_iand hx hb (by decide +kernel)))
    (ms_b (ms_lf (ms_i2c hx hb (by decide +kernel)))
    (ms_lf (ms_ire hx hb hr hlk (by decide +kernel)))))))
set_option maxRecDepth 100000 in
set_option maxHeartbeats 8000000 in
/-- java/lang/StringLatin1.canEncode -/
theorem sd_298 (l : Launch) (f : Nat → Nat) (D : va_G) (cA : FieldType → ClassId) (d : Nat) : mm_Ok2 l f D cA d (yJ1_canEncode_9a6ad, cJ1_canEncode_9a6ad, 1, (some .boolean), mc_298) := by
  intro p e R s m args below meth c C hRf hRl pc
  obtain ⟨hx, hb, hml, hr, hlk, hnm, hown, hts, hEX, hgo, hf⟩ := C
  obtain ⟨hK, hA, hX, hZs, hZc, hZq, hTx, hSR0, hSR1, hAO, hN⟩ := id hEX
  have hAW : ∀ w ∈ mm_AW, w ∈ (Cond.code yJ1_canEncode_9a6ad cJ1_canEncode_9a6ad 1 (some .boolean) :: mm_AW) := fun w h => List.mem_cons_of_mem _ h
  have hown : s.vm.findClass "java/lang/StringLatin1" = some m.cls := hown
  show mm_S p l e R s m args below meth c f D mm_cl cA 1 _ pc (mc_298 pc)
  unfold mc_298
  exact (ms_b (ms_b (ms_b (ms_lf (ms_iload_n hx hb rfl (by decide +kernel)))
    (ms_lf (ms_if_lt hx hb (by decide) (by decide +kernel))))
    (ms_b (ms_lf (ms_iload_n hx hb rfl (by decide +kernel)))
    (ms_lf (ms_sipush hx hb (by decide) (by decide +kernel)))))
    (ms_b (ms_b (ms_lf (ms_ic_gt hx hb (by decide) (by decide +kernel)))
    (ms_lf (ms_iconst hx hb (by decide) (by decide +kernel))))
    (ms_b (ms_lf (ms_goto hx hb (by decide) (by decide +kernel)))
    (ms_b (ms_lf (ms_iconst hx hb (by decide) (by decide +kernel)))
    (ms_lf (ms_iret hx hb hr hlk (by decide +kernel)))))))
set_option maxRecDepth 100000 in
set_option maxHeartbeats 8000000 in
/-- java/lang/StringLatin1.indexOf -/
theorem sd_299 (l : Launch) (f : Nat → Nat) (D : va_G) (cA : FieldType → ClassId) (d : Nat) : mm_Ok2 l f D cA d (yJ1_indexOf_4cfef, cJ1_indexOf_4cfef, 4, (some .int), mc_299) := by
  intro p e R s m args below meth c C hRf hRl pc
  obtain ⟨hx, hb, hml, hr, hlk, hnm, hown, hts, hEX, hgo, hf⟩ := C
  obtain ⟨hK, hA, hX, hZs, hZc, hZq, hTx, hSR0, hSR1, hAO, hN⟩ := id hEX
  have hAW : ∀ w ∈ mm_AW, w ∈ (Cond.code yJ1_indexOf_4cfef cJ1_indexOf_4cfef 4 (some .int) :: mm_AW) := fun w h => List.mem_cons_of_mem _ h
  have hown : s.vm.findClass "java/lang/StringLatin1" = some m.cls := hown
  show mm_S p l e R s m args below meth c f D mm_cl cA 4 _ pc (mc_299 pc)
  unfold mc_299
  exact (ms_b (ms_b (ms_b (ms_b (ms_lf (ms_iload_n hx hb rfl (by decide +kernel)))
    (ms_b (ms_lf (ms_ivS hx hb hml hown hts hgo hEX (mm_GS hAW (mm_GI hAW gi_298) qw_684 qw_685 qw_120) rfl hd_298 (mm_rm hRf hRl (Nat.le_of_ble_eq_true rfl)) (by decide +kernel)))
    (ms_lf (ms_if_ne hx hb (by decide) (by decide +kernel)))))
    (ms_b (ms_lf (ms_iconst hx hb (by decide) (by decide +kernel)))
    (ms_b (ms_lf (ms_iret hx hb hr hlk (by decide +kernel)))
    (ms_lf (ms_iload_n hx hb rfl (by decide +kernel))))))
    (ms_b (ms_b (ms_lf (ms_iconst hx hb (by decide) (by decide +kernel)))
    (ms_b (ms_lf (ms_ivS hx hb hml hown hts hgo hEX (mm_GS hAW (mm_GI hAW gi_288) qw_687 qw_688 qw_134) rfl hd_288 (mm_rm hRf hRl (Nat.le_of_ble_eq_true rfl)) (by decide +kernel)))
    (ms_lf (ms_istore_n hx hb rfl (by decide : 2 < 4) (by decide +kernel)))))
    (ms_b (ms_lf (ms_iload_n hx hb rfl (by decide +kernel)))
    (ms_b (ms_lf (ms_aload_n hx hb rfl (by decide +kernel)))
    (ms_lf (ms_xlen hx hb hTx (by decide +kernel)))))))
    (ms_b (ms_b (ms_b (ms_lf (ms_ivS hx hb hml hown hts hgo hEX (mm_GS hAW (mm_GI hAW gi_289) qw_690 qw_691 qw_134) rfl hd_289 (mm_rm hRf hRl (Nat.le_of_ble_eq_true rfl)) (by decide +kernel)))
    (ms_b (ms_lf (ms_istore_n hx hb rfl (by decide : 3 < 4) (by decide +kernel)))
    (ms_lf (ms_iload_n hx hb rfl (by decide +kernel)))))
    (ms_b (ms_lf (ms_iload_n hx hb rfl (by decide +kernel)))
    (ms_b (ms_lf (ms_ic_lt hx hb (by decide) (by decide +kernel)))
    (ms_lf (ms_iconst hx hb (by decide) (by decide +kernel))))))
    (ms_b (ms_b (ms_lf (ms_iret hx hb hr hlk (by decide +kernel)))
    (ms_b (ms_lf (ms_aload_n hx hb rfl (by decide +kernel)))
    (ms_lf (ms_iload_n hx hb rfl (by decide +kernel)))))
    (ms_b (ms_b (ms_lf (ms_iload_n hx hb rfl (by decide +kernel)))
    (ms_lf (ms_iload_n hx hb rfl (by decide +kernel))))
    (ms_b (ms_lf (ms_ivS hx hb hml hown hts hgo hEX (mm_GS hAW (mm_GI hAW gi_300) qw_693 qw_694 qw_120) rfl hd_300 (mm_rm hRf hRl (Nat.le_of_ble_eq_true rfl)) (by decide +kernel)))
    (ms_lf (ms_iret hx hb hr hlk (by decide +kernel))))))))
set_option maxRecDepth 100000 in
set_option maxHeartbeats 8000000 in
/-- java/lang/StringLatin1.indexOfChar -/
theorem sd_300 (l : Launch) (f : Nat → Nat) (D : va_G) (cA : FieldType → ClassId) (d : Nat) : mm_Ok2 l f D cA d (yJ1_indexOfChar_4cfef, cJ1_indexOfChar_4cfef, 6, (some .int), mc_300) := by
  intro p e R s m args below meth c C hRf hRl pc
  obtain ⟨hx, hb, hml, hr, hlk, hnm, hown, hts, hEX, hgo, hf⟩ := C
  obtain ⟨hK, hA, hX, hZs, hZc, hZq, hTx, hSR0, hSR1, hAO, hN⟩ := id hEX
  have hAW : ∀ w ∈ mm_AW, w ∈ (Cond.code yJ1_indexOfChar_4cfef cJ1_indexOfChar_4cfef 6 (some .int) :: mm_AW) := fun w h => List.mem_cons_of_mem _ h
  have hown : s.vm.findClass "java/lang/StringLatin1" = some m.cls := hown
  show mm_S p l e R s m args below meth c f D mm_cl cA 6 _ pc (mc_300 pc)
  unfold mc_300
  exact (ms_b (ms_b (ms_b (ms_b (ms_lf (ms_iload_n hx hb rfl (by decide +kernel)))
    (ms_lf (ms_i2b hx hb (by decide +kernel))))
    (ms_b (ms_lf (ms_istore hx hb (by decide : 4 < 6) (by decide +kernel)))
    (ms_lf (ms_iload_n hx hb rfl (by decide +kernel)))))
    (ms_b (ms_b (ms_lf (ms_istore hx hb (by decide : 5 < 6) (by decide +kernel)))
    (ms_lf (ms_iload hx hb (by decide +kernel))))
    (ms_b (ms_lf (ms_iload_n hx hb rfl (by decide +kernel)))
    (ms_b (ms_lf (ms_ic_ge hx hb (by decide) (by decide +kernel)))
    (ms_lf (ms_aload_n hx hb rfl (by decide +kernel)))))))
    (ms_b (ms_b (ms_b (ms_lf (ms_iload hx hb (by decide +kernel)))
    (ms_lf (ms_xbl hx hb hTx (by decide +kernel))))
    (ms_b (ms_lf (ms_iload hx hb (by decide +kernel)))
    (ms_b (ms_lf (ms_ic_ne hx hb (by decide) (by decide +kernel)))
    (ms_lf (ms_iload hx hb (by decide +kernel))))))
    (ms_b (ms_b (ms_lf (ms_iret hx hb hr hlk (by decide +kernel)))
    (ms_lf (ms_iinc hx hb (by decide) (by decide : 5 < 6) (by decide +kernel))))
    (ms_b (ms_lf (ms_goto hx hb (by decide) (by decide +kernel)))
    (ms_b (ms_lf (ms_iconst hx hb (by decide) (by decide +kernel)))
    (ms_lf (ms_iret hx hb hr hlk (by decide +kernel))))))))
set_option maxRecDepth 100000 in
set_option maxHeartbeats 8000000 in
/-- java/util/Arrays.fill -/
theorem sd_301 (l : Launch) (f : Nat → Nat) (D : va_G) (cA : FieldType → ClassId) (d : Nat) : mm_Ok2 l f D cA d (yJ7_fill_53178, cJ7_fill_53178, 4, none, mc_301) := by
  intro p e R s m args below meth c C hRf hRl pc
  obtain ⟨hx, hb, hml, hr, hlk, hnm, hown, hts, hEX, hgo, hf⟩ := C
  obtain ⟨hK, hA, hX, hZs, hZc, hZq, hTx, hSR0, hSR1, hAO, hN⟩ := id hEX
  have hAW : ∀ w ∈ mm_AW, w ∈ (Cond.code yJ7_fill_53178 cJ7_fill_53178 4 none :: mm_AW) := fun w h => List.mem_cons_of_mem _ h
  have hown : s.vm.findClass "java/util/Arrays" = some m.cls := hown
  show mm_S p l e R s m args below meth c f D mm_cl cA 4 _ pc (mc_301 pc)
  unfold mc_301
  exact (ms_b (ms_b (ms_b (ms_lf (ms_iconst hx hb (by decide) (by decide +kernel)))
    (ms_b (ms_lf (ms_istore_n hx hb rfl (by decide : 2 < 4) (by decide +kernel)))
    (ms_lf (ms_aload_n hx hb rfl (by decide +kernel)))))
    (ms_b (ms_b (ms_lf (ms_alen hx hb hf hA hX (by decide +kernel)))
    (ms_lf (ms_istore_n hx hb rfl (by decide : 3 < 4) (by decide +kernel))))
    (ms_b (ms_lf (ms_iload_n hx hb rfl (by decide +kernel)))
    (ms_lf (ms_iload_n hx hb rfl (by decide +kernel))))))
    (ms_b (ms_b (ms_b (ms_lf (ms_ic_ge hx hb (by decide) (by decide +kernel)))
    (ms_lf (ms_aload_n hx hb rfl (by decide +kernel))))
    (ms_b (ms_lf (ms_iload_n hx hb rfl (by decide +kernel)))
    (ms_lf (ms_iload_n hx hb rfl (by decide +kernel)))))
    (ms_b (ms_b (ms_lf (ms_iast hx hb hf hA (by decide +kernel)))
    (ms_lf (ms_iinc hx hb (by decide) (by decide : 2 < 4) (by decide +kernel))))
    (ms_b (ms_lf (ms_goto hx hb (by decide) (by decide +kernel)))
    (ms_lf (ms_ret hx hb hr hlk (by decide +kernel)))))))
set_option maxRecDepth 100000 in
set_option maxHeartbeats 8000000 in
/-- jdk/internal/util/Preconditions.checkIndex -/
theorem sd_302 (l : Launch) (f : Nat → Nat) (D : va_G) (cA : FieldType → ClassId) (d : Nat) : mm_Ok2 l f D cA d (yJ3_checkIndex_8e157, cJ3_checkIndex_8e157, 3, (some .int), mc_302) := by
  intro p e R s m args below meth c C hRf hRl pc
  obtain ⟨hx, hb, hml, hr, hlk, hnm, hown, hts, hEX, hgo, hf⟩ := C
  obtain ⟨hK, hA, hX, hZs, hZc, hZq, hTx, hSR0, hSR1, hAO, hN⟩ := id hEX
  have hAW : ∀ w ∈ mm_AW, w ∈ (Cond.code yJ3_checkIndex_8e157 cJ3_checkIndex_8e157 3 (some .int) :: mm_AW) := fun w h => List.mem_cons_of_mem _ h
  have hown : s.vm.findClass "jdk/internal/util/Preconditions" = some m.cls := hown
  show mm_S p l e R s m args below meth c f D mm_cl cA 3 _ pc (mc_302 pc)
  unfold mc_302
  exact (ms_b (ms_b (ms_b (ms_lf (ms_iload_n hx hb rfl (by decide +kernel)))
    (ms_lf (ms_if_lt hx hb (by decide) (by decide +kernel))))
    (ms_b (ms_lf (ms_iload_n hx hb rfl (by decide +kernel)))
    (ms_b (ms_lf (ms_iload_n hx hb rfl (by decide +kernel)))
    (ms_lf (ms_ic_lt hx hb (by decide) (by decide +kernel))))))
    (ms_b (ms_b (ms_lf (ms_aload_n hx hb rfl (by decide +kernel)))
    (ms_lf (ms_iload_n hx hb rfl (by decide +kernel))))
    (ms_b (ms_lf (ms_iload_n hx hb rfl (by decide +kernel)))
    (ms_b (ms_lf (ms_iload_n hx hb rfl (by decide +kernel)))
    (ms_lf (ms_iret hx hb hr hlk (by decide +kernel)))))))
