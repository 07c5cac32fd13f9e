set_option maxRecDepth 100000 in
set_option maxHeartbeats 8000000 in
/-- TippedCratesModel.isLie -/
theorem sd_203 (l : Launch) (f : Nat → Nat) (D : va_G) (cA : FieldType → ClassId) (d : Nat) : mm_Ok2 l f D cA d (yX12_isLie, cX12_isLie, 3, (some .boolean), mc_203) := by
  intro p e R s m args below meth c C hRf hRl pc
  obtain ⟨hx, hb, hml, hr, hlk, hnm, hown, hts, hEX, hgo, hf⟩ := C
  obtain ⟨hK, hA, hX, hZs, hZc, hZq, hTx, hSR0, hSR1, hAO, hN⟩ := id hEX
  have hAW : ∀ w ∈ mm_AW, w ∈ (Cond.code yX12_isLie cX12_isLie 3 (some .boolean) :: mm_AW) := fun w h => List.mem_cons_of_mem _ h
  have hown : s.vm.findClass "TippedCratesModel" = some m.cls := hown
  show mm_S p l e R s m args below meth c f D mm_cl cA 3 _ pc (mc_203 pc)
  unfold mc_203
  exact (ms_b (ms_b (ms_b (ms_b (ms_lf (ms_iconst hx hb (by decide) (by decide +kernel)))
    (ms_b (ms_lf (ms_istore_n hx hb rfl (by decide : 2 < 3) (by decide +kernel)))
    (ms_lf (ms_iload_n hx hb rfl (by decide +kernel)))))
    (ms_b (ms_lf (ms_bipush hx hb (by decide) (by decide +kernel)))
    (ms_b (ms_lf (ms_ic_ge hx hb (by decide) (by decide +kernel)))
    (ms_lf (ms_aload_n hx hb rfl (by decide +kernel))))))
    (ms_b (ms_b (ms_lf (ms_getf (C := RX12) (T := TX12) (N := 80) hx hb hf hts (fun w h => hAW w (inq_12 w h)) hown hK rfl (by decide) (hts _ (hAW _ qw_1467)) rfl (by decide +kernel)))
    (ms_b (ms_lf (ms_bipush hx hb (by decide) (by decide +kernel)))
    (ms_lf (ms_iload_n hx hb rfl (by decide +kernel)))))
    (ms_b (ms_lf (ms_imul hx hb (by decide +kernel)))
    (ms_b (ms_lf (ms_iload_n hx hb rfl (by decide +kernel)))
    (ms_lf (ms_iadd hx hb (by decide +kernel)))))))
    (ms_b (ms_b (ms_b (ms_lf (ms_iald hx hb hf hA hX (by decide +kernel)))
    (ms_b (ms_lf (ms_aload_n hx hb rfl (by decide +kernel)))
    (ms_lf (ms_getf (C := RX12) (T := TX12) (N := 80) hx hb hf hts (fun w h => hAW w (inq_12 w h)) hown hK rfl (by decide) (hts _ (hAW _ qw_1469)) rfl (by decide +kernel)))))
    (ms_b (ms_lf (ms_iload_n hx hb rfl (by decide +kernel)))
    (ms_b (ms_lf (ms_iald hx hb hf hA hX (by decide +kernel)))
    (ms_lf (ms_ic_eq hx hb (by decide) (by decide +kernel))))))
    (ms_b (ms_b (ms_lf (ms_iconst hx hb (by decide) (by decide +kernel)))
    (ms_b (ms_lf (ms_iret hx hb hr hlk (by decide +kernel)))
    (ms_lf (ms_iinc hx hb (by decide) (by decide : 2 < 3) (by decide +kernel)))))
    (ms_b (ms_lf (ms_goto hx hb (by decide) (by decide +kernel)))
    (ms_b (ms_lf (ms_iconst hx hb (by decide) (by decide +kernel)))
    (ms_lf (ms_iret hx hb hr hlk (by decide +kernel))))))))
set_option maxRecDepth 100000 in
set_option maxHeartbeats 8000000 in
/-- TippedCratesModel.lieOf -/
theorem sd_204 (l : Launch) (f : Nat → Nat) (D : va_G) (cA : FieldType → ClassId) (d : Nat) : mm_Ok2 l f D cA d (yX12_lieOf, cX12_lieOf, 2, (some .int), mc_204) := by
  intro p e R s m args below meth c C hRf hRl pc
  obtain ⟨hx, hb, hml, hr, hlk, hnm, hown, hts, hEX, hgo, hf⟩ := C
  obtain ⟨hK, hA, hX, hZs, hZc, hZq, hTx, hSR0, hSR1, hAO, hN⟩ := id hEX
  have hAW : ∀ w ∈ mm_AW, w ∈ (Cond.code yX12_lieOf cX12_lieOf 2 (some .int) :: mm_AW) := fun w h => List.mem_cons_of_mem _ h
  have hown : s.vm.findClass "TippedCratesModel" = some m.cls := hown
  show mm_S p l e R s m args below meth c f D mm_cl cA 2 _ pc (mc_204 pc)
  unfold mc_204
  exact (ms_b (ms_b (ms_b (ms_b (ms_b (ms_lf (ms_iconst hx hb (by decide) (by decide +kernel)))
    (ms_lf (ms_istore_n hx hb rfl (by decide : 1 < 2) (by decide +kernel))))
    (ms_b (ms_lf (ms_iload_n hx hb rfl (by decide +kernel)))
    (ms_b (ms_lf (ms_aload_n hx hb rfl (by decide +kernel)))
    (ms_lf (ms_getf (C := RX12) (T := TX12) (N := 80) hx hb hf hts (fun w h => hAW w (inq_12 w h)) hown hK rfl (by decide) (hts _ (hAW _ qw_1470)) rfl (by decide +kernel))))))
    (ms_b (ms_b (ms_lf (ms_ic_ge hx hb (by decide) (by decide +kernel)))
    (ms_b (ms_lf (ms_aload_n hx hb rfl (by decide +kernel)))
    (ms_lf (ms_iload_n hx hb rfl (by decide +kernel)))))
    (ms_b (ms_lf (ms_ivV (C := RX12) (T := TX12) (N := 80) hx hb hml hown hts hgo hEX hf hK rfl (mm_GV hAW (mm_GI hAW gi_203) qw_1401 qw_1403 qw_48 qw_137) rfl ⟨rfl, hd_203⟩ (mm_rm hRf hRl (Nat.le_of_ble_eq_true rfl)) (by decide +kernel)))
    (ms_b (ms_lf (ms_if_eq hx hb (by decide) (by decide +kernel)))
    (ms_lf (ms_iload_n hx hb rfl (by decide +kernel)))))))
    (ms_b (ms_b (ms_b (ms_lf (ms_iret hx hb hr hlk (by decide +kernel)))
    (ms_lf (ms_iinc hx hb (by decide) (by decide : 1 < 2) (by decide +kernel))))
    (ms_b (ms_lf (ms_goto hx hb (by decide) (by decide +kernel)))
    (ms_b (ms_lf (ms_iconst hx hb (by decide) (by decide +kernel)))
    (ms_lf (ms_istore_n hx hb rfl (by decide : 1 < 2) (by decide +kernel))))))
    (ms_b (ms_b (ms_lf (ms_iload_n hx hb rfl (by decide +kernel)))
    (ms_b (ms_lf (ms_bipush hx hb (by decide) (by decide +kernel)))
    (ms_lf (ms_ic_ge hx hb (by decide) (by decide +kernel)))))
    (ms_b (ms_lf (ms_aload_n hx hb rfl (by decide +kernel)))
    (ms_b (ms_lf (ms_getf (C := RX12) (T := TX12) (N := 80) hx hb hf hts (fun w h => hAW w (inq_12 w h)) hown hK rfl (by decide) (hts _ (hAW _ qw_1467)) rfl (by decide +kernel)))
    (ms_lf (ms_bipush hx hb (by decide) (by decide +kernel))))))))
    (ms_b (ms_b (ms_b (ms_b (ms_lf (ms_aload_n hx hb rfl (by decide +kernel)))
    (ms_lf (ms_getf (C := RX12) (T := TX12) (N := 80) hx hb hf hts (fun w h => hAW w (inq_12 w h)) hown hK rfl (by decide) (hts _ (hAW _ qw_1470)) rfl (by decide +kernel))))
    (ms_b (ms_lf (ms_imul hx hb (by decide +kernel)))
    (ms_b (ms_lf (ms_iload_n hx hb rfl (by decide +kernel)))
    (ms_lf (ms_iadd hx hb (by decide +kernel))))))
    (ms_b (ms_b (ms_lf (ms_aload_n hx hb rfl (by decide +kernel)))
    (ms_b (ms_lf (ms_getf (C := RX12) (T := TX12) (N := 80) hx hb hf hts (fun w h => hAW w (inq_12 w h)) hown hK rfl (by decide) (hts _ (hAW _ qw_1469)) rfl (by decide +kernel)))
    (ms_lf (ms_iload_n hx hb rfl (by decide +kernel)))))
    (ms_b (ms_lf (ms_iald hx hb hf hA hX (by decide +kernel)))
    (ms_b (ms_lf (ms_iast hx hb hf hA (by decide +kernel)))
    (ms_lf (ms_iinc hx hb (by decide) (by decide : 1 < 2) (by decide +kernel)))))))
    (ms_b (ms_b (ms_b (ms_lf (ms_goto hx hb (by decide) (by decide +kernel)))
    (ms_b (ms_lf (ms_aload_n hx hb rfl (by decide +kernel)))
    (ms_lf (ms_dup hx hb (by decide +kernel)))))
    (ms_b (ms_lf (ms_getf (C := RX12) (T := TX12) (N := 80) hx hb hf hts (fun w h => hAW w (inq_12 w h)) hown hK rfl (by decide) (hts _ (hAW _ qw_1470)) rfl (by decide +kernel)))
    (ms_b (ms_lf (ms_iconst hx hb (by decide) (by decide +kernel)))
    (ms_lf (ms_iadd hx hb (by decide +kernel))))))
    (ms_b (ms_b (ms_lf (ms_put (C := RX12) (T := TX12) (N := 80) hx hb hf hts (fun w h => hAW w (inq_12 w h)) tyX12 tyX12_ok nmX12 hown hK rfl (by decide) (hts _ (hAW _ qw_1470)) rfl rfl rfl (by decide +kernel)))
    (ms_b (ms_lf (ms_aload_n hx hb rfl (by decide +kernel)))
    (ms_lf (ms_getf (C := RX12) (T := TX12) (N := 80) hx hb hf hts (fun w h => hAW w (inq_12 w h)) hown hK rfl (by decide) (hts _ (hAW _ qw_1470)) rfl (by decide +kernel)))))
    (ms_b (ms_lf (ms_iconst hx hb (by decide) (by decide +kernel)))
    (ms_b (ms_lf (ms_isub hx hb (by decide +kernel)))
    (ms_lf (ms_iret hx hb hr hlk (by decide +kernel)))))))))
set_option maxRecDepth 100000 in
set_option maxHeartbeats 8000000 in
/-- TippedCratesModel.fillsLies -/
theorem sd_205 (l : Launch) (f : Nat → Nat) (D : va_G) (cA : FieldType → ClassId) (d : Nat) : mm_Ok2 l f D cA d (yX12_fillsLies, cX12_fillsLies, 4, none, mc_205) := by
  intro p e R s m args below meth c C hRf hRl pc
  obtain ⟨hx, hb, hml, hr, hlk, hnm, hown, hts, hEX, hgo, hf⟩ := C
  obtain ⟨hK, hA, hX, hZs, hZc, hZq, hTx, hSR0, hSR1, hAO, hN⟩ := id hEX
  have hAW : ∀ w ∈ mm_AW, w ∈ (Cond.code yX12_fillsLies cX12_fillsLies 4 none :: mm_AW) := fun w h => List.mem_cons_of_mem _ h
  have hown : s.vm.findClass "TippedCratesModel" = some m.cls := hown
  show mm_S p l e R s m args below meth c f D mm_cl cA 4 _ pc (mc_205 pc)
  unfold mc_205
  exact (ms_b (ms_b (ms_b (ms_b (ms_b (ms_b (ms_lf (ms_iconst hx hb (by decide) (by decide +kernel)))
    (ms_lf (ms_istore_n hx hb rfl (by decide : 1 < 4) (by decide +kernel))))
    (ms_b (ms_lf (ms_iload_n hx hb rfl (by decide +kernel)))
    (ms_lf (ms_bipush hx hb (by decide) (by decide +kernel)))))
    (ms_b (ms_b (ms_lf (ms_ic_ge hx hb (by decide) (by decide +kernel)))
    (ms_lf (ms_aload_n hx hb rfl (by decide +kernel))))
    (ms_b (ms_lf (ms_getf (C := RX12) (T := TX12) (N := 80) hx hb hf hts (fun w h => hAW w (inq_12 w h)) hown hK rfl (by decide) (hts _ (hAW _ qw_1469)) rfl (by decide +kernel)))
    (ms_lf (ms_iload_n hx hb rfl (by decide +kernel))))))
    (ms_b (ms_b (ms_b (ms_lf (ms_iload_n hx hb rfl (by decide +kernel)))
    (ms_lf (ms_iast hx hb hf hA (by decide +kernel))))
    (ms_b (ms_lf (ms_iinc hx hb (by decide) (by decide : 1 < 4) (by decide +kernel)))
    (ms_lf (ms_goto hx hb (by decide) (by decide +kernel)))))
    (ms_b (ms_b (ms_lf (ms_aload_n hx hb rfl (by decide +kernel)))
    (ms_lf (ms_iconst hx hb (by decide) (by decide +kernel))))
    (ms_b (ms_lf (ms_put (C := RX12) (T := TX12) (N := 80) hx hb hf hts (fun w h => hAW w (inq_12 w h)) tyX12 tyX12_ok nmX12 hown hK rfl (by decide) (hts _ (hAW _ qw_1470)) rfl rfl rfl (by decide +kernel)))
    (ms_lf (ms_aload_n hx hb rfl (by decide +kernel)))))))
    (ms_b (ms_b (ms_b (ms_b (ms_lf (ms_ivV (C := RX12) (T := TX12) (N := 80) hx hb hml hown hts hgo hEX hf hK rfl (mm_GV hAW (mm_GI hAW gi_204) qw_1397 qw_1399 qw_47 qw_137) rfl ⟨rfl, hd_204⟩ (mm_rm hRf hRl (Nat.le_of_ble_eq_true rfl)) (by decide +kernel)))
    (ms_lf (ms_pop hx hb (by decide +kernel))))
    (ms_b (ms_lf (ms_iconst hx hb (by decide) (by decide +kernel)))
    (ms_lf (ms_istore_n hx hb rfl (by decide : 1 < 4) (by decide +kernel)))))
    (ms_b (ms_b (ms_lf (ms_iload_n hx hb rfl (by decide +kernel)))
    (ms_lf (ms_aload_n hx hb rfl (by decide +kernel))))
    (ms_b (ms_lf (ms_getf (C := RX12) (T := TX12) (N := 80) hx hb hf hts (fun w h => hAW w (inq_12 w h)) hown hK rfl (by decide) (hts _ (hAW _ qw_1470)) rfl (by decide +kernel)))
    (ms_lf (ms_ic_ge hx hb (by decide) (by decide +kernel))))))
    (ms_b (ms_b (ms_b (ms_lf (ms_iconst hx hb (by decide) (by decide +kernel)))
    (ms_lf (ms_istore_n hx hb rfl (by decide : 2 < 4) (by decide +kernel))))
    (ms_b (ms_lf (ms_iload_n hx hb rfl (by decide +kernel)))
    (ms_lf (ms_iconst hx hb (by decide) (by decide +kernel)))))
    (ms_b (ms_b (ms_lf (ms_ic_ge hx hb (by decide) (by decide +kernel)))
    (ms_lf (ms_iconst hx hb (by decide) (by decide +kernel))))
    (ms_b (ms_lf (ms_istore_n hx hb rfl (by decide : 3 < 4) (by decide +kernel)))
    (ms_lf (ms_iload_n hx hb rfl (by decide +kernel))))))))
    (ms_b (ms_b (ms_b (ms_b (ms_b (ms_lf (ms_bipush hx hb (by decide) (by decide +kernel)))
    (ms_lf (ms_ic_ge hx hb (by decide) (by decide +kernel))))
    (ms_b (ms_lf (ms_aload_n hx hb rfl (by decide +kernel)))
    (ms_lf (ms_getf (C := RX12) (T := TX12) (N := 80) hx hb hf hts (fun w h => hAW w (inq_12 w h)) hown hK rfl (by decide) (hts _ (hAW _ qw_1469)) rfl (by decide +kernel)))))
    (ms_b (ms_b (ms_lf (ms_iload_n hx hb rfl (by decide +kernel)))
    (ms_lf (ms_aload_n hx hb rfl (by decide +kernel))))
    (ms_b (ms_lf (ms_getf (C := RX12) (T := TX12) (N := 80) hx hb hf hts (fun w h => hAW w (inq_12 w h)) hown hK rfl (by decide) (hts _ (hAW _ qw_1467)) rfl (by decide +kernel)))
    (ms_lf (ms_bipush hx hb (by decide) (by decide +kernel))))))
    (ms_b (ms_b (ms_b (ms_lf (ms_iload_n hx hb rfl (by decide +kernel)))
    (ms_lf (ms_imul hx hb (by decide +kernel))))
    (ms_b (ms_lf (ms_iload_n hx hb rfl (by decide +kernel)))
    (ms_lf (ms_iload_n hx hb rfl (by decide +kernel)))))
    (ms_b (ms_b (ms_lf (ms_ivS hx hb hml hown hts hgo hEX (mm_GS hAW (mm_GI hAW gi_202) qw_1405 qw_1406 qw_137) rfl hd_202 (mm_rm hRf hRl (Nat.le_of_ble_eq_true rfl)) (by decide +kernel)))
    (ms_lf (ms_iadd hx hb (by decide +kernel))))
    (ms_b (ms_lf (ms_iald hx hb hf hA hX (by decide +kernel)))
    (ms_lf (ms_iast hx hb hf hA (by decide +kernel)))))))
    (ms_b (ms_b (ms_b (ms_b (ms_lf (ms_iinc hx hb (by decide) (by decide : 3 < 4) (by decide +kernel)))
    (ms_lf (ms_goto hx hb (by decide) (by decide +kernel))))
    (ms_b (ms_lf (ms_aload_n hx hb rfl (by decide +kernel)))
    (ms_lf (ms_getf (C := RX12) (T := TX12) (N := 80) hx hb hf hts (fun w h => hAW w (inq_12 w h)) hown hK rfl (by decide) (hts _ (hAW _ qw_1468)) rfl (by decide +kernel)))))
    (ms_b (ms_b (ms_lf (ms_iconst hx hb (by decide) (by decide +kernel)))
    (ms_lf (ms_iload_n hx hb rfl (by decide +kernel))))
    (ms_b (ms_lf (ms_imul hx hb (by decide +kernel)))
    (ms_lf (ms_iload_n hx hb rfl (by decide +kernel))))))
    (ms_b (ms_b (ms_b (ms_lf (ms_iadd hx hb (by decide +kernel)))
    (ms_lf (ms_aload_n hx hb rfl (by decide +kernel))))
    (ms_b (ms_lf (ms_ivV (C := RX12) (T := TX12) (N := 80) hx hb hml hown hts hgo hEX hf hK rfl (mm_GV hAW (mm_GI hAW gi_204) qw_1397 qw_1399 qw_47 qw_137) rfl ⟨rfl, hd_204⟩ (mm_rm hRf hRl (Nat.le_of_ble_eq_true rfl)) (by decide +kernel)))
    (ms_lf (ms_iast hx hb hf hA (by decide +kernel)))))
    (ms_b (ms_b (ms_lf (ms_iinc hx hb (by decide) (by decide : 2 < 4) (by decide +kernel)))
    (ms_lf (ms_goto hx hb (by decide) (by decide +kernel))))
    (ms_b (ms_lf (ms_iinc hx hb (by decide) (by decide : 1 < 4) (by decide +kernel)))
    (ms_b (ms_lf (ms_goto hx hb (by decide) (by decide +kernel)))
    (ms_lf (ms_ret hx hb hr hlk (by decide +kernel))))))))))
set_option maxRecDepth 100000 in
set_option maxHeartbeats 8000000 in
/-- TippedCratesModel.in -/
theorem sd_206 (l : Launch) (f : Nat → Nat) (D : va_G) (cA : FieldType → ClassId) (d : Nat) : mm_Ok2 l f D cA d (yX12_in, cX12_in, 3, (some .boolean), mc_206) := by
  intro p e R s m args below meth c C hRf hRl pc
  obtain ⟨hx, hb, hml, hr, hlk, hnm, hown, hts, hEX, hgo, hf⟩ := C
  obtain ⟨hK, hA, hX, hZs, hZc, hZq, hTx, hSR0, hSR1, hAO, hN⟩ := id hEX
  have hAW : ∀ w ∈ mm_AW, w ∈ (Cond.code yX12_in cX12_in 3 (some .boolean) :: mm_AW) := fun w h => List.mem_cons_of_mem _ h
  have hown : s.vm.findClass "TippedCratesModel" = some m.cls := hown
  show mm_S p l e R s m args below meth c f D mm_cl cA 3 _ pc (mc_206 pc)
  unfold mc_206
  exact (ms_b (ms_b (ms_b (ms_lf (ms_iload_n hx hb rfl (by decide +kernel)))
    (ms_lf (ms_iload_n hx hb rfl (by decide +kernel))))
    (ms_b (ms_lf (ms_ic_lt hx hb (by decide) (by decide +kernel)))
    (ms_b (ms_lf (ms_iload_n hx hb rfl (by decide +kernel)))
    (ms_lf (ms_iload_n hx hb rfl (by decide +kernel))))))
    (ms_b (ms_b (ms_lf (ms_ic_gt hx hb (by decide) (by decide +kernel)))
    (ms_lf (ms_iconst hx hb (by decide) (by decide +kernel))))
    (ms_b (ms_lf (ms_goto hx hb (by decide) (by decide +kernel)))
    (ms_b (ms_lf (ms_iconst hx hb (by decide) (by decide +kernel)))
    (ms_lf (ms_iret hx hb hr hlk (by decide +kernel)))))))
set_option maxRecDepth 100000 in
set_option maxHeartbeats 8000000 in
/-- TippedCratesModel.within -/
theorem sd_207 (l : Launch) (f : Nat → Nat) (D : va_G) (cA : FieldType → ClassId) (d : Nat) : mm_Ok2 l f D cA d (yX12_within, cX12_within, 3, (some .int), mc_207) := by
  intro p e R s m args below meth c C hRf hRl pc
  obtain ⟨hx, hb, hml, hr, hlk, hnm, hown, hts, hEX, hgo, hf⟩ := C
  obtain ⟨hK, hA, hX, hZs, hZc, hZq, hTx, hSR0, hSR1, hAO, hN⟩ := id hEX
  have hAW : ∀ w ∈ mm_AW, w ∈ (Cond.code yX12_within cX12_within 3 (some .int) :: mm_AW) := fun w h => List.mem_cons_of_mem _ h
  have hown : s.vm.findClass "TippedCratesModel" = some m.cls := hown
  show mm_S p l e R s m args below meth c f D mm_cl cA 3 _ pc (mc_207 pc)
  unfold mc_207
  exact (ms_b (ms_b (ms_b (ms_lf (ms_iload_n hx hb rfl (by decide +kernel)))
    (ms_b (ms_lf (ms_iload_n hx hb rfl (by decide +kernel)))
    (ms_lf (ms_ic_ge hx hb (by decide) (by decide +kernel)))))
    (ms_b (ms_lf (ms_iload_n hx hb rfl (by decide +kernel)))
    (ms_b (ms_lf (ms_goto hx hb (by decide) (by decide +kernel)))
    (ms_lf (ms_iload_n hx hb rfl (by decide +kernel))))))
    (ms_b (ms_b (ms_lf (ms_iload_n hx hb rfl (by decide +kernel)))
    (ms_b (ms_lf (ms_ic_le hx hb (by decide) (by decide +kernel)))
    (ms_lf (ms_iload_n hx hb rfl (by decide +kernel)))))
    (ms_b (ms_lf (ms_goto hx hb (by decide) (by decide +kernel)))
    (ms_b (ms_lf (ms_iload_n hx hb rfl (by decide +kernel)))
    (ms_lf (ms_iret hx hb hr hlk (by decide +kernel)))))))
set_option maxRecDepth 100000 in
set_option maxHeartbeats 8000000 in
/-- TippedCratesModel.flags -/
theorem sd_208 (l : Launch) (f : Nat → Nat) (D : va_G) (cA : FieldType → ClassId) (d : Nat) : mm_Ok2 l f D cA d (yX12_flags, cX12_flags, 1, (some .int), mc_208) := by
  intro p e R s m args below meth c C hRf hRl pc
  obtain ⟨hx, hb, hml, hr, hlk, hnm, hown, hts, hEX, hgo, hf⟩ := C
  obtain ⟨hK, hA, hX, hZs, hZc, hZq, hTx, hSR0, hSR1, hAO, hN⟩ := id hEX
  have hAW : ∀ w ∈ mm_AW, w ∈ (Cond.code yX12_flags cX12_flags 1 (some .int) :: mm_AW) := fun w h => List.mem_cons_of_mem _ h
  have hown : s.vm.findClass "TippedCratesModel" = some m.cls := hown
  show mm_S p l e R s m args below meth c f D mm_cl cA 1 _ pc (mc_208 pc)
  unfold mc_208
  exact (ms_b (ms_b (ms_b (ms_lf (ms_aload_n hx hb rfl (by decide +kernel)))
    (ms_b (ms_lf (ms_getf (C := RX12) (T := TX12) (N := 80) hx hb hf hts (fun w h => hAW w (inq_12 w h)) hown hK rfl (by decide) (hts _ (hAW _ qw_1437)) rfl (by decide +kernel)))
    (ms_lf (ms_aload_n hx hb rfl (by decide +kernel)))))
    (ms_b (ms_lf (ms_getf (C := RX12) (T := TX12) (N := 80) hx hb hf hts (fun w h => hAW w (inq_12 w h)) hown hK rfl (by decide) (hts _ (hAW _ qw_1433)) rfl (by decide +kernel)))
    (ms_b (ms_lf (ms_iald hx hb hf hA hX (by decide +kernel)))
    (ms_lf (ms_aload_n hx hb rfl (by decide +kernel))))))
    (ms_b (ms_b (ms_lf (ms_getf (C := RX12) (T := TX12) (N := 80) hx hb hf hts (fun w h => hAW w (inq_12 w h)) hown hK rfl (by decide) (hts _ (hAW _ qw_1438)) rfl (by decide +kernel)))
    (ms_b (ms_lf (ms_aload_n hx hb rfl (by decide +kernel)))
    (ms_lf (ms_getf (C := RX12) (T := TX12) (N := 80) hx hb hf hts (fun w h => hAW w (inq_12 w h)) hown hK rfl (by decide) (hts _ (hAW _ qw_1433)) rfl (by decide +kernel)))))
    (ms_b (ms_lf (ms_iald hx hb hf hA hX (by decide +kernel)))
    (ms_b (ms_lf (ms_imul hx hb (by decide +kernel)))
    (ms_lf (ms_iret hx hb hr hlk (by decide +kernel)))))))
set_option maxRecDepth 100000 in
set_option maxHeartbeats 8000000 in
/-- TippedCratesModel.isFlag -/
theorem sd_209 (l : Launch) (f : Nat → Nat) (D : va_G) (cA : FieldType → ClassId) (d : Nat) : mm_Ok2 l f D cA d (yX12_isFlag, cX12_isFlag, 2, (some .boolean), mc_209) := by
  intro p e R s m args below meth c C hRf hRl pc
  obtain ⟨hx, hb, hml, hr, hlk, hnm, hown, hts, hEX, hgo, hf⟩ := C
  obtain ⟨hK, hA, hX, hZs, hZc, hZq, hTx, hSR0, hSR1, hAO, hN⟩ := id hEX
  have hAW : ∀ w ∈ mm_AW, w ∈ (Cond.code yX12_isFlag cX12_isFlag 2 (some .boolean) :: mm_AW) := fun w h => List.mem_cons_of_mem _ h
  have hown : s.vm.findClass "TippedCratesModel" = some m.cls := hown
  show mm_S p l e R s m args below meth c f D mm_cl cA 2 _ pc (mc_209 pc)
  unfold mc_209
  exact (ms_b (ms_b (ms_b (ms_lf (ms_iload_n hx hb rfl (by decide +kernel)))
    (ms_lf (ms_iconst hx hb (by decide) (by decide +kernel))))
    (ms_b (ms_lf (ms_aload_n hx hb rfl (by decide +kernel)))
    (ms_lf (ms_ivV (C := RX12) (T := TX12) (N := 80) hx hb hml hown hts hgo hEX hf hK rfl (mm_GV hAW (mm_GI hAW gi_208) qw_1778 qw_1780 qw_75 qw_137) rfl ⟨rfl, hd_208⟩ (mm_rm hRf hRl (Nat.le_of_ble_eq_true rfl)) (by decide +kernel)))))
    (ms_b (ms_b (ms_lf (ms_iconst hx hb (by decide) (by decide +kernel)))
    (ms_lf (ms_isub hx hb (by decide +kernel))))
    (ms_b (ms_lf (ms_ivS hx hb hml hown hts hgo hEX (mm_GS hAW (mm_GI hAW gi_206) qw_1782 qw_1783 qw_137) rfl hd_206 (mm_rm hRf hRl (Nat.le_of_ble_eq_true rfl)) (by decide +kernel)))
    (ms_lf (ms_iret hx hb hr hlk (by decide +kernel))))))
set_option maxRecDepth 100000 in
set_option maxHeartbeats 8000000 in
/-- TippedCratesModel.isCrate -/
theorem sd_210 (l : Launch) (f : Nat → Nat) (D : va_G) (cA : FieldType → ClassId) (d : Nat) : mm_Ok2 l f D cA d (yX12_isCrate, cX12_isCrate, 2, (some .boolean), mc_210) := by
  intro p e R s m args below meth c C hRf hRl pc
  obtain ⟨hx, hb, hml, hr, hlk, hnm, hown, hts, hEX, hgo, hf⟩ := C
  obtain ⟨hK, hA, hX, hZs, hZc, hZq, hTx, hSR0, hSR1, hAO, hN⟩ := id hEX
  have hAW : ∀ w ∈ mm_AW, w ∈ (Cond.code yX12_isCrate cX12_isCrate 2 (some .boolean) :: mm_AW) := fun w h => List.mem_cons_of_mem _ h
  have hown : s.vm.findClass "TippedCratesModel" = some m.cls := hown
  show mm_S p l e R s m args below meth c f D mm_cl cA 2 _ pc (mc_210 pc)
  unfold mc_210
  exact (ms_b (ms_b (ms_b (ms_lf (ms_iload_n hx hb rfl (by decide +kernel)))
    (ms_lf (ms_iconst hx hb (by decide) (by decide +kernel))))
    (ms_b (ms_lf (ms_aload_n hx hb rfl (by decide +kernel)))
    (ms_b (ms_lf (ms_getf (C := RX12) (T := TX12) (N := 80) hx hb hf hts (fun w h => hAW w (inq_12 w h)) hown hK rfl (by decide) (hts _ (hAW _ qw_1446)) rfl (by decide +kernel)))
    (ms_lf (ms_aload_n hx hb rfl (by decide +kernel))))))
    (ms_b (ms_b (ms_lf (ms_getf (C := RX12) (T := TX12) (N := 80) hx hb hf hts (fun w h => hAW w (inq_12 w h)) hown hK rfl (by decide) (hts _ (hAW _ qw_1433)) rfl (by decide +kernel)))
    (ms_b (ms_lf (ms_iald hx hb hf hA hX (by decide +kernel)))
    (ms_lf (ms_iconst hx hb (by decide) (by decide +kernel)))))
    (ms_b (ms_lf (ms_isub hx hb (by decide +kernel)))
    (ms_b (ms_lf (ms_ivS hx hb hml hown hts hgo hEX (mm_GS hAW (mm_GI hAW gi_206) qw_1782 qw_1783 qw_137) rfl hd_206 (mm_rm hRf hRl (Nat.le_of_ble_eq_true rfl)) (by decide +kernel)))
    (ms_lf (ms_iret hx hb hr hlk (by decide +kernel)))))))
set_option maxRecDepth 100000 in
set_option maxHeartbeats 8000000 in
/-- TippedCratesModel.isMark -/
theorem sd_211 (l : Launch) (f : Nat → Nat) (D : va_G) (cA : FieldType → ClassId) (d : Nat) : mm_Ok2 l f D cA d (yX12_isMark, cX12_isMark, 1, (some .boolean), mc_211) := by
  intro p e R s m args below meth c C hRf hRl pc
  obtain ⟨hx, hb, hml, hr, hlk, hnm, hown, hts, hEX, hgo, hf⟩ := C
  obtain ⟨hK, hA, hX, hZs, hZc, hZq, hTx, hSR0, hSR1, hAO, hN⟩ := id hEX
  have hAW : ∀ w ∈ mm_AW, w ∈ (Cond.code yX12_isMark cX12_isMark 1 (some .boolean) :: mm_AW) := fun w h => List.mem_cons_of_mem _ h
  have hown : s.vm.findClass "TippedCratesModel" = some m.cls := hown
  show mm_S p l e R s m args below meth c f D mm_cl cA 1 _ pc (mc_211 pc)
  unfold mc_211
  exact (ms_b (ms_b (ms_lf (ms_iload_n hx hb rfl (by decide +kernel)))
    (ms_lf (ms_iconst hx hb (by decide) (by decide +kernel))))
    (ms_b (ms_lf (ms_bipush hx hb (by decide) (by decide +kernel)))
    (ms_b (ms_lf (ms_ivS hx hb hml hown hts hgo hEX (mm_GS hAW (mm_GI hAW gi_206) qw_1782 qw_1783 qw_137) rfl hd_206 (mm_rm hRf hRl (Nat.le_of_ble_eq_true rfl)) (by decide +kernel)))
    (ms_lf (ms_iret hx hb hr hlk (by decide +kernel))))))
set_option maxRecDepth 100000 in
set_option maxHeartbeats 8000000 in
/-- TippedCratesModel.isWay -/
theorem sd_212 (l : Launch) (f : Nat → Nat) (D : va_G) (cA : FieldType → ClassId) (d : Nat) : mm_Ok2 l f D cA d (yX12_isWay, cX12_isWay, 1, (some .boolean), mc_212) := by
  intro p e R s m args below meth c C hRf hRl pc
  obtain ⟨hx, hb, hml, hr, hlk, hnm, hown, hts, hEX, hgo, hf⟩ := C
  obtain ⟨hK, hA, hX, hZs, hZc, hZq, hTx, hSR0, hSR1, hAO, hN⟩ := id hEX
  have hAW : ∀ w ∈ mm_AW, w ∈ (Cond.code yX12_isWay cX12_isWay 1 (some .boolean) :: mm_AW) := fun w h => List.mem_cons_of_mem _ h
  have hown : s.vm.findClass "TippedCratesModel" = some m.cls := hown
  show mm_S p l e R s m args below meth c f D mm_cl cA 1 _ pc (mc_212 pc)
  unfold mc_212
  exact (ms_b (ms_b (ms_lf (ms_iload_n hx hb rfl (by decide +kernel)))
    (ms_lf (ms_iconst hx hb (by decide) (by decide +kernel))))
    (ms_b (ms_lf (ms_iconst hx hb (by decide) (by decide +kernel)))
    (ms_b (ms_lf (ms_ivS hx hb hml hown hts hgo hEX (mm_GS hAW (mm_GI hAW gi_206) qw_1782 qw_1783 qw_137) rfl hd_206 (mm_rm hRf hRl (Nat.le_of_ble_eq_true rfl)) (by decide +kernel)))
    (ms_lf (ms_iret hx hb hr hlk (by decide +kernel))))))
set_option maxRecDepth 100000 in
set_option maxHeartbeats 8000000 in
/-- TippedCratesModel.isShut -/
theorem sd_213 (l : Launch) (f : Nat → Nat) (D : va_G) (cA : FieldType → ClassId) (d : Nat) : mm_Ok2 l f D cA d (yX12_isShut, cX12_isShut, 2, (some .boolean), mc_213) := by
  intro p e R s m args below meth c C hRf hRl pc
  obtain ⟨hx, hb, hml, hr, hlk, hnm, hown, hts, hEX, hgo, hf⟩ := C
  obtain ⟨hK, hA, hX, hZs, hZc, hZq, hTx, hSR0, hSR1, hAO, hN⟩ := id hEX
  have hAW : ∀ w ∈ mm_AW, w ∈ (Cond.code yX12_isShut cX12_isShut 2 (some .boolean) :: mm_AW) := fun w h => List.mem_cons_of_mem _ h
  have hown : s.vm.findClass "TippedCratesModel" = some m.cls := hown
  show mm_S p l e R s m args below meth c f D mm_cl cA 2 _ pc (mc_213 pc)
  unfold mc_213
  exact (ms_b (ms_b (ms_b (ms_lf (ms_aload_n hx hb rfl (by decide +kernel)))
    (ms_b (ms_lf (ms_getf (C := RX12) (T := TX12) (N := 80) hx hb hf hts (fun w h => hAW w (inq_12 w h)) hown hK rfl (by decide) (hts _ (hAW _ qw_1474)) rfl (by decide +kernel)))
    (ms_lf (ms_iload_n hx hb rfl (by decide +kernel)))))
    (ms_b (ms_lf (ms_ishr hx hb (by decide +kernel)))
    (ms_b (ms_lf (ms_iconst hx hb (by decide) (by decide +kernel)))
    (ms_lf (ms_iand hx hb (by decide +kernel))))))
    (ms_b (ms_b (ms_lf (ms_iconst hx hb (by decide) (by decide +kernel)))
    (ms_b (ms_lf (ms_ic_ne hx hb (by decide) (by decide +kernel)))
    (ms_lf (ms_iconst hx hb (by decide) (by decide +kernel)))))
    (ms_b (ms_lf (ms_goto hx hb (by decide) (by decide +kernel)))
    (ms_b (ms_lf (ms_iconst hx hb (by decide) (by decide +kernel)))
    (ms_lf (ms_iret hx hb hr hlk (by decide +kernel)))))))
set_option maxRecDepth 100000 in
set_option maxHeartbeats 8000000 in
/-- TippedCratesModel.begins -/
theorem sd_214 (l : Launch) (f : Nat → Nat) (D : va_G) (cA : FieldType → ClassId) (d : Nat) : mm_Ok2 l f D cA d (yX12_begins, cX12_begins, 4, none, mc_214) := by
  intro p e R s m args below meth c C hRf hRl pc
  obtain ⟨hx, hb, hml, hr, hlk, hnm, hown, hts, hEX, hgo, hf⟩ := C
  obtain ⟨hK, hA, hX, hZs, hZc, hZq, hTx, hSR0, hSR1, hAO, hN⟩ := id hEX
  have hAW : ∀ w ∈ mm_AW, w ∈ (Cond.code yX12_begins cX12_begins 4 none :: mm_AW) := fun w h => List.mem_cons_of_mem _ h
  have hown : s.vm.findClass "TippedCratesModel" = some m.cls := hown
  show mm_S p l e R s m args below meth c f D mm_cl cA 4 _ pc (mc_214 pc)
  unfold mc_214
  exact (ms_b (ms_b (ms_b (ms_b (ms_b (ms_b (ms_b (ms_lf (ms_aload_n hx hb rfl (by decide +kernel)))
    (ms_lf (ms_getf (C := RX12) (T := TX12) (N := 80) hx hb hf hts (fun w h => hAW w (inq_12 w h)) hown hK rfl (by decide) (hts _ (hAW _ qw_1437)) rfl (by decide +kernel))))
    (ms_b (ms_lf (ms_aload_n hx hb rfl (by decide +kernel)))
    (ms_b (ms_lf (ms_getf (C := RX12) (T := TX12) (N := 80) hx hb hf hts (fun w h => hAW w (inq_12 w h)) hown hK rfl (by decide) (hts _ (hAW _ qw_1433)) rfl (by decide +kernel)))
    (ms_lf (ms_iald hx hb hf hA hX (by decide +kernel))))))
    (ms_b (ms_b (ms_lf (ms_istore_n hx hb rfl (by decide : 1 < 4) (by decide +kernel)))
    (ms_lf (ms_iconst hx hb (by decide) (by decide +kernel))))
    (ms_b (ms_lf (ms_istore_n hx hb rfl (by decide : 2 < 4) (by decide +kernel)))
    (ms_b (ms_lf (ms_iload_n hx hb rfl (by decide +kernel)))
    (ms_lf (ms_bipush hx hb (by decide) (by decide +kernel)))))))
    (ms_b (ms_b (ms_b (ms_lf (ms_ic_ge hx hb (by decide) (by decide +kernel)))
    (ms_lf (ms_aload_n hx hb rfl (by decide +kernel))))
    (ms_b (ms_lf (ms_getf (C := RX12) (T := TX12) (N := 80) hx hb hf hts (fun w h => hAW w (inq_12 w h)) hown hK rfl (by decide) (hts _ (hAW _ qw_1472)) rfl (by decide +kernel)))
    (ms_b (ms_lf (ms_iload_n hx hb rfl (by decide +kernel)))
    (ms_lf (ms_iconst hx hb (by decide) (by decide +kernel))))))
    (ms_b (ms_b (ms_lf (ms_iast hx hb hf hA (by decide +kernel)))
    (ms_b (ms_lf (ms_iinc hx hb (by decide) (by decide : 2 < 4) (by decide +kernel)))
    (ms_lf (ms_goto hx hb (by decide) (by decide +kernel)))))
    (ms_b (ms_lf (ms_aload_n hx hb rfl (by decide +kernel)))
    (ms_b (ms_lf (ms_iconst hx hb (by decide) (by decide +kernel)))
    (ms_lf (ms_put (C := RX12) (T := TX12) (N := 80) hx hb hf hts (fun w h => hAW w (inq_12 w h)) tyX12 tyX12_ok nmX12 hown hK rfl (by decide) (hts _ (hAW _ qw_1474)) rfl rfl rfl (by decide +kernel))))))))
    (ms_b (ms_b (ms_b (ms_b (ms_lf (ms_bipush hx hb (by decide) (by decide +kernel)))
    (ms_lf (ms_aload_n hx hb rfl (by decide +kernel))))
    (ms_b (ms_lf (ms_getf (C := RX12) (T := TX12) (N := 80) hx hb hf hts (fun w h => hAW w (inq_12 w h)) hown hK rfl (by decide) (hts _ (hAW _ qw_1433)) rfl (by decide +kernel)))
    (ms_b (ms_lf (ms_imul hx hb (by decide +kernel)))
    (ms_lf (ms_istore_n hx hb rfl (by decide : 2 < 4) (by decide +kernel))))))
    (ms_b (ms_b (ms_lf (ms_iload_n hx hb rfl (by decide +kernel)))
    (ms_lf (ms_bipush hx hb (by decide) (by decide +kernel))))
    (ms_b (ms_lf (ms_aload_n hx hb rfl (by decide +kernel)))
    (ms_b (ms_lf (ms_getf (C := RX12) (T := TX12) (N := 80) hx hb hf hts (fun w h => hAW w (inq_12 w h)) hown hK rfl (by decide) (hts _ (hAW _ qw_1433)) rfl (by decide +kernel)))
    (ms_lf (ms_imul hx hb (by decide +kernel)))))))
    (ms_b (ms_b (ms_b (ms_lf (ms_aload_n hx hb rfl (by decide +kernel)))
    (ms_lf (ms_getf (C := RX12) (T := TX12) (N := 80) hx hb hf hts (fun w h => hAW w (inq_12 w h)) hown hK rfl (by decide) (hts _ (hAW _ qw_1439)) rfl (by decide +kernel))))
    (ms_b (ms_lf (ms_aload_n hx hb rfl (by decide +kernel)))
    (ms_b (ms_lf (ms_getf (C := RX12) (T := TX12) (N := 80) hx hb hf hts (fun w h => hAW w (inq_12 w h)) hown hK rfl (by decide) (hts _ (hAW _ qw_1433)) rfl (by decide +kernel)))
    (ms_lf (ms_iald hx hb hf hA hX (by decide +kernel))))))
    (ms_b (ms_b (ms_lf (ms_iadd hx hb (by decide +kernel)))
    (ms_b (ms_lf (ms_ic_ge hx hb (by decide) (by decide +kernel)))
    (ms_lf (ms_aload_n hx hb rfl (by decide +kernel)))))
    (ms_b (ms_lf (ms_dup hx hb (by decide +kernel)))
    (ms_b (ms_lf (ms_getf (C := RX12) (T := TX12) (N := 80) hx hb hf hts (fun w h => hAW w (inq_12 w h)) hown hK rfl (by decide) (hts _ (hAW _ qw_1474)) rfl (by decide +kernel)))
    (ms_lf (ms_iconst hx hb (by decide) (by decide +kernel)))))))))
    (ms_b (ms_b (ms_b (ms_b (ms_b (ms_lf (ms_iload_n hx hb rfl (by decide +kernel)))
    (ms_lf (ms_aload_n hx hb rfl (by decide +kernel))))
    (ms_b (ms_lf (ms_getf (C := RX12) (T := TX12) (N := 80) hx hb hf hts (fun w h => hAW w (inq_12 w h)) hown hK rfl (by decide) (hts _ (hAW _ qw_1441)) rfl (by decide +kernel)))
    (ms_b (ms_lf (ms_iload_n hx hb rfl (by decide +kernel)))
    (ms_lf (ms_iald hx hb hf hA hX (by decide +kernel))))))
    (ms_b (ms_b (ms_lf (ms_imul hx hb (by decide +kernel)))
    (ms_lf (ms_aload_n hx hb rfl (by decide +kernel))))
    (ms_b (ms_lf (ms_getf (C := RX12) (T := TX12) (N := 80) hx hb hf hts (fun w h => hAW w (inq_12 w h)) hown hK rfl (by decide) (hts _ (hAW _ qw_1440)) rfl (by decide +kernel)))
    (ms_b (ms_lf (ms_iload_n hx hb rfl (by decide +kernel)))
    (ms_lf (ms_iald hx hb hf hA hX (by decide +kernel)))))))
    (ms_b (ms_b (ms_b (ms_lf (ms_iadd hx hb (by decide +kernel)))
    (ms_lf (ms_ishl hx hb (by decide +kernel))))
    (ms_b (ms_lf (ms_ior hx hb (by decide +kernel)))
    (ms_b (ms_lf (ms_put (C := RX12) (T := TX12) (N := 80) hx hb hf hts (fun w h => hAW w (inq_12 w h)) tyX12 tyX12_ok nmX12 hown hK rfl (by decide) (hts _ (hAW _ qw_1474)) rfl rfl rfl (by decide +kernel)))
    (ms_lf (ms_iinc hx hb (by decide) (by decide : 2 < 4) (by decide +kernel))))))
    (ms_b (ms_b (ms_lf (ms_goto hx hb (by decide) (by decide +kernel)))
    (ms_b (ms_lf (ms_bipush hx hb (by decide) (by decide +kernel)))
    (ms_lf (ms_aload_n hx hb rfl (by decide +kernel)))))
    (ms_b (ms_lf (ms_getf (C := RX12) (T := TX12) (N := 80) hx hb hf hts (fun w h => hAW w (inq_12 w h)) hown hK rfl (by decide) (hts _ (hAW _ qw_1433)) rfl (by decide +kernel)))
    (ms_b (ms_lf (ms_imul hx hb (by decide +kernel)))
    (ms_lf (ms_istore_n hx hb rfl (by decide : 2 < 4) (by decide +kernel))))))))
    (ms_b (ms_b (ms_b (ms_b (ms_lf (ms_iload_n hx hb rfl (by decide +kernel)))
    (ms_lf (ms_bipush hx hb (by decide) (by decide +kernel))))
    (ms_b (ms_lf (ms_aload_n hx hb rfl (by decide +kernel)))
    (ms_b (ms_lf (ms_getf (C := RX12) (T := TX12) (N := 80) hx hb hf hts (fun w h => hAW w (inq_12 w h)) hown hK rfl (by decide) (hts _ (hAW _ qw_1433)) rfl (by decide +kernel)))
    (ms_lf (ms_imul hx hb (by decide +kernel))))))
    (ms_b (ms_b (ms_lf (ms_aload_n hx hb rfl (by decide +kernel)))
    (ms_b (ms_lf (ms_getf (C := RX12) (T := TX12) (N := 80) hx hb hf hts (fun w h => hAW w (inq_12 w h)) hown hK rfl (by decide) (hts _ (hAW _ qw_1442)) rfl (by decide +kernel)))
    (ms_lf (ms_aload_n hx hb rfl (by decide +kernel)))))
    (ms_b (ms_lf (ms_getf (C := RX12) (T := TX12) (N := 80) hx hb hf hts (fun w h => hAW w (inq_12 w h)) hown hK rfl (by decide) (hts _ (hAW _ qw_1433)) rfl (by decide +kernel)))
    (ms_b (ms_lf (ms_iald hx hb hf hA hX (by decide +kernel)))
    (ms_lf (ms_iadd hx hb (by decide +kernel)))))))
    (ms_b (ms_b (ms_b (ms_lf (ms_ic_ge hx hb (by decide) (by decide +kernel)))
    (ms_lf (ms_aload_n hx hb rfl (by decide +kernel))))
    (ms_b (ms_lf (ms_getf (C := RX12) (T := TX12) (N := 80) hx hb hf hts (fun w h => hAW w (inq_12 w h)) hown hK rfl (by decide) (hts _ (hAW _ qw_1472)) rfl (by decide +kernel)))
    (ms_b (ms_lf (ms_iload_n hx hb rfl (by decide +kernel)))
    (ms_lf (ms_aload_n hx hb rfl (by decide +kernel))))))
    (ms_b (ms_b (ms_lf (ms_getf (C := RX12) (T := TX12) (N := 80) hx hb hf hts (fun w h => hAW w (inq_12 w h)) hown hK rfl (by decide) (hts _ (hAW _ qw_1444)) rfl (by decide +kernel)))
    (ms_b (ms_lf (ms_iload_n hx hb rfl (by decide +kernel)))
    (ms_lf (ms_iald hx hb hf hA hX (by decide +kernel)))))
    (ms_b (ms_lf (ms_imul hx hb (by decide +kernel)))
    (ms_b (ms_lf (ms_aload_n hx hb rfl (by decide +kernel)))
    (ms_lf (ms_getf (C := RX12) (T := TX12) (N := 80) hx hb hf hts (fun w h => hAW w (inq_12 w h)) hown hK rfl (by decide) (hts _ (hAW _ qw_1443)) rfl (by decide +kernel))))))))))
    (ms_b (ms_b (ms_b (ms_b (ms_b (ms_b (ms_lf (ms_iload_n hx hb rfl (by decide +kernel)))
    (ms_lf (ms_iald hx hb hf hA hX (by decide +kernel))))
    (ms_b (ms_lf (ms_iadd hx hb (by decide +kernel)))
    (ms_b (ms_lf (ms_aload_n hx hb rfl (by decide +kernel)))
    (ms_lf (ms_getf (C := RX12) (T := TX12) (N := 80) hx hb hf hts (fun w h => hAW w (inq_12 w h)) hown hK rfl (by decide) (hts _ (hAW _ qw_1445)) rfl (by decide +kernel))))))
    (ms_b (ms_b (ms_lf (ms_iload_n hx hb rfl (by decide +kernel)))
    (ms_lf (ms_iald hx hb hf hA hX (by decide +kernel))))
    (ms_b (ms_lf (ms_iast hx hb hf hA (by decide +kernel)))
    (ms_b (ms_lf (ms_iinc hx hb (by decide) (by decide : 2 < 4) (by decide +kernel)))
    (ms_lf (ms_goto hx hb (by decide) (by decide +kernel)))))))
    (ms_b (ms_b (ms_b (ms_lf (ms_iconst hx hb (by decide) (by decide +kernel)))
    (ms_lf (ms_istore_n hx hb rfl (by decide : 2 < 4) (by decide +kernel))))
    (ms_b (ms_lf (ms_iload_n hx hb rfl (by decide +kernel)))
    (ms_b (ms_lf (ms_aload_n hx hb rfl (by decide +kernel)))
    (ms_lf (ms_getf (C := RX12) (T := TX12) (N := 80) hx hb hf hts (fun w h => hAW w (inq_12 w h)) hown hK rfl (by decide) (hts _ (hAW _ qw_1446)) rfl (by decide +kernel))))))
    (ms_b (ms_b (ms_lf (ms_aload_n hx hb rfl (by decide +kernel)))
    (ms_b (ms_lf (ms_getf (C := RX12) (T := TX12) (N := 80) hx hb hf hts (fun w h => hAW w (inq_12 w h)) hown hK rfl (by decide) (hts _ (hAW _ qw_1433)) rfl (by decide +kernel)))
    (ms_lf (ms_iald hx hb hf hA hX (by decide +kernel)))))
    (ms_b (ms_lf (ms_ic_ge hx hb (by decide) (by decide +kernel)))
    (ms_b (ms_lf (ms_iconst hx hb (by decide) (by decide +kernel)))
    (ms_lf (ms_istore_n hx hb rfl (by decide : 3 < 4) (by decide +kernel))))))))
    (ms_b (ms_b (ms_b (ms_b (ms_lf (ms_iload_n hx hb rfl (by decide +kernel)))
    (ms_lf (ms_bipush hx hb (by decide) (by decide +kernel))))
    (ms_b (ms_lf (ms_ic_ge hx hb (by decide) (by decide +kernel)))
    (ms_b (ms_lf (ms_aload_n hx hb rfl (by decide +kernel)))
    (ms_lf (ms_getf (C := RX12) (T := TX12) (N := 80) hx hb hf hts (fun w h => hAW w (inq_12 w h)) hown hK rfl (by decide) (hts _ (hAW _ qw_1472)) rfl (by decide +kernel))))))
    (ms_b (ms_b (ms_lf (ms_bipush hx hb (by decide) (by decide +kernel)))
    (ms_b (ms_lf (ms_bipush hx hb (by decide) (by decide +kernel)))
    (ms_lf (ms_iload_n hx hb rfl (by decide +kernel)))))
    (ms_b (ms_lf (ms_imul hx hb (by decide +kernel)))
    (ms_b (ms_lf (ms_iadd hx hb (by decide +kernel)))
    (ms_lf (ms_iload_n hx hb rfl (by decide +kernel)))))))
    (ms_b (ms_b (ms_b (ms_lf (ms_iadd hx hb (by decide +kernel)))
    (ms_lf (ms_aload_n hx hb rfl (by decide +kernel))))
    (ms_b (ms_lf (ms_getf (C := RX12) (T := TX12) (N := 80) hx hb hf hts (fun w h => hAW w (inq_12 w h)) hown hK rfl (by decide) (hts _ (hAW _ qw_1449)) rfl (by decide +kernel)))
    (ms_b (ms_lf (ms_bipush hx hb (by decide) (by decide +kernel)))
    (ms_lf (ms_aload_n hx hb rfl (by decide +kernel))))))
    (ms_b (ms_b (ms_lf (ms_getf (C := RX12) (T := TX12) (N := 80) hx hb hf hts (fun w h => hAW w (inq_12 w h)) hown hK rfl (by decide) (hts _ (hAW _ qw_1433)) rfl (by decide +kernel)))
    (ms_b (ms_lf (ms_imul hx hb (by decide +kernel)))
    (ms_lf (ms_bipush hx hb (by decide) (by decide +kernel)))))
    (ms_b (ms_lf (ms_iload_n hx hb rfl (by decide +kernel)))
    (ms_b (ms_lf (ms_imul hx hb (by decide +kernel)))
    (ms_lf (ms_iadd hx hb (by decide +kernel)))))))))
    (ms_b (ms_b (ms_b (ms_b (ms_b (ms_lf (ms_iload_n hx hb rfl (by decide +kernel)))
    (ms_lf (ms_iadd hx hb (by decide +kernel))))
    (ms_b (ms_lf (ms_iald hx hb hf hA hX (by decide +kernel)))
    (ms_b (ms_lf (ms_iast hx hb hf hA (by decide +kernel)))
    (ms_lf (ms_iinc hx hb (by decide) (by decide : 3 < 4) (by decide +kernel))))))
    (ms_b (ms_b (ms_lf (ms_goto hx hb (by decide) (by decide +kernel)))
    (ms_lf (ms_aload_n hx hb rfl (by decide +kernel))))
    (ms_b (ms_lf (ms_getf (C := RX12) (T := TX12) (N := 80) hx hb hf hts (fun w h => hAW w (inq_12 w h)) hown hK rfl (by decide) (hts _ (hAW _ qw_1472)) rfl (by decide +kernel)))
    (ms_b (ms_lf (ms_bipush hx hb (by decide) (by decide +kernel)))
    (ms_lf (ms_iload_n hx hb rfl (by decide +kernel)))))))
    (ms_b (ms_b (ms_b (ms_lf (ms_iadd hx hb (by decide +kernel)))
    (ms_lf (ms_iload_n hx hb rfl (by decide +kernel))))
    (ms_b (ms_lf (ms_aload_n hx hb rfl (by decide +kernel)))
    (ms_b (ms_lf (ms_getf (C := RX12) (T := TX12) (N := 80) hx hb hf hts (fun w h => hAW w (inq_12 w h)) hown hK rfl (by decide) (hts _ (hAW _ qw_1448)) rfl (by decide +kernel)))
    (ms_lf (ms_iconst hx hb (by decide) (by decide +kernel))))))
    (ms_b (ms_b (ms_lf (ms_aload_n hx hb rfl (by decide +kernel)))
    (ms_b (ms_lf (ms_getf (C := RX12) (T := TX12) (N := 80) hx hb hf hts (fun w h => hAW w (inq_12 w h)) hown hK rfl (by decide) (hts _ (hAW _ qw_1433)) rfl (by decide +kernel)))
    (ms_lf (ms_imul hx hb (by decide +kernel)))))
    (ms_b (ms_lf (ms_iload_n hx hb rfl (by decide +kernel)))
    (ms_b (ms_lf (ms_iadd hx hb (by decide +kernel)))
    (ms_lf (ms_iald hx hb hf hA hX (by decide +kernel))))))))
    (ms_b (ms_b (ms_b (ms_b (ms_lf (ms_imul hx hb (by decide +kernel)))
    (ms_lf (ms_aload_n hx hb rfl (by decide +kernel))))
    (ms_b (ms_lf (ms_getf (C := RX12) (T := TX12) (N := 80) hx hb hf hts (fun w h => hAW w (inq_12 w h)) hown hK rfl (by decide) (hts _ (hAW _ qw_1447)) rfl (by decide +kernel)))
    (ms_b (ms_lf (ms_iconst hx hb (by decide) (by decide +kernel)))
    (ms_lf (ms_aload_n hx hb rfl (by decide +kernel))))))
    (ms_b (ms_b (ms_lf (ms_getf (C := RX12) (T := TX12) (N := 80) hx hb hf hts (fun w h => hAW w (inq_12 w h)) hown hK rfl (by decide) (hts _ (hAW _ qw_1433)) rfl (by decide +kernel)))
    (ms_b (ms_lf (ms_imul hx hb (by decide +kernel)))
    (ms_lf (ms_iload_n hx hb rfl (by decide +kernel)))))
    (ms_b (ms_lf (ms_iadd hx hb (by decide +kernel)))
    (ms_b (ms_lf (ms_iald hx hb hf hA hX (by decide +kernel)))
    (ms_lf (ms_iadd hx hb (by decide +kernel)))))))
    (ms_b (ms_b (ms_b (ms_lf (ms_iast hx hb hf hA (by decide +kernel)))
    (ms_lf (ms_iinc hx hb (by decide) (by decide : 2 < 4) (by decide +kernel))))
    (ms_b (ms_lf (ms_goto hx hb (by decide) (by decide +kernel)))
    (ms_b (ms_lf (ms_aload_n hx hb rfl (by decide +kernel)))
    (ms_lf (ms_aload_n hx hb rfl (by decide +kernel))))))
    (ms_b (ms_b (ms_lf (ms_getf (C := RX12) (T := TX12) (N := 80) hx hb hf hts (fun w h => hAW w (inq_12 w h)) hown hK rfl (by decide) (hts _ (hAW _ qw_1450)) rfl (by decide +kernel)))
    (ms_b (ms_lf (ms_aload_n hx hb rfl (by decide +kernel)))
    (ms_lf (ms_getf (C := RX12) (T := TX12) (N := 80) hx hb hf hts (fun w h => hAW w (inq_12 w h)) hown hK rfl (by decide) (hts _ (hAW _ qw_1433)) rfl (by decide +kernel)))))
    (ms_b (ms_lf (ms_iald hx hb hf hA hX (by decide +kernel)))
    (ms_b (ms_lf (ms_put (C := RX12) (T := TX12) (N := 80) hx hb hf hts (fun w h => hAW w (inq_12 w h)) tyX12 tyX12_ok nmX12 hown hK rfl (by decide) (hts _ (hAW _ qw_1473)) rfl rfl rfl (by decide +kernel)))
    (ms_lf (ms_ret hx hb hr hlk (by decide +kernel)))))))))))
set_option maxRecDepth 100000 in
set_option maxHeartbeats 8000000 in
/-- TippedCratesModel.keepsRow -/
theorem sd_215 (l : Launch) (f : Nat → Nat) (D : va_G) (cA : FieldType → ClassId) (d : Nat) : mm_Ok2 l f D cA d (yX12_keepsRow, cX12_keepsRow, 2, none, mc_215) := by
  intro p e R s m args below meth c C hRf hRl pc
  obtain ⟨hx, hb, hml, hr, hlk, hnm, hown, hts, hEX, hgo, hf⟩ := C
  obtain ⟨hK, hA, hX, hZs, hZc, hZq, hTx, hSR0, hSR1, hAO, hN⟩ := id hEX
  have hAW : ∀ w ∈ mm_AW, w ∈ (Cond.code yX12_keepsRow cX12_keepsRow 2 none :: mm_AW) := fun w h => List.mem_cons_of_mem _ h
  have hown : s.vm.findClass "TippedCratesModel" = some m.cls := hown
  show mm_S p l e R s m args below meth c f D mm_cl cA 2 _ pc (mc_215 pc)
  unfold mc_215
  exact (ms_b (ms_b (ms_b (ms_b (ms_lf (ms_iconst hx hb (by decide) (by decide +kernel)))
    (ms_lf (ms_istore_n hx hb rfl (by decide : 1 < 2) (by decide +kernel))))
    (ms_b (ms_lf (ms_iload_n hx hb rfl (by decide +kernel)))
    (ms_lf (ms_bipush hx hb (by decide) (by decide +kernel)))))
    (ms_b (ms_b (ms_lf (ms_ic_ge hx hb (by decide) (by decide +kernel)))
    (ms_lf (ms_aload_n hx hb rfl (by decide +kernel))))
    (ms_b (ms_lf (ms_getf (C := RX12) (T := TX12) (N := 80) hx hb hf hts (fun w h => hAW w (inq_12 w h)) hown hK rfl (by decide) (hts _ (hAW _ qw_1471)) rfl (by decide +kernel)))
    (ms_lf (ms_iload_n hx hb rfl (by decide +kernel))))))
    (ms_b (ms_b (ms_b (ms_lf (ms_aload_n hx hb rfl (by decide +kernel)))
    (ms_lf (ms_getf (C := RX12) (T := TX12) (N := 80) hx hb hf hts (fun w h => hAW w (inq_12 w h)) hown hK rfl (by decide) (hts _ (hAW _ qw_1472)) rfl (by decide +kernel))))
    (ms_b (ms_lf (ms_iload_n hx hb rfl (by decide +kernel)))
    (ms_lf (ms_iald hx hb hf hA hX (by decide +kernel)))))
    (ms_b (ms_b (ms_lf (ms_iast hx hb hf hA (by decide +kernel)))
    (ms_lf (ms_iinc hx hb (by decide) (by decide : 1 < 2) (by decide +kernel))))
    (ms_b (ms_lf (ms_goto hx hb (by decide) (by decide +kernel)))
    (ms_lf (ms_ret hx hb hr hlk (by decide +kernel)))))))
set_option maxRecDepth 100000 in
set_option maxHeartbeats 8000000 in
/-- TippedCratesModel.copies -/
theorem sd_216 (l : Launch) (f : Nat → Nat) (D : va_G) (cA : FieldType → ClassId) (d : Nat) : mm_Ok2 l f D cA d (yX12_copies, cX12_copies, 2, none, mc_216) := by
  intro p e R s m args below meth c C hRf hRl pc
  obtain ⟨hx, hb, hml, hr, hlk, hnm, hown, hts, hEX, hgo, hf⟩ := C
  obtain ⟨hK, hA, hX, hZs, hZc, hZq, hTx, hSR0, hSR1, hAO, hN⟩ := id hEX
  have hAW : ∀ w ∈ mm_AW, w ∈ (Cond.code yX12_copies cX12_copies 2 none :: mm_AW) := fun w h => List.mem_cons_of_mem _ h
  have hown : s.vm.findClass "TippedCratesModel" = some m.cls := hown
  show mm_S p l e R s m args below meth c f D mm_cl cA 2 _ pc (mc_216 pc)
  unfold mc_216
  exact (ms_b (ms_b (ms_b (ms_b (ms_lf (ms_iconst hx hb (by decide) (by decide +kernel)))
    (ms_lf (ms_istore_n hx hb rfl (by decide : 1 < 2) (by decide +kernel))))
    (ms_b (ms_lf (ms_iload_n hx hb rfl (by decide +kernel)))
    (ms_b (ms_lf (ms_bipush hx hb (by decide) (by decide +kernel)))
    (ms_lf (ms_ic_ge hx hb (by decide) (by decide +kernel))))))
    (ms_b (ms_b (ms_lf (ms_aload_n hx hb rfl (by decide +kernel)))
    (ms_b (ms_lf (ms_getf (C := RX12) (T := TX12) (N := 80) hx hb hf hts (fun w h => hAW w (inq_12 w h)) hown hK rfl (by decide) (hts _ (hAW _ qw_1472)) rfl (by decide +kernel)))
    (ms_lf (ms_iload_n hx hb rfl (by decide +kernel)))))
    (ms_b (ms_lf (ms_aload_n hx hb rfl (by decide +kernel)))
    (ms_b (ms_lf (ms_getf (C := RX12) (T := TX12) (N := 80) hx hb hf hts (fun w h => hAW w (inq_12 w h)) hown hK rfl (by decide) (hts _ (hAW _ qw_1471)) rfl (by decide +kernel)))
    (ms_lf (ms_iload_n hx hb rfl (by decide +kernel)))))))
    (ms_b (ms_b (ms_b (ms_lf (ms_iald hx hb hf hA hX (by decide +kernel)))
    (ms_b (ms_lf (ms_iast hx hb hf hA (by decide +kernel)))
    (ms_lf (ms_iinc hx hb (by decide) (by decide : 1 < 2) (by decide +kernel)))))
    (ms_b (ms_lf (ms_goto hx hb (by decide) (by decide +kernel)))
    (ms_b (ms_lf (ms_aload_n hx hb rfl (by decide +kernel)))
    (ms_lf (ms_aload_n hx hb rfl (by decide +kernel))))))
    (ms_b (ms_b (ms_lf (ms_getf (C := RX12) (T := TX12) (N := 80) hx hb hf hts (fun w h => hAW w (inq_12 w h)) hown hK rfl (by decide) (hts _ (hAW _ qw_1450)) rfl (by decide +kernel)))
    (ms_b (ms_lf (ms_aload_n hx hb rfl (by decide +kernel)))
    (ms_lf (ms_getf (C := RX12) (T := TX12) (N := 80) hx hb hf hts (fun w h => hAW w (inq_12 w h)) hown hK rfl (by decide) (hts _ (hAW _ qw_1433)) rfl (by decide +kernel)))))
    (ms_b (ms_lf (ms_iald hx hb hf hA hX (by decide +kernel)))
    (ms_b (ms_lf (ms_put (C := RX12) (T := TX12) (N := 80) hx hb hf hts (fun w h => hAW w (inq_12 w h)) tyX12 tyX12_ok nmX12 hown hK rfl (by decide) (hts _ (hAW _ qw_1473)) rfl rfl rfl (by decide +kernel)))
    (ms_lf (ms_ret hx hb hr hlk (by decide +kernel))))))))
set_option maxRecDepth 100000 in
set_option maxHeartbeats 8000000 in
/-- TippedCratesModel.mixed -/
theorem sd_217 (l : Launch) (f : Nat → Nat) (D : va_G) (cA : FieldType → ClassId) (d : Nat) : mm_Ok2 l f D cA d (yX12_mixed, cX12_mixed, 3, (some .int), mc_217) := by
  intro p e R s m args below meth c C hRf hRl pc
  obtain ⟨hx, hb, hml, hr, hlk, hnm, hown, hts, hEX, hgo, hf⟩ := C
  obtain ⟨hK, hA, hX, hZs, hZc, hZq, hTx, hSR0, hSR1, hAO, hN⟩ := id hEX
  have hAW : ∀ w ∈ mm_AW, w ∈ (Cond.code yX12_mixed cX12_mixed 3 (some .int) :: mm_AW) := fun w h => List.mem_cons_of_mem _ h
  have hown : s.vm.findClass "TippedCratesModel" = some m.cls := hown
  show mm_S p l e R s m args below meth c f D mm_cl cA 3 _ pc (mc_217 pc)
  unfold mc_217
  exact (ms_b (ms_b (ms_b (ms_lf (ms_iload_n hx hb rfl (by decide +kernel)))
    (ms_b (ms_lf (ms_iload_n hx hb rfl (by decide +kernel)))
    (ms_lf (ms_ixor hx hb (by decide +kernel)))))
    (ms_b (ms_b (ms_lf (ms_ldcw hx hb hown (hts _ (hAW _ qw_1916)) (by decide +kernel)))
    (ms_lf (ms_imul hx hb (by decide +kernel))))
    (ms_b (ms_lf (ms_sipush hx hb (by decide) (by decide +kernel)))
    (ms_lf (ms_iadd hx hb (by decide +kernel))))))
    (ms_b (ms_b (ms_lf (ms_istore_n hx hb rfl (by decide : 2 < 3) (by decide +kernel)))
    (ms_b (ms_lf (ms_iload_n hx hb rfl (by decide +kernel)))
    (ms_lf (ms_iload_n hx hb rfl (by decide +kernel)))))
    (ms_b (ms_b (ms_lf (ms_bipush hx hb (by decide) (by decide +kernel)))
    (ms_lf (ms_iushr hx hb (by decide +kernel))))
    (ms_b (ms_lf (ms_ixor hx hb (by decide +kernel)))
    (ms_lf (ms_iret hx hb hr hlk (by decide +kernel)))))))
set_option maxRecDepth 100000 in
set_option maxHeartbeats 8000000 in
/-- TippedCratesModel.lotOf -/
theorem sd_218 (l : Launch) (f : Nat → Nat) (D : va_G) (cA : FieldType → ClassId) (d : Nat) : mm_Ok2 l f D cA d (yX12_lotOf, cX12_lotOf, 3, (some .int), mc_218) := by
  intro p e R s m args below meth c C hRf hRl pc
  obtain ⟨hx, hb, hml, hr, hlk, hnm, hown, hts, hEX, hgo, hf⟩ := C
  obtain ⟨hK, hA, hX, hZs, hZc, hZq, hTx, hSR0, hSR1, hAO, hN⟩ := id hEX
  have hAW : ∀ w ∈ mm_AW, w ∈ (Cond.code yX12_lotOf cX12_lotOf 3 (some .int) :: mm_AW) := fun w h => List.mem_cons_of_mem _ h
  have hown : s.vm.findClass "TippedCratesModel" = some m.cls := hown
  show mm_S p l e R s m args below meth c f D mm_cl cA 3 _ pc (mc_218 pc)
  unfold mc_218
  exact (ms_b (ms_b (ms_b (ms_lf (ms_aload_n hx hb rfl (by decide +kernel)))
    (ms_lf (ms_getf (C := RX12) (T := TX12) (N := 80) hx hb hf hts (fun w h => hAW w (inq_12 w h)) hown hK rfl (by decide) (hts _ (hAW _ qw_1473)) rfl (by decide +kernel))))
    (ms_b (ms_lf (ms_sipush hx hb (by decide) (by decide +kernel)))
    (ms_b (ms_lf (ms_ivS hx hb hml hown hts hgo hEX (mm_GS hAW (mm_GI hAW gi_217) qw_1913 qw_1914 qw_137) rfl hd_217 (mm_rm hRf hRl (Nat.le_of_ble_eq_true rfl)) (by decide +kernel)))
    (ms_lf (ms_iload_n hx hb rfl (by decide +kernel))))))
    (ms_b (ms_b (ms_lf (ms_ivS hx hb hml hown hts hgo hEX (mm_GS hAW (mm_GI hAW gi_217) qw_1913 qw_1914 qw_137) rfl hd_217 (mm_rm hRf hRl (Nat.le_of_ble_eq_true rfl)) (by decide +kernel)))
    (ms_b (ms_lf (ms_iconst hx hb (by decide) (by decide +kernel)))
    (ms_lf (ms_iushr hx hb (by decide +kernel)))))
    (ms_b (ms_lf (ms_iload_n hx hb rfl (by decide +kernel)))
    (ms_b (ms_lf (ms_irem hx hb (by decide +kernel)))
    (ms_lf (ms_iret hx hb hr hlk (by decide +kernel)))))))
set_option maxRecDepth 100000 in
set_option maxHeartbeats 8000000 in
/-- TippedCratesModel.toX -/
theorem sd_219 (l : Launch) (f : Nat → Nat) (D : va_G) (cA : FieldType → ClassId) (d : Nat) : mm_Ok2 l f D cA d (yX12_toX, cX12_toX, 3, (some .int), mc_219) := by
  intro p e R s m args below meth c C hRf hRl pc
  obtain ⟨hx, hb, hml, hr, hlk, hnm, hown, hts, hEX, hgo, hf⟩ := C
  obtain ⟨hK, hA, hX, hZs, hZc, hZq, hTx, hSR0, hSR1, hAO, hN⟩ := id hEX
  have hAW : ∀ w ∈ mm_AW, w ∈ (Cond.code yX12_toX cX12_toX 3 (some .int) :: mm_AW) := fun w h => List.mem_cons_of_mem _ h
  have hown : s.vm.findClass "TippedCratesModel" = some m.cls := hown
  show mm_S p l e R s m args below meth c f D mm_cl cA 3 _ pc (mc_219 pc)
  unfold mc_219
  exact (ms_b (ms_b (ms_b (ms_b (ms_lf (ms_iload_n hx hb rfl (by decide +kernel)))
    (ms_lf (ms_aload_n hx hb rfl (by decide +kernel))))
    (ms_b (ms_lf (ms_getf (C := RX12) (T := TX12) (N := 80) hx hb hf hts (fun w h => hAW w (inq_12 w h)) hown hK rfl (by decide) (hts _ (hAW _ qw_1437)) rfl (by decide +kernel)))
    (ms_lf (ms_aload_n hx hb rfl (by decide +kernel)))))
    (ms_b (ms_b (ms_lf (ms_getf (C := RX12) (T := TX12) (N := 80) hx hb hf hts (fun w h => hAW w (inq_12 w h)) hown hK rfl (by decide) (hts _ (hAW _ qw_1433)) rfl (by decide +kernel)))
    (ms_lf (ms_iald hx hb hf hA hX (by decide +kernel))))
    (ms_b (ms_lf (ms_irem hx hb (by decide +kernel)))
    (ms_b (ms_lf (ms_iload_n hx hb rfl (by decide +kernel)))
    (ms_lf (ms_if_ne hx hb (by decide) (by decide +kernel)))))))
    (ms_b (ms_b (ms_b (ms_lf (ms_iconst hx hb (by decide) (by decide +kernel)))
    (ms_lf (ms_goto hx hb (by decide) (by decide +kernel))))
    (ms_b (ms_lf (ms_iload_n hx hb rfl (by decide +kernel)))
    (ms_b (ms_lf (ms_iconst hx hb (by decide) (by decide +kernel)))
    (ms_lf (ms_ic_ne hx hb (by decide) (by decide +kernel))))))
    (ms_b (ms_b (ms_lf (ms_iconst hx hb (by decide) (by decide +kernel)))
    (ms_lf (ms_goto hx hb (by decide) (by decide +kernel))))
    (ms_b (ms_lf (ms_iconst hx hb (by decide) (by decide +kernel)))
    (ms_b (ms_lf (ms_iadd hx hb (by decide +kernel)))
    (ms_lf (ms_iret hx hb hr hlk (by decide +kernel))))))))
set_option maxRecDepth 100000 in
set_option maxHeartbeats 8000000 in
/-- TippedCratesModel.toY -/
theorem sd_220 (l : Launch) (f : Nat → Nat) (D : va_G) (cA : FieldType → ClassId) (d : Nat) : mm_Ok2 l f D cA d (yX12_toY, cX12_toY, 3, (some .int), mc_220) := by
  intro p e R s m args below meth c C hRf hRl pc
  obtain ⟨hx, hb, hml, hr, hlk, hnm, hown, hts, hEX, hgo, hf⟩ := C
  obtain ⟨hK, hA, hX, hZs, hZc, hZq, hTx, hSR0, hSR1, hAO, hN⟩ := id hEX
  have hAW : ∀ w ∈ mm_AW, w ∈ (Cond.code yX12_toY cX12_toY 3 (some .int) :: mm_AW) := fun w h => List.mem_cons_of_mem _ h
  have hown : s.vm.findClass "TippedCratesModel" = some m.cls := hown
  show mm_S p l e R s m args below meth c f D mm_cl cA 3 _ pc (mc_220 pc)
  unfold mc_220
  exact (ms_b (ms_b (ms_b (ms_b (ms_lf (ms_iload_n hx hb rfl (by decide +kernel)))
    (ms_lf (ms_aload_n hx hb rfl (by decide +kernel))))
    (ms_b (ms_lf (ms_getf (C := RX12) (T := TX12) (N := 80) hx hb hf hts (fun w h => hAW w (inq_12 w h)) hown hK rfl (by decide) (hts _ (hAW _ qw_1437)) rfl (by decide +kernel)))
    (ms_b (ms_lf (ms_aload_n hx hb rfl (by decide +kernel)))
    (ms_lf (ms_getf (C := RX12) (T := TX12) (N := 80) hx hb hf hts (fun w h => hAW w (inq_12 w h)) hown hK rfl (by decide) (hts _ (hAW _ qw_1433)) rfl (by decide +kernel))))))
    (ms_b (ms_b (ms_lf (ms_iald hx hb hf hA hX (by decide +kernel)))
    (ms_lf (ms_idiv hx hb (by decide +kernel))))
    (ms_b (ms_lf (ms_iload_n hx hb rfl (by decide +kernel)))
    (ms_b (ms_lf (ms_iconst hx hb (by decide) (by decide +kernel)))
    (ms_lf (ms_ic_ne hx hb (by decide) (by decide +kernel)))))))
    (ms_b (ms_b (ms_b (ms_lf (ms_iconst hx hb (by decide) (by decide +kernel)))
    (ms_lf (ms_goto hx hb (by decide) (by decide +kernel))))
    (ms_b (ms_lf (ms_iload_n hx hb rfl (by decide +kernel)))
    (ms_b (ms_lf (ms_iconst hx hb (by decide) (by decide +kernel)))
    (ms_lf (ms_ic_ne hx hb (by decide) (by decide +kernel))))))
    (ms_b (ms_b (ms_lf (ms_iconst hx hb (by decide) (by decide +kernel)))
    (ms_lf (ms_goto hx hb (by decide) (by decide +kernel))))
    (ms_b (ms_lf (ms_iconst hx hb (by decide) (by decide +kernel)))
    (ms_b (ms_lf (ms_iadd hx hb (by decide +kernel)))
    (ms_lf (ms_iret hx hb hr hlk (by decide +kernel))))))))
set_option maxRecDepth 100000 in
set_option maxHeartbeats 8000000 in
/-- TippedCratesModel.flagBy -/
theorem sd_221 (l : Launch) (f : Nat → Nat) (D : va_G) (cA : FieldType → ClassId) (d : Nat) : mm_Ok2 l f D cA d (yX12_flagBy, cX12_flagBy, 5, (some .int), mc_221) := by
  intro p e R s m args below meth c C hRf hRl pc
  obtain ⟨hx, hb, hml, hr, hlk, hnm, hown, hts, hEX, hgo, hf⟩ := C
  obtain ⟨hK, hA, hX, hZs, hZc, hZq, hTx, hSR0, hSR1, hAO, hN⟩ := id hEX
  have hAW : ∀ w ∈ mm_AW, w ∈ (Cond.code yX12_flagBy cX12_flagBy 5 (some .int) :: mm_AW) := fun w h => List.mem_cons_of_mem _ h
  have hown : s.vm.findClass "TippedCratesModel" = some m.cls := hown
  show mm_S p l e R s m args below meth c f D mm_cl cA 5 _ pc (mc_221 pc)
  unfold mc_221
  exact (ms_b (ms_b (ms_b (ms_b (ms_b (ms_lf (ms_aload_n hx hb rfl (by decide +kernel)))
    (ms_lf (ms_iload_n hx hb rfl (by decide +kernel))))
    (ms_b (ms_lf (ms_iload_n hx hb rfl (by decide +kernel)))
    (ms_b (ms_lf (ms_ivV (C := RX12) (T := TX12) (N := 80) hx hb hml hown hts hgo hEX hf hK rfl (mm_GV hAW (mm_GI hAW gi_219) qw_1824 qw_1826 qw_83 qw_137) rfl ⟨rfl, hd_219⟩ (mm_rm hRf hRl (Nat.le_of_ble_eq_true rfl)) (by decide +kernel)))
    (ms_lf (ms_istore_n hx hb rfl (by decide : 3 < 5) (by decide +kernel))))))
    (ms_b (ms_b (ms_lf (ms_aload_n hx hb rfl (by decide +kernel)))
    (ms_b (ms_lf (ms_iload_n hx hb rfl (by decide +kernel)))
    (ms_lf (ms_iload_n hx hb rfl (by decide +kernel)))))
    (ms_b (ms_lf (ms_ivV (C := RX12) (T := TX12) (N := 80) hx hb hml hown hts hgo hEX hf hK rfl (mm_GV hAW (mm_GI hAW gi_220) qw_1828 qw_1830 qw_84 qw_137) rfl ⟨rfl, hd_220⟩ (mm_rm hRf hRl (Nat.le_of_ble_eq_true rfl)) (by decide +kernel)))
    (ms_b (ms_lf (ms_istore hx hb (by decide : 4 < 5) (by decide +kernel)))
    (ms_lf (ms_iload_n hx hb rfl (by decide +kernel)))))))
    (ms_b (ms_b (ms_b (ms_lf (ms_iconst hx hb (by decide) (by decide +kernel)))
    (ms_lf (ms_aload_n hx hb rfl (by decide +kernel))))
    (ms_b (ms_lf (ms_getf (C := RX12) (T := TX12) (N := 80) hx hb hf hts (fun w h => hAW w (inq_12 w h)) hown hK rfl (by decide) (hts _ (hAW _ qw_1437)) rfl (by decide +kernel)))
    (ms_b (ms_lf (ms_aload_n hx hb rfl (by decide +kernel)))
    (ms_lf (ms_getf (C := RX12) (T := TX12) (N := 80) hx hb hf hts (fun w h => hAW w (inq_12 w h)) hown hK rfl (by decide) (hts _ (hAW _ qw_1433)) rfl (by decide +kernel))))))
    (ms_b (ms_b (ms_lf (ms_iald hx hb hf hA hX (by decide +kernel)))
    (ms_b (ms_lf (ms_iconst hx hb (by decide) (by decide +kernel)))
    (ms_lf (ms_isub hx hb (by decide +kernel)))))
    (ms_b (ms_lf (ms_ivS hx hb hml hown hts hgo hEX (mm_GS hAW (mm_GI hAW gi_206) qw_1782 qw_1783 qw_137) rfl hd_206 (mm_rm hRf hRl (Nat.le_of_ble_eq_true rfl)) (by decide +kernel)))
    (ms_b (ms_lf (ms_if_eq hx hb (by decide) (by decide +kernel)))
    (ms_lf (ms_iload hx hb (by decide +kernel))))))))
    (ms_b (ms_b (ms_b (ms_b (ms_lf (ms_iconst hx hb (by decide) (by decide +kernel)))
    (ms_lf (ms_aload_n hx hb rfl (by decide +kernel))))
    (ms_b (ms_lf (ms_getf (C := RX12) (T := TX12) (N := 80) hx hb hf hts (fun w h => hAW w (inq_12 w h)) hown hK rfl (by decide) (hts _ (hAW _ qw_1438)) rfl (by decide +kernel)))
    (ms_b (ms_lf (ms_aload_n hx hb rfl (by decide +kernel)))
    (ms_lf (ms_getf (C := RX12) (T := TX12) (N := 80) hx hb hf hts (fun w h => hAW w (inq_12 w h)) hown hK rfl (by decide) (hts _ (hAW _ qw_1433)) rfl (by decide +kernel))))))
    (ms_b (ms_b (ms_lf (ms_iald hx hb hf hA hX (by decide +kernel)))
    (ms_b (ms_lf (ms_iconst hx hb (by decide) (by decide +kernel)))
    (ms_lf (ms_isub hx hb (by decide +kernel)))))
    (ms_b (ms_lf (ms_ivS hx hb hml hown hts hgo hEX (mm_GS hAW (mm_GI hAW gi_206) qw_1782 qw_1783 qw_137) rfl hd_206 (mm_rm hRf hRl (Nat.le_of_ble_eq_true rfl)) (by decide +kernel)))
    (ms_b (ms_lf (ms_if_eq hx hb (by decide) (by decide +kernel)))
    (ms_lf (ms_aload_n hx hb rfl (by decide +kernel)))))))
    (ms_b (ms_b (ms_b (ms_lf (ms_getf (C := RX12) (T := TX12) (N := 80) hx hb hf hts (fun w h => hAW w (inq_12 w h)) hown hK rfl (by decide) (hts _ (hAW _ qw_1437)) rfl (by decide +kernel)))
    (ms_lf (ms_aload_n hx hb rfl (by decide +kernel))))
    (ms_b (ms_lf (ms_getf (C := RX12) (T := TX12) (N := 80) hx hb hf hts (fun w h => hAW w (inq_12 w h)) hown hK rfl (by decide) (hts _ (hAW _ qw_1433)) rfl (by decide +kernel)))
    (ms_b (ms_lf (ms_iald hx hb hf hA hX (by decide +kernel)))
    (ms_lf (ms_iload hx hb (by decide +kernel))))))
    (ms_b (ms_b (ms_lf (ms_imul hx hb (by decide +kernel)))
    (ms_b (ms_lf (ms_iload_n hx hb rfl (by decide +kernel)))
    (ms_lf (ms_iadd hx hb (by decide +kernel)))))
    (ms_b (ms_lf (ms_goto hx hb (by decide) (by decide +kernel)))
    (ms_b (ms_lf (ms_iconst hx hb (by decide) (by decide +kernel)))
    (ms_lf (ms_iret hx hb hr hlk (by decide +kernel)))))))))
set_option maxRecDepth 100000 in
set_option maxHeartbeats 8000000 in
/-- TippedCratesModel.isTaken -/
theorem sd_222 (l : Launch) (f : Nat → Nat) (D : va_G) (cA : FieldType → ClassId) (d : Nat) : mm_Ok2 l f D cA d (yX12_isTaken, cX12_isTaken, 4, (some .boolean), mc_222) := by
  intro p e R s m args below meth c C hRf hRl pc
  obtain ⟨hx, hb, hml, hr, hlk, hnm, hown, hts, hEX, hgo, hf⟩ := C
  obtain ⟨hK, hA, hX, hZs, hZc, hZq, hTx, hSR0, hSR1, hAO, hN⟩ := id hEX
  have hAW : ∀ w ∈ mm_AW, w ∈ (Cond.code yX12_isTaken cX12_isTaken 4 (some .boolean) :: mm_AW) := fun w h => List.mem_cons_of_mem _ h
  have hown : s.vm.findClass "TippedCratesModel" = some m.cls := hown
  show mm_S p l e R s m args below meth c f D mm_cl cA 4 _ pc (mc_222 pc)
  unfold mc_222
  exact (ms_b (ms_b (ms_b (ms_b (ms_lf (ms_iconst hx hb (by decide) (by decide +kernel)))
    (ms_b (ms_lf (ms_istore_n hx hb rfl (by decide : 3 < 4) (by decide +kernel)))
    (ms_lf (ms_iload_n hx hb rfl (by decide +kernel)))))
    (ms_b (ms_lf (ms_aload_n hx hb rfl (by decide +kernel)))
    (ms_b (ms_lf (ms_getf (C := RX12) (T := TX12) (N := 80) hx hb hf hts (fun w h => hAW w (inq_12 w h)) hown hK rfl (by decide) (hts _ (hAW _ qw_1446)) rfl (by decide +kernel)))
    (ms_lf (ms_aload_n hx hb rfl (by decide +kernel))))))
    (ms_b (ms_b (ms_lf (ms_getf (C := RX12) (T := TX12) (N := 80) hx hb hf hts (fun w h => hAW w (inq_12 w h)) hown hK rfl (by decide) (hts _ (hAW _ qw_1433)) rfl (by decide +kernel)))
    (ms_b (ms_lf (ms_iald hx hb hf hA hX (by decide +kernel)))
    (ms_lf (ms_ic_ge hx hb (by decide) (by decide +kernel)))))
    (ms_b (ms_b (ms_lf (ms_iload_n hx hb rfl (by decide +kernel)))
    (ms_lf (ms_iload_n hx hb rfl (by decide +kernel))))
    (ms_b (ms_lf (ms_ic_eq hx hb (by decide) (by decide +kernel)))
    (ms_lf (ms_aload_n hx hb rfl (by decide +kernel)))))))
    (ms_b (ms_b (ms_b (ms_lf (ms_getf (C := RX12) (T := TX12) (N := 80) hx hb hf hts (fun w h => hAW w (inq_12 w h)) hown hK rfl (by decide) (hts _ (hAW _ qw_1472)) rfl (by decide +kernel)))
    (ms_b (ms_lf (ms_bipush hx hb (by decide) (by decide +kernel)))
    (ms_lf (ms_iload_n hx hb rfl (by decide +kernel)))))
    (ms_b (ms_lf (ms_iadd hx hb (by decide +kernel)))
    (ms_b (ms_lf (ms_iald hx hb hf hA hX (by decide +kernel)))
    (ms_lf (ms_iload_n hx hb rfl (by decide +kernel))))))
    (ms_b (ms_b (ms_lf (ms_ic_ne hx hb (by decide) (by decide +kernel)))
    (ms_b (ms_lf (ms_iconst hx hb (by decide) (by decide +kernel)))
    (ms_lf (ms_iret hx hb hr hlk (by decide +kernel)))))
    (ms_b (ms_b (ms_lf (ms_iinc hx hb (by decide) (by decide : 3 < 4) (by decide +kernel)))
    (ms_lf (ms_goto hx hb (by decide) (by decide +kernel))))
    (ms_b (ms_lf (ms_iconst hx hb (by decide) (by decide +kernel)))
    (ms_lf (ms_iret hx hb hr hlk (by decide +kernel))))))))
set_option maxRecDepth 100000 in
set_option maxHeartbeats 8000000 in
/-- TippedCratesModel.canFrom -/
theorem sd_223 (l : Launch) (f : Nat → Nat) (D : va_G) (cA : FieldType → ClassId) (d : Nat) : mm_Ok2 l f D cA d (yX12_canFrom, cX12_canFrom, 5, (some .boolean), mc_223) := by
  intro p e R s m args below meth c C hRf hRl pc
  obtain ⟨hx, hb, hml, hr, hlk, hnm, hown, hts, hEX, hgo, hf⟩ := C
  obtain ⟨hK, hA, hX, hZs, hZc, hZq, hTx, hSR0, hSR1, hAO, hN⟩ := id hEX
  have hAW : ∀ w ∈ mm_AW, w ∈ (Cond.code yX12_canFrom cX12_canFrom 5 (some .boolean) :: mm_AW) := fun w h => List.mem_cons_of_mem _ h
  have hown : s.vm.findClass "TippedCratesModel" = some m.cls := hown
  show mm_S p l e R s m args below meth c f D mm_cl cA 5 _ pc (mc_223 pc)
  unfold mc_223
  exact (ms_b (ms_b (ms_b (ms_b (ms_lf (ms_aload_n hx hb rfl (by decide +kernel)))
    (ms_lf (ms_iload_n hx hb rfl (by decide +kernel))))
    (ms_b (ms_lf (ms_iload_n hx hb rfl (by decide +kernel)))
    (ms_b (ms_lf (ms_ivV (C := RX12) (T := TX12) (N := 80) hx hb hml hown hts hgo hEX hf hK rfl (mm_GV hAW (mm_GI hAW gi_221) qw_1820 qw_1822 qw_82 qw_137) rfl ⟨rfl, hd_221⟩ (mm_rm hRf hRl (Nat.le_of_ble_eq_true rfl)) (by decide +kernel)))
    (ms_lf (ms_istore hx hb (by decide : 4 < 5) (by decide +kernel))))))
    (ms_b (ms_b (ms_lf (ms_iload hx hb (by decide +kernel)))
    (ms_lf (ms_if_lt hx hb (by decide) (by decide +kernel))))
    (ms_b (ms_lf (ms_aload_n hx hb rfl (by decide +kernel)))
    (ms_b (ms_lf (ms_iload hx hb (by decide +kernel)))
    (ms_lf (ms_ivV (C := RX12) (T := TX12) (N := 80) hx hb hml hown hts hgo hEX hf hK rfl (mm_GV hAW (mm_GI hAW gi_213) qw_1789 qw_1791 qw_77 qw_137) rfl ⟨rfl, hd_213⟩ (mm_rm hRf hRl (Nat.le_of_ble_eq_true rfl)) (by decide +kernel)))))))
    (ms_b (ms_b (ms_b (ms_lf (ms_if_ne hx hb (by decide) (by decide +kernel)))
    (ms_lf (ms_aload_n hx hb rfl (by decide +kernel))))
    (ms_b (ms_lf (ms_iload_n hx hb rfl (by decide +kernel)))
    (ms_b (ms_lf (ms_iload hx hb (by decide +kernel)))
    (ms_lf (ms_ivV (C := RX12) (T := TX12) (N := 80) hx hb hml hown hts hgo hEX hf hK rfl (mm_GV hAW (mm_GI hAW gi_222) qw_1832 qw_1834 qw_85 qw_137) rfl ⟨rfl, hd_222⟩ (mm_rm hRf hRl (Nat.le_of_ble_eq_true rfl)) (by decide +kernel))))))
    (ms_b (ms_b (ms_lf (ms_if_ne hx hb (by decide) (by decide +kernel)))
    (ms_lf (ms_iconst hx hb (by decide) (by decide +kernel))))
    (ms_b (ms_lf (ms_goto hx hb (by decide) (by decide +kernel)))
    (ms_b (ms_lf (ms_iconst hx hb (by decide) (by decide +kernel)))
    (ms_lf (ms_iret hx hb hr hlk (by decide +kernel))))))))
set_option maxRecDepth 100000 in
set_option maxHeartbeats 8000000 in
/-- TippedCratesModel.canTip -/
theorem sd_224 (l : Launch) (f : Nat → Nat) (D : va_G) (cA : FieldType → ClassId) (d : Nat) : mm_Ok2 l f D cA d (yX12_canTip, cX12_canTip, 3, (some .boolean), mc_224) := by
  intro p e R s m args below meth c C hRf hRl pc
  obtain ⟨hx, hb, hml, hr, hlk, hnm, hown, hts, hEX, hgo, hf⟩ := C
  obtain ⟨hK, hA, hX, hZs, hZc, hZq, hTx, hSR0, hSR1, hAO, hN⟩ := id hEX
  have hAW : ∀ w ∈ mm_AW, w ∈ (Cond.code yX12_canTip cX12_canTip 3 (some .boolean) :: mm_AW) := fun w h => List.mem_cons_of_mem _ h
  have hown : s.vm.findClass "TippedCratesModel" = some m.cls := hown
  show mm_S p l e R s m args below meth c f D mm_cl cA 3 _ pc (mc_224 pc)
  unfold mc_224
  exact (ms_b (ms_b (ms_b (ms_lf (ms_aload_n hx hb rfl (by decide +kernel)))
    (ms_lf (ms_iload_n hx hb rfl (by decide +kernel))))
    (ms_b (ms_lf (ms_aload_n hx hb rfl (by decide +kernel)))
    (ms_b (ms_lf (ms_getf (C := RX12) (T := TX12) (N := 80) hx hb hf hts (fun w h => hAW w (inq_12 w h)) hown hK rfl (by decide) (hts _ (hAW _ qw_1472)) rfl (by decide +kernel)))
    (ms_lf (ms_bipush hx hb (by decide) (by decide +kernel))))))
    (ms_b (ms_b (ms_lf (ms_iload_n hx hb rfl (by decide +kernel)))
    (ms_b (ms_lf (ms_iadd hx hb (by decide +kernel)))
    (ms_lf (ms_iald hx hb hf hA hX (by decide +kernel)))))
    (ms_b (ms_lf (ms_iload_n hx hb rfl (by decide +kernel)))
    (ms_b (ms_lf (ms_ivV (C := RX12) (T := TX12) (N := 80) hx hb hml hown hts hgo hEX hf hK rfl (mm_GV hAW (mm_GI hAW gi_223) qw_1816 qw_1818 qw_81 qw_137) rfl ⟨rfl, hd_223⟩ (mm_rm hRf hRl (Nat.le_of_ble_eq_true rfl)) (by decide +kernel)))
    (ms_lf (ms_iret hx hb hr hlk (by decide +kernel)))))))
set_option maxRecDepth 100000 in
set_option maxHeartbeats 8000000 in
/-- TippedCratesModel.lawTells -/
theorem sd_225 (l : Launch) (f : Nat → Nat) (D : va_G) (cA : FieldType → ClassId) (d : Nat) : mm_Ok2 l f D cA d (yX12_lawTells, cX12_lawTells, 7, (some .int), mc_225) := by
  intro p e R s m args below meth c C hRf hRl pc
  obtain ⟨hx, hb, hml, hr, hlk, hnm, hown, hts, hEX, hgo, hf⟩ := C
  obtain ⟨hK, hA, hX, hZs, hZc, hZq, hTx, hSR0, hSR1, hAO, hN⟩ := id hEX
  have hAW : ∀ w ∈ mm_AW, w ∈ (Cond.code yX12_lawTells cX12_lawTells 7 (some .int) :: mm_AW) := fun w h => List.mem_cons_of_mem _ h
  have hown : s.vm.findClass "TippedCratesModel" = some m.cls := hown
  show mm_S p l e R s m args below meth c f D mm_cl cA 7 _ pc (mc_225 pc)
  unfold mc_225
  exact (ms_b (ms_b (ms_b (ms_b (ms_b (ms_b (ms_lf (ms_iconst hx hb (by decide) (by decide +kernel)))
    (ms_lf (ms_aload_n hx hb rfl (by decide +kernel))))
    (ms_b (ms_lf (ms_getf (C := RX12) (T := TX12) (N := 80) hx hb hf hts (fun w h => hAW w (inq_12 w h)) hown hK rfl (by decide) (hts _ (hAW _ qw_1433)) rfl (by decide +kernel)))
    (ms_b (ms_lf (ms_imul hx hb (by decide +kernel)))
    (ms_lf (ms_iload_n hx hb rfl (by decide +kernel))))))
    (ms_b (ms_b (ms_lf (ms_iadd hx hb (by decide +kernel)))
    (ms_b (ms_lf (ms_istore_n hx hb rfl (by decide : 3 < 7) (by decide +kernel)))
    (ms_lf (ms_aload_n hx hb rfl (by decide +kernel)))))
    (ms_b (ms_lf (ms_getf (C := RX12) (T := TX12) (N := 80) hx hb hf hts (fun w h => hAW w (inq_12 w h)) hown hK rfl (by decide) (hts _ (hAW _ qw_1451)) rfl (by decide +kernel)))
    (ms_b (ms_lf (ms_iload_n hx hb rfl (by decide +kernel)))
    (ms_lf (ms_iald hx hb hf hA hX (by decide +kernel)))))))
    (ms_b (ms_b (ms_b (ms_lf (ms_aload_n hx hb rfl (by decide +kernel)))
    (ms_lf (ms_getf (C := RX12) (T := TX12) (N := 80) hx hb hf hts (fun w h => hAW w (inq_12 w h)) hown hK rfl (by decide) (hts _ (hAW _ qw_1452)) rfl (by decide +kernel))))
    (ms_b (ms_lf (ms_iload_n hx hb rfl (by decide +kernel)))
    (ms_b (ms_lf (ms_iald hx hb hf hA hX (by decide +kernel)))
    (ms_lf (ms_ic_ne hx hb (by decide) (by decide +kernel))))))
    (ms_b (ms_b (ms_lf (ms_iload_n hx hb rfl (by decide +kernel)))
    (ms_b (ms_lf (ms_iret hx hb hr hlk (by decide +kernel)))
    (ms_lf (ms_aload_n hx hb rfl (by decide +kernel)))))
    (ms_b (ms_lf (ms_iconst hx hb (by decide) (by decide +kernel)))
    (ms_b (ms_lf (ms_put (C := RX12) (T := TX12) (N := 80) hx hb hf hts (fun w h => hAW w (inq_12 w h)) tyX12 tyX12_ok nmX12 hown hK rfl (by decide) (hts _ (hAW _ qw_1466)) rfl rfl rfl (by decide +kernel)))
    (ms_lf (ms_aload_n hx hb rfl (by decide +kernel))))))))
    (ms_b (ms_b (ms_b (ms_b (ms_lf (ms_getf (C := RX12) (T := TX12) (N := 80) hx hb hf hts (fun w h => hAW w (inq_12 w h)) hown hK rfl (by decide) (hts _ (hAW _ qw_1451)) rfl (by decide +kernel)))
    (ms_lf (ms_iload_n hx hb rfl (by decide +kernel))))
    (ms_b (ms_lf (ms_iald hx hb hf hA hX (by decide +kernel)))
    (ms_b (ms_lf (ms_istore hx hb (by decide : 4 < 7) (by decide +kernel)))
    (ms_lf (ms_iload hx hb (by decide +kernel))))))
    (ms_b (ms_b (ms_lf (ms_aload_n hx hb rfl (by decide +kernel)))
    (ms_b (ms_lf (ms_getf (C := RX12) (T := TX12) (N := 80) hx hb hf hts (fun w h => hAW w (inq_12 w h)) hown hK rfl (by decide) (hts _ (hAW _ qw_1452)) rfl (by decide +kernel)))
    (ms_lf (ms_iload_n hx hb rfl (by decide +kernel)))))
    (ms_b (ms_lf (ms_iald hx hb hf hA hX (by decide +kernel)))
    (ms_b (ms_lf (ms_ic_ge hx hb (by decide) (by decide +kernel)))
    (ms_lf (ms_aload_n hx hb rfl (by decide +kernel)))))))
    (ms_b (ms_b (ms_b (ms_lf (ms_getf (C := RX12) (T := TX12) (N := 80) hx hb hf hts (fun w h => hAW w (inq_12 w h)) hown hK rfl (by decide) (hts _ (hAW _ qw_1454)) rfl (by decide +kernel)))
    (ms_b (ms_lf (ms_iload hx hb (by decide +kernel)))
    (ms_lf (ms_bald hx hb hf hA (by decide +kernel)))))
    (ms_b (ms_lf (ms_if_eq hx hb (by decide) (by decide +kernel)))
    (ms_b (ms_lf (ms_aload_n hx hb rfl (by decide +kernel)))
    (ms_lf (ms_aload_n hx hb rfl (by decide +kernel))))))
    (ms_b (ms_b (ms_lf (ms_getf (C := RX12) (T := TX12) (N := 80) hx hb hf hts (fun w h => hAW w (inq_12 w h)) hown hK rfl (by decide) (hts _ (hAW _ qw_1455)) rfl (by decide +kernel)))
    (ms_b (ms_lf (ms_iload hx hb (by decide +kernel)))
    (ms_lf (ms_iald hx hb hf hA hX (by decide +kernel)))))
    (ms_b (ms_lf (ms_aload_n hx hb rfl (by decide +kernel)))
    (ms_b (ms_lf (ms_getf (C := RX12) (T := TX12) (N := 80) hx hb hf hts (fun w h => hAW w (inq_12 w h)) hown hK rfl (by decide) (hts _ (hAW _ qw_1456)) rfl (by decide +kernel)))
    (ms_lf (ms_iload hx hb (by decide +kernel)))))))))
    (ms_b (ms_b (ms_b (ms_b (ms_b (ms_lf (ms_iald hx hb hf hA hX (by decide +kernel)))
    (ms_lf (ms_ivV (C := RX12) (T := TX12) (N := 80) hx hb hml hown hts hgo hEX hf hK rfl (mm_GV hAW (mm_GI hAW gi_201) qw_1856 qw_1858 qw_91 qw_137) rfl ⟨rfl, hd_201⟩ (mm_rm hRf hRl (Nat.le_of_ble_eq_true rfl)) (by decide +kernel))))
    (ms_b (ms_lf (ms_istore hx hb (by decide : 5 < 7) (by decide +kernel)))
    (ms_b (ms_lf (ms_aload_n hx hb rfl (by decide +kernel)))
    (ms_lf (ms_aload_n hx hb rfl (by decide +kernel))))))
    (ms_b (ms_b (ms_lf (ms_getf (C := RX12) (T := TX12) (N := 80) hx hb hf hts (fun w h => hAW w (inq_12 w h)) hown hK rfl (by decide) (hts _ (hAW _ qw_1456)) rfl (by decide +kernel)))
    (ms_b (ms_lf (ms_iload hx hb (by decide +kernel)))
    (ms_lf (ms_iald hx hb hf hA hX (by decide +kernel)))))
    (ms_b (ms_lf (ms_aload_n hx hb rfl (by decide +kernel)))
    (ms_b (ms_lf (ms_getf (C := RX12) (T := TX12) (N := 80) hx hb hf hts (fun w h => hAW w (inq_12 w h)) hown hK rfl (by decide) (hts _ (hAW _ qw_1457)) rfl (by decide +kernel)))
    (ms_lf (ms_iload hx hb (by decide +kernel)))))))
    (ms_b (ms_b (ms_b (ms_lf (ms_iald hx hb hf hA hX (by decide +kernel)))
    (ms_lf (ms_ivV (C := RX12) (T := TX12) (N := 80) hx hb hml hown hts hgo hEX hf hK rfl (mm_GV hAW (mm_GI hAW gi_201) qw_1856 qw_1858 qw_91 qw_137) rfl ⟨rfl, hd_201⟩ (mm_rm hRf hRl (Nat.le_of_ble_eq_true rfl)) (by decide +kernel))))
    (ms_b (ms_lf (ms_istore hx hb (by decide : 6 < 7) (by decide +kernel)))
    (ms_b (ms_lf (ms_aload_n hx hb rfl (by decide +kernel)))
    (ms_lf (ms_getf (C := RX12) (T := TX12) (N := 80) hx hb hf hts (fun w h => hAW w (inq_12 w h)) hown hK rfl (by decide) (hts _ (hAW _ qw_1466)) rfl (by decide +kernel))))))
    (ms_b (ms_b (ms_lf (ms_if_eq hx hb (by decide) (by decide +kernel)))
    (ms_b (ms_lf (ms_iconst hx hb (by decide) (by decide +kernel)))
    (ms_lf (ms_iret hx hb hr hlk (by decide +kernel)))))
    (ms_b (ms_lf (ms_iload hx hb (by decide +kernel)))
    (ms_b (ms_lf (ms_iload hx hb (by decide +kernel)))
    (ms_lf (ms_ic_lt hx hb (by decide) (by decide +kernel))))))))
    (ms_b (ms_b (ms_b (ms_b (ms_lf (ms_goto hx hb (by decide) (by decide +kernel)))
    (ms_lf (ms_aload_n hx hb rfl (by decide +kernel))))
    (ms_b (ms_lf (ms_aload_n hx hb rfl (by decide +kernel)))
    (ms_b (ms_lf (ms_getf (C := RX12) (T := TX12) (N := 80) hx hb hf hts (fun w h => hAW w (inq_12 w h)) hown hK rfl (by decide) (hts _ (hAW _ qw_1457)) rfl (by decide +kernel)))
    (ms_lf (ms_iload hx hb (by decide +kernel))))))
    (ms_b (ms_b (ms_lf (ms_iald hx hb hf hA hX (by decide +kernel)))
    (ms_b (ms_lf (ms_aload_n hx hb rfl (by decide +kernel)))
    (ms_lf (ms_getf (C := RX12) (T := TX12) (N := 80) hx hb hf hts (fun w h => hAW w (inq_12 w h)) hown hK rfl (by decide) (hts _ (hAW _ qw_1458)) rfl (by decide +kernel)))))
    (ms_b (ms_lf (ms_iload hx hb (by decide +kernel)))
    (ms_b (ms_lf (ms_iald hx hb hf hA hX (by decide +kernel)))
    (ms_lf (ms_ivV (C := RX12) (T := TX12) (N := 80) hx hb hml hown hts hgo hEX hf hK rfl (mm_GV hAW (mm_GI hAW gi_201) qw_1856 qw_1858 qw_91 qw_137) rfl ⟨rfl, hd_201⟩ (mm_rm hRf hRl (Nat.le_of_ble_eq_true rfl)) (by decide +kernel)))))))
    (ms_b (ms_b (ms_b (ms_lf (ms_istore hx hb (by decide : 5 < 7) (by decide +kernel)))
    (ms_b (ms_lf (ms_aload_n hx hb rfl (by decide +kernel)))
    (ms_lf (ms_getf (C := RX12) (T := TX12) (N := 80) hx hb hf hts (fun w h => hAW w (inq_12 w h)) hown hK rfl (by decide) (hts _ (hAW _ qw_1466)) rfl (by decide +kernel)))))
    (ms_b (ms_lf (ms_if_eq hx hb (by decide) (by decide +kernel)))
    (ms_b (ms_lf (ms_iconst hx hb (by decide) (by decide +kernel)))
    (ms_lf (ms_goto hx hb (by decide) (by decide +kernel))))))
    (ms_b (ms_b (ms_lf (ms_iload hx hb (by decide +kernel)))
    (ms_b (ms_lf (ms_iret hx hb hr hlk (by decide +kernel)))
    (ms_lf (ms_iinc hx hb (by decide) (by decide : 4 < 7) (by decide +kernel)))))
    (ms_b (ms_lf (ms_goto hx hb (by decide) (by decide +kernel)))
    (ms_b (ms_lf (ms_iconst hx hb (by decide) (by decide +kernel)))
    (ms_lf (ms_iret hx hb hr hlk (by decide +kernel))))))))))
set_option maxRecDepth 100000 in
set_option maxHeartbeats 8000000 in
/-- TippedCratesModel.views -/
theorem sd_226 (l : Launch) (f : Nat → Nat) (D : va_G) (cA : FieldType → ClassId) (d : Nat) : mm_Ok2 l f D cA d (yX12_views, cX12_views, 7, none, mc_226) := by
  intro p e R s m args below meth c C hRf hRl pc
  obtain ⟨hx, hb, hml, hr, hlk, hnm, hown, hts, hEX, hgo, hf⟩ := C
  obtain ⟨hK, hA, hX, hZs, hZc, hZq, hTx, hSR0, hSR1, hAO, hN⟩ := id hEX
  have hAW : ∀ w ∈ mm_AW, w ∈ (Cond.code yX12_views cX12_views 7 none :: mm_AW) := fun w h => List.mem_cons_of_mem _ h
  have hown : s.vm.findClass "TippedCratesModel" = some m.cls := hown
  show mm_S p l e R s m args below meth c f D mm_cl cA 7 _ pc (mc_226 pc)
  unfold mc_226
  exact (ms_b (ms_b (ms_b (ms_b (ms_b (ms_b (ms_lf (ms_aload_n hx hb rfl (by decide +kernel)))
    (ms_lf (ms_iload_n hx hb rfl (by decide +kernel))))
    (ms_b (ms_lf (ms_iload hx hb (by decide +kernel)))
    (ms_b (ms_lf (ms_ivV (C := RX12) (T := TX12) (N := 80) hx hb hml hown hts hgo hEX hf hK rfl (mm_GV hAW (mm_GI hAW gi_221) qw_1820 qw_1822 qw_82 qw_137) rfl ⟨rfl, hd_221⟩ (mm_rm hRf hRl (Nat.le_of_ble_eq_true rfl)) (by decide +kernel)))
    (ms_lf (ms_istore hx hb (by decide : 5 < 7) (by decide +kernel))))))
    (ms_b (ms_b (ms_lf (ms_aload_n hx hb rfl (by decide +kernel)))
    (ms_b (ms_lf (ms_getf (C := RX12) (T := TX12) (N := 80) hx hb hf hts (fun w h => hAW w (inq_12 w h)) hown hK rfl (by decide) (hts _ (hAW _ qw_1468)) rfl (by decide +kernel)))
    (ms_lf (ms_iconst hx hb (by decide) (by decide +kernel)))))
    (ms_b (ms_lf (ms_iload_n hx hb rfl (by decide +kernel)))
    (ms_b (ms_lf (ms_imul hx hb (by decide +kernel)))
    (ms_lf (ms_iload hx hb (by decide +kernel)))))))
    (ms_b (ms_b (ms_b (ms_lf (ms_iadd hx hb (by decide +kernel)))
    (ms_lf (ms_iald hx hb hf hA hX (by decide +kernel))))
    (ms_b (ms_lf (ms_istore hx hb (by decide : 6 < 7) (by decide +kernel)))
    (ms_b (ms_lf (ms_aload_n hx hb rfl (by decide +kernel)))
    (ms_lf (ms_getf (C := RX12) (T := TX12) (N := 80) hx hb hf hts (fun w h => hAW w (inq_12 w h)) hown hK rfl (by decide) (hts _ (hAW _ qw_1464)) rfl (by decide +kernel))))))
    (ms_b (ms_b (ms_lf (ms_iconst hx hb (by decide) (by decide +kernel)))
    (ms_b (ms_lf (ms_aload_n hx hb rfl (by decide +kernel)))
    (ms_lf (ms_iload_n hx hb rfl (by decide +kernel)))))
    (ms_b (ms_lf (ms_iload hx hb (by decide +kernel)))
    (ms_b (ms_lf (ms_ivV (C := RX12) (T := TX12) (N := 80) hx hb hml hown hts hgo hEX hf hK rfl (mm_GV hAW (mm_GI hAW gi_219) qw_1824 qw_1826 qw_83 qw_137) rfl ⟨rfl, hd_219⟩ (mm_rm hRf hRl (Nat.le_of_ble_eq_true rfl)) (by decide +kernel)))
    (ms_lf (ms_iast hx hb hf hA (by decide +kernel))))))))
    (ms_b (ms_b (ms_b (ms_b (ms_lf (ms_aload_n hx hb rfl (by decide +kernel)))
    (ms_lf (ms_getf (C := RX12) (T := TX12) (N := 80) hx hb hf hts (fun w h => hAW w (inq_12 w h)) hown hK rfl (by decide) (hts _ (hAW _ qw_1464)) rfl (by decide +kernel))))
    (ms_b (ms_lf (ms_iconst hx hb (by decide) (by decide +kernel)))
    (ms_b (ms_lf (ms_aload_n hx hb rfl (by decide +kernel)))
    (ms_lf (ms_iload_n hx hb rfl (by decide +kernel))))))
    (ms_b (ms_b (ms_lf (ms_iload hx hb (by decide +kernel)))
    (ms_b (ms_lf (ms_ivV (C := RX12) (T := TX12) (N := 80) hx hb hml hown hts hgo hEX hf hK rfl (mm_GV hAW (mm_GI hAW gi_220) qw_1828 qw_1830 qw_84 qw_137) rfl ⟨rfl, hd_220⟩ (mm_rm hRf hRl (Nat.le_of_ble_eq_true rfl)) (by decide +kernel)))
    (ms_lf (ms_iast hx hb hf hA (by decide +kernel)))))
    (ms_b (ms_lf (ms_aload_n hx hb rfl (by decide +kernel)))
    (ms_b (ms_lf (ms_getf (C := RX12) (T := TX12) (N := 80) hx hb hf hts (fun w h => hAW w (inq_12 w h)) hown hK rfl (by decide) (hts _ (hAW _ qw_1464)) rfl (by decide +kernel)))
    (ms_lf (ms_iconst hx hb (by decide) (by decide +kernel)))))))
    (ms_b (ms_b (ms_b (ms_lf (ms_iload hx hb (by decide +kernel)))
    (ms_lf (ms_if_ge hx hb (by decide) (by decide +kernel))))
    (ms_b (ms_lf (ms_iconst hx hb (by decide) (by decide +kernel)))
    (ms_b (ms_lf (ms_goto hx hb (by decide) (by decide +kernel)))
    (ms_lf (ms_aload_n hx hb rfl (by decide +kernel))))))
    (ms_b (ms_b (ms_lf (ms_getf (C := RX12) (T := TX12) (N := 80) hx hb hf hts (fun w h => hAW w (inq_12 w h)) hown hK rfl (by decide) (hts _ (hAW _ qw_1472)) rfl (by decide +kernel)))
    (ms_b (ms_lf (ms_iload hx hb (by decide +kernel)))
    (ms_lf (ms_iald hx hb hf hA hX (by decide +kernel)))))
    (ms_b (ms_lf (ms_iast hx hb hf hA (by decide +kernel)))
    (ms_b (ms_lf (ms_aload_n hx hb rfl (by decide +kernel)))
    (ms_lf (ms_getf (C := RX12) (T := TX12) (N := 80) hx hb hf hts (fun w h => hAW w (inq_12 w h)) hown hK rfl (by decide) (hts _ (hAW _ qw_1464)) rfl (by decide +kernel)))))))))
    (ms_b (ms_b (ms_b (ms_b (ms_b (ms_lf (ms_iconst hx hb (by decide) (by decide +kernel)))
    (ms_lf (ms_aload_n hx hb rfl (by decide +kernel))))
    (ms_b (ms_lf (ms_iload_n hx hb rfl (by decide +kernel)))
    (ms_b (ms_lf (ms_iload hx hb (by decide +kernel)))
    (ms_lf (ms_iconst hx hb (by decide) (by decide +kernel))))))
    (ms_b (ms_b (ms_lf (ms_ivV (C := RX12) (T := TX12) (N := 80) hx hb hml hown hts hgo hEX hf hK rfl (mm_GV hAW (mm_GI hAW gi_227) qw_1848 qw_1850 qw_89 qw_137) rfl ⟨rfl, hd_227⟩ (mm_rm hRf hRl (Nat.le_of_ble_eq_true rfl)) (by decide +kernel)))
    (ms_b (ms_lf (ms_iast hx hb hf hA (by decide +kernel)))
    (ms_lf (ms_aload_n hx hb rfl (by decide +kernel)))))
    (ms_b (ms_lf (ms_getf (C := RX12) (T := TX12) (N := 80) hx hb hf hts (fun w h => hAW w (inq_12 w h)) hown hK rfl (by decide) (hts _ (hAW _ qw_1464)) rfl (by decide +kernel)))
    (ms_b (ms_lf (ms_iconst hx hb (by decide) (by decide +kernel)))
    (ms_lf (ms_aload_n hx hb rfl (by decide +kernel)))))))
    (ms_b (ms_b (ms_b (ms_lf (ms_iload_n hx hb rfl (by decide +kernel)))
    (ms_lf (ms_iload hx hb (by decide +kernel))))
    (ms_b (ms_lf (ms_iconst hx hb (by decide) (by decide +kernel)))
    (ms_b (ms_lf (ms_ivV (C := RX12) (T := TX12) (N := 80) hx hb hml hown hts hgo hEX hf hK rfl (mm_GV hAW (mm_GI hAW gi_227) qw_1848 qw_1850 qw_89 qw_137) rfl ⟨rfl, hd_227⟩ (mm_rm hRf hRl (Nat.le_of_ble_eq_true rfl)) (by decide +kernel)))
    (ms_lf (ms_iast hx hb hf hA (by decide +kernel))))))
    (ms_b (ms_b (ms_lf (ms_aload_n hx hb rfl (by decide +kernel)))
    (ms_b (ms_lf (ms_getf (C := RX12) (T := TX12) (N := 80) hx hb hf hts (fun w h => hAW w (inq_12 w h)) hown hK rfl (by decide) (hts _ (hAW _ qw_1464)) rfl (by decide +kernel)))
    (ms_lf (ms_iconst hx hb (by decide) (by decide +kernel)))))
    (ms_b (ms_lf (ms_aload_n hx hb rfl (by decide +kernel)))
    (ms_b (ms_lf (ms_getf (C := RX12) (T := TX12) (N := 80) hx hb hf hts (fun w h => hAW w (inq_12 w h)) hown hK rfl (by decide) (hts _ (hAW _ qw_1472)) rfl (by decide +kernel)))
    (ms_lf (ms_bipush hx hb (by decide) (by decide +kernel))))))))
    (ms_b (ms_b (ms_b (ms_b (ms_lf (ms_iload_n hx hb rfl (by decide +kernel)))
    (ms_lf (ms_iadd hx hb (by decide +kernel))))
    (ms_b (ms_lf (ms_iald hx hb hf hA hX (by decide +kernel)))
    (ms_b (ms_lf (ms_iast hx hb hf hA (by decide +kernel)))
    (ms_lf (ms_aload_n hx hb rfl (by decide +kernel))))))
    (ms_b (ms_b (ms_lf (ms_getf (C := RX12) (T := TX12) (N := 80) hx hb hf hts (fun w h => hAW w (inq_12 w h)) hown hK rfl (by decide) (hts _ (hAW _ qw_1464)) rfl (by decide +kernel)))
    (ms_b (ms_lf (ms_bipush hx hb (by decide) (by decide +kernel)))
    (ms_lf (ms_aload_n hx hb rfl (by decide +kernel)))))
    (ms_b (ms_lf (ms_getf (C := RX12) (T := TX12) (N := 80) hx hb hf hts (fun w h => hAW w (inq_12 w h)) hown hK rfl (by decide) (hts _ (hAW _ qw_1472)) rfl (by decide +kernel)))
    (ms_b (ms_lf (ms_bipush hx hb (by decide) (by decide +kernel)))
    (ms_lf (ms_iald hx hb hf hA hX (by decide +kernel)))))))
    (ms_b (ms_b (ms_b (ms_lf (ms_iast hx hb hf hA (by decide +kernel)))
    (ms_b (ms_lf (ms_aload_n hx hb rfl (by decide +kernel)))
    (ms_lf (ms_getf (C := RX12) (T := TX12) (N := 80) hx hb hf hts (fun w h => hAW w (inq_12 w h)) hown hK rfl (by decide) (hts _ (hAW _ qw_1464)) rfl (by decide +kernel)))))
    (ms_b (ms_lf (ms_bipush hx hb (by decide) (by decide +kernel)))
    (ms_b (ms_lf (ms_iload_n hx hb rfl (by decide +kernel)))
    (ms_lf (ms_iast hx hb hf hA (by decide +kernel))))))
    (ms_b (ms_b (ms_lf (ms_aload_n hx hb rfl (by decide +kernel)))
    (ms_b (ms_lf (ms_getf (C := RX12) (T := TX12) (N := 80) hx hb hf hts (fun w h => hAW w (inq_12 w h)) hown hK rfl (by decide) (hts _ (hAW _ qw_1464)) rfl (by decide +kernel)))
    (ms_lf (ms_bipush hx hb (by decide) (by decide +kernel)))))
    (ms_b (ms_lf (ms_iload hx hb (by decide +kernel)))
    (ms_b (ms_lf (ms_iast hx hb hf hA (by decide +kernel)))
    (ms_lf (ms_ret hx hb hr hlk (by decide +kernel))))))))))
set_option maxRecDepth 100000 in
set_option maxHeartbeats 8000000 in
/-- TippedCratesModel.markAt -/
theorem sd_227 (l : Launch) (f : Nat → Nat) (D : va_G) (cA : FieldType → ClassId) (d : Nat) : mm_Ok2 l f D cA d (yX12_markAt, cX12_markAt, 4, (some .int), mc_227) := by
  intro p e R s m args below meth c C hRf hRl pc
  obtain ⟨hx, hb, hml, hr, hlk, hnm, hown, hts, hEX, hgo, hf⟩ := C
  obtain ⟨hK, hA, hX, hZs, hZc, hZq, hTx, hSR0, hSR1, hAO, hN⟩ := id hEX
  have hAW : ∀ w ∈ mm_AW, w ∈ (Cond.code yX12_markAt cX12_markAt 4 (some .int) :: mm_AW) := fun w h => List.mem_cons_of_mem _ h
  have hown : s.vm.findClass "TippedCratesModel" = some m.cls := hown
  show mm_S p l e R s m args below meth c f D mm_cl cA 4 _ pc (mc_227 pc)
  unfold mc_227
  exact (ms_b (ms_b (ms_b (ms_b (ms_lf (ms_aload_n hx hb rfl (by decide +kernel)))
    (ms_lf (ms_getf (C := RX12) (T := TX12) (N := 80) hx hb hf hts (fun w h => hAW w (inq_12 w h)) hown hK rfl (by decide) (hts _ (hAW _ qw_1472)) rfl (by decide +kernel))))
    (ms_b (ms_lf (ms_bipush hx hb (by decide) (by decide +kernel)))
    (ms_lf (ms_bipush hx hb (by decide) (by decide +kernel)))))
    (ms_b (ms_b (ms_lf (ms_iload_n hx hb rfl (by decide +kernel)))
    (ms_lf (ms_imul hx hb (by decide +kernel))))
    (ms_b (ms_lf (ms_iadd hx hb (by decide +kernel)))
    (ms_b (ms_lf (ms_aload_n hx hb rfl (by decide +kernel)))
    (ms_lf (ms_getf (C := RX12) (T := TX12) (N := 80) hx hb hf hts (fun w h => hAW w (inq_12 w h)) hown hK rfl (by decide) (hts _ (hAW _ qw_1467)) rfl (by decide +kernel)))))))
    (ms_b (ms_b (ms_b (ms_lf (ms_bipush hx hb (by decide) (by decide +kernel)))
    (ms_lf (ms_iload_n hx hb rfl (by decide +kernel))))
    (ms_b (ms_lf (ms_imul hx hb (by decide +kernel)))
    (ms_lf (ms_iload_n hx hb rfl (by decide +kernel)))))
    (ms_b (ms_b (ms_lf (ms_iadd hx hb (by decide +kernel)))
    (ms_lf (ms_iald hx hb hf hA hX (by decide +kernel))))
    (ms_b (ms_lf (ms_iadd hx hb (by decide +kernel)))
    (ms_b (ms_lf (ms_iald hx hb hf hA hX (by decide +kernel)))
    (ms_lf (ms_iret hx hb hr hlk (by decide +kernel))))))))
set_option maxRecDepth 100000 in
set_option maxHeartbeats 8000000 in
/-- TippedCratesModel.costsAt -/
theorem sd_228 (l : Launch) (f : Nat → Nat) (D : va_G) (cA : FieldType → ClassId) (d : Nat) : mm_Ok2 l f D cA d (yX12_costsAt, cX12_costsAt, 5, (some .int), mc_228) := by
  intro p e R s m args below meth c C hRf hRl pc
  obtain ⟨hx, hb, hml, hr, hlk, hnm, hown, hts, hEX, hgo, hf⟩ := C
  obtain ⟨hK, hA, hX, hZs, hZc, hZq, hTx, hSR0, hSR1, hAO, hN⟩ := id hEX
  have hAW : ∀ w ∈ mm_AW, w ∈ (Cond.code yX12_costsAt cX12_costsAt 5 (some .int) :: mm_AW) := fun w h => List.mem_cons_of_mem _ h
  have hown : s.vm.findClass "TippedCratesModel" = some m.cls := hown
  show mm_S p l e R s m args below meth c f D mm_cl cA 5 _ pc (mc_228 pc)
  unfold mc_228
  exact (ms_b (ms_b (ms_b (ms_lf (ms_aload_n hx hb rfl (by decide +kernel)))
    (ms_b (ms_lf (ms_iload_n hx hb rfl (by decide +kernel)))
    (ms_lf (ms_iload_n hx hb rfl (by decide +kernel)))))
    (ms_b (ms_b (ms_lf (ms_iload_n hx hb rfl (by decide +kernel)))
    (ms_lf (ms_iload hx hb (by decide +kernel))))
    (ms_b (ms_lf (ms_ivV (C := RX12) (T := TX12) (N := 80) hx hb hml hown hts hgo hEX hf hK rfl (mm_GV hAW (mm_GI hAW gi_226) qw_1844 qw_1846 qw_88 qw_137) rfl ⟨rfl, hd_226⟩ (mm_rm hRf hRl (Nat.le_of_ble_eq_true rfl)) (by decide +kernel)))
    (ms_lf (ms_aload_n hx hb rfl (by decide +kernel))))))
    (ms_b (ms_b (ms_lf (ms_iconst hx hb (by decide) (by decide +kernel)))
    (ms_b (ms_lf (ms_iconst hx hb (by decide) (by decide +kernel)))
    (ms_lf (ms_ivV (C := RX12) (T := TX12) (N := 80) hx hb hml hown hts hgo hEX hf hK rfl (mm_GV hAW (mm_GI hAW gi_225) qw_1852 qw_1854 qw_90 qw_137) rfl ⟨rfl, hd_225⟩ (mm_rm hRf hRl (Nat.le_of_ble_eq_true rfl)) (by decide +kernel)))))
    (ms_b (ms_b (ms_lf (ms_iconst hx hb (by decide) (by decide +kernel)))
    (ms_lf (ms_bipush hx hb (by decide) (by decide +kernel))))
    (ms_b (ms_lf (ms_ivS hx hb hml hown hts hgo hEX (mm_GS hAW (mm_GI hAW gi_207) qw_1860 qw_1861 qw_137) rfl hd_207 (mm_rm hRf hRl (Nat.le_of_ble_eq_true rfl)) (by decide +kernel)))
    (ms_lf (ms_iret hx hb hr hlk (by decide +kernel)))))))
set_option maxRecDepth 100000 in
set_option maxHeartbeats 8000000 in
/-- TippedCratesModel.costsOf -/
theorem sd_229 (l : Launch) (f : Nat → Nat) (D : va_G) (cA : FieldType → ClassId) (d : Nat) : mm_Ok2 l f D cA d (yX12_costsOf, cX12_costsOf, 3, (some .int), mc_229) := by
  intro p e R s m args below meth c C hRf hRl pc
  obtain ⟨hx, hb, hml, hr, hlk, hnm, hown, hts, hEX, hgo, hf⟩ := C
  obtain ⟨hK, hA, hX, hZs, hZc, hZq, hTx, hSR0, hSR1, hAO, hN⟩ := id hEX
  have hAW : ∀ w ∈ mm_AW, w ∈ (Cond.code yX12_costsOf cX12_costsOf 3 (some .int) :: mm_AW) := fun w h => List.mem_cons_of_mem _ h
  have hown : s.vm.findClass "TippedCratesModel" = some m.cls := hown
  show mm_S p l e R s m args below meth c f D mm_cl cA 3 _ pc (mc_229 pc)
  unfold mc_229
  exact (ms_b (ms_b (ms_b (ms_lf (ms_aload_n hx hb rfl (by decide +kernel)))
    (ms_b (ms_lf (ms_iload_n hx hb rfl (by decide +kernel)))
    (ms_lf (ms_aload_n hx hb rfl (by decide +kernel)))))
    (ms_b (ms_lf (ms_getf (C := RX12) (T := TX12) (N := 80) hx hb hf hts (fun w h => hAW w (inq_12 w h)) hown hK rfl (by decide) (hts _ (hAW _ qw_1472)) rfl (by decide +kernel)))
    (ms_b (ms_lf (ms_bipush hx hb (by decide) (by decide +kernel)))
    (ms_lf (ms_iload_n hx hb rfl (by decide +kernel))))))
    (ms_b (ms_b (ms_lf (ms_iadd hx hb (by decide +kernel)))
    (ms_b (ms_lf (ms_iald hx hb hf hA hX (by decide +kernel)))
    (ms_lf (ms_iconst hx hb (by decide) (by decide +kernel)))))
    (ms_b (ms_lf (ms_iload_n hx hb rfl (by decide +kernel)))
    (ms_b (ms_lf (ms_ivV (C := RX12) (T := TX12) (N := 80) hx hb hml hown hts hgo hEX hf hK rfl (mm_GV hAW (mm_GI hAW gi_228) qw_1840 qw_1842 qw_87 qw_137) rfl ⟨rfl, hd_228⟩ (mm_rm hRf hRl (Nat.le_of_ble_eq_true rfl)) (by decide +kernel)))
    (ms_lf (ms_iret hx hb hr hlk (by decide +kernel)))))))
set_option maxRecDepth 100000 in
set_option maxHeartbeats 8000000 in
/-- TippedCratesModel.doesPrint -/
theorem sd_230 (l : Launch) (f : Nat → Nat) (D : va_G) (cA : FieldType → ClassId) (d : Nat) : mm_Ok2 l f D cA d (yX12_doesPrint, cX12_doesPrint, 3, (some .boolean), mc_230) := by
  intro p e R s m args below meth c C hRf hRl pc
  obtain ⟨hx, hb, hml, hr, hlk, hnm, hown, hts, hEX, hgo, hf⟩ := C
  obtain ⟨hK, hA, hX, hZs, hZc, hZq, hTx, hSR0, hSR1, hAO, hN⟩ := id hEX
  have hAW : ∀ w ∈ mm_AW, w ∈ (Cond.code yX12_doesPrint cX12_doesPrint 3 (some .boolean) :: mm_AW) := fun w h => List.mem_cons_of_mem _ h
  have hown : s.vm.findClass "TippedCratesModel" = some m.cls := hown
  show mm_S p l e R s m args below meth c f D mm_cl cA 3 _ pc (mc_230 pc)
  unfold mc_230
  exact (ms_b (ms_b (ms_b (ms_b (ms_lf (ms_aload_n hx hb rfl (by decide +kernel)))
    (ms_lf (ms_iload_n hx hb rfl (by decide +kernel))))
    (ms_b (ms_lf (ms_aload_n hx hb rfl (by decide +kernel)))
    (ms_b (ms_lf (ms_getf (C := RX12) (T := TX12) (N := 80) hx hb hf hts (fun w h => hAW w (inq_12 w h)) hown hK rfl (by decide) (hts _ (hAW _ qw_1472)) rfl (by decide +kernel)))
    (ms_lf (ms_bipush hx hb (by decide) (by decide +kernel))))))
    (ms_b (ms_b (ms_lf (ms_iload_n hx hb rfl (by decide +kernel)))
    (ms_lf (ms_iadd hx hb (by decide +kernel))))
    (ms_b (ms_lf (ms_iald hx hb hf hA hX (by decide +kernel)))
    (ms_b (ms_lf (ms_iconst hx hb (by decide) (by decide +kernel)))
    (ms_lf (ms_iload_n hx hb rfl (by decide +kernel)))))))
    (ms_b (ms_b (ms_b (ms_lf (ms_ivV (C := RX12) (T := TX12) (N := 80) hx hb hml hown hts hgo hEX hf hK rfl (mm_GV hAW (mm_GI hAW gi_226) qw_1844 qw_1846 qw_88 qw_137) rfl ⟨rfl, hd_226⟩ (mm_rm hRf hRl (Nat.le_of_ble_eq_true rfl)) (by decide +kernel)))
    (ms_lf (ms_aload_n hx hb rfl (by decide +kernel))))
    (ms_b (ms_lf (ms_iconst hx hb (by decide) (by decide +kernel)))
    (ms_b (ms_lf (ms_iconst hx hb (by decide) (by decide +kernel)))
    (ms_lf (ms_ivV (C := RX12) (T := TX12) (N := 80) hx hb hml hown hts hgo hEX hf hK rfl (mm_GV hAW (mm_GI hAW gi_225) qw_1852 qw_1854 qw_90 qw_137) rfl ⟨rfl, hd_225⟩ (mm_rm hRf hRl (Nat.le_of_ble_eq_true rfl)) (by decide +kernel))))))
    (ms_b (ms_b (ms_lf (ms_if_le hx hb (by decide) (by decide +kernel)))
    (ms_lf (ms_iconst hx hb (by decide) (by decide +kernel))))
    (ms_b (ms_lf (ms_goto hx hb (by decide) (by decide +kernel)))
    (ms_b (ms_lf (ms_iconst hx hb (by decide) (by decide +kernel)))
    (ms_lf (ms_iret hx hb hr hlk (by decide +kernel))))))))
set_option maxRecDepth 100000 in
set_option maxHeartbeats 8000000 in
/-- TippedCratesModel.doesTake -/
theorem sd_231 (l : Launch) (f : Nat → Nat) (D : va_G) (cA : FieldType → ClassId) (d : Nat) : mm_Ok2 l f D cA d (yX12_doesTake, cX12_doesTake, 3, (some .boolean), mc_231) := by
  intro p e R s m args below meth c C hRf hRl pc
  obtain ⟨hx, hb, hml, hr, hlk, hnm, hown, hts, hEX, hgo, hf⟩ := C
  obtain ⟨hK, hA, hX, hZs, hZc, hZq, hTx, hSR0, hSR1, hAO, hN⟩ := id hEX
  have hAW : ∀ w ∈ mm_AW, w ∈ (Cond.code yX12_doesTake cX12_doesTake 3 (some .boolean) :: mm_AW) := fun w h => List.mem_cons_of_mem _ h
  have hown : s.vm.findClass "TippedCratesModel" = some m.cls := hown
  show mm_S p l e R s m args below meth c f D mm_cl cA 3 _ pc (mc_231 pc)
  unfold mc_231
  exact (ms_b (ms_b (ms_b (ms_b (ms_lf (ms_aload_n hx hb rfl (by decide +kernel)))
    (ms_lf (ms_iload_n hx hb rfl (by decide +kernel))))
    (ms_b (ms_lf (ms_aload_n hx hb rfl (by decide +kernel)))
    (ms_b (ms_lf (ms_getf (C := RX12) (T := TX12) (N := 80) hx hb hf hts (fun w h => hAW w (inq_12 w h)) hown hK rfl (by decide) (hts _ (hAW _ qw_1472)) rfl (by decide +kernel)))
    (ms_lf (ms_bipush hx hb (by decide) (by decide +kernel))))))
    (ms_b (ms_b (ms_lf (ms_iload_n hx hb rfl (by decide +kernel)))
    (ms_lf (ms_iadd hx hb (by decide +kernel))))
    (ms_b (ms_lf (ms_iald hx hb hf hA hX (by decide +kernel)))
    (ms_b (ms_lf (ms_iconst hx hb (by decide) (by decide +kernel)))
    (ms_lf (ms_iload_n hx hb rfl (by decide +kernel)))))))
    (ms_b (ms_b (ms_b (ms_lf (ms_ivV (C := RX12) (T := TX12) (N := 80) hx hb hml hown hts hgo hEX hf hK rfl (mm_GV hAW (mm_GI hAW gi_226) qw_1844 qw_1846 qw_88 qw_137) rfl ⟨rfl, hd_226⟩ (mm_rm hRf hRl (Nat.le_of_ble_eq_true rfl)) (by decide +kernel)))
    (ms_lf (ms_aload_n hx hb rfl (by decide +kernel))))
    (ms_b (ms_lf (ms_iconst hx hb (by decide) (by decide +kernel)))
    (ms_b (ms_lf (ms_iconst hx hb (by decide) (by decide +kernel)))
    (ms_lf (ms_ivV (C := RX12) (T := TX12) (N := 80) hx hb hml hown hts hgo hEX hf hK rfl (mm_GV hAW (mm_GI hAW gi_225) qw_1852 qw_1854 qw_90 qw_137) rfl ⟨rfl, hd_225⟩ (mm_rm hRf hRl (Nat.le_of_ble_eq_true rfl)) (by decide +kernel))))))
    (ms_b (ms_b (ms_lf (ms_if_le hx hb (by decide) (by decide +kernel)))
    (ms_lf (ms_iconst hx hb (by decide) (by decide +kernel))))
    (ms_b (ms_lf (ms_goto hx hb (by decide) (by decide +kernel)))
    (ms_b (ms_lf (ms_iconst hx hb (by decide) (by decide +kernel)))
    (ms_lf (ms_iret hx hb hr hlk (by decide +kernel))))))))
set_option maxRecDepth 100000 in
set_option maxHeartbeats 8000000 in
/-- TippedCratesModel.slipsOf -/
theorem sd_232 (l : Launch) (f : Nat → Nat) (D : va_G) (cA : FieldType → ClassId) (d : Nat) : mm_Ok2 l f D cA d (yX12_slipsOf, cX12_slipsOf, 3, (some .int), mc_232) := by
  intro p e R s m args below meth c C hRf hRl pc
  obtain ⟨hx, hb, hml, hr, hlk, hnm, hown, hts, hEX, hgo, hf⟩ := C
  obtain ⟨hK, hA, hX, hZs, hZc, hZq, hTx, hSR0, hSR1, hAO, hN⟩ := id hEX
  have hAW : ∀ w ∈ mm_AW, w ∈ (Cond.code yX12_slipsOf cX12_slipsOf 3 (some .int) :: mm_AW) := fun w h => List.mem_cons_of_mem _ h
  have hown : s.vm.findClass "TippedCratesModel" = some m.cls := hown
  show mm_S p l e R s m args below meth c f D mm_cl cA 3 _ pc (mc_232 pc)
  unfold mc_232
  exact (ms_b (ms_b (ms_b (ms_b (ms_lf (ms_aload_n hx hb rfl (by decide +kernel)))
    (ms_lf (ms_iload_n hx hb rfl (by decide +kernel))))
    (ms_b (ms_lf (ms_aload_n hx hb rfl (by decide +kernel)))
    (ms_lf (ms_getf (C := RX12) (T := TX12) (N := 80) hx hb hf hts (fun w h => hAW w (inq_12 w h)) hown hK rfl (by decide) (hts _ (hAW _ qw_1472)) rfl (by decide +kernel)))))
    (ms_b (ms_b (ms_lf (ms_bipush hx hb (by decide) (by decide +kernel)))
    (ms_lf (ms_iload_n hx hb rfl (by decide +kernel))))
    (ms_b (ms_lf (ms_iadd hx hb (by decide +kernel)))
    (ms_b (ms_lf (ms_iald hx hb hf hA hX (by decide +kernel)))
    (ms_lf (ms_iconst hx hb (by decide) (by decide +kernel)))))))
    (ms_b (ms_b (ms_b (ms_lf (ms_iload_n hx hb rfl (by decide +kernel)))
    (ms_lf (ms_ivV (C := RX12) (T := TX12) (N := 80) hx hb hml hown hts hgo hEX hf hK rfl (mm_GV hAW (mm_GI hAW gi_226) qw_1844 qw_1846 qw_88 qw_137) rfl ⟨rfl, hd_226⟩ (mm_rm hRf hRl (Nat.le_of_ble_eq_true rfl)) (by decide +kernel))))
    (ms_b (ms_lf (ms_aload_n hx hb rfl (by decide +kernel)))
    (ms_b (ms_lf (ms_iconst hx hb (by decide) (by decide +kernel)))
    (ms_lf (ms_iconst hx hb (by decide) (by decide +kernel))))))
    (ms_b (ms_b (ms_lf (ms_ivV (C := RX12) (T := TX12) (N := 80) hx hb hml hown hts hgo hEX hf hK rfl (mm_GV hAW (mm_GI hAW gi_225) qw_1852 qw_1854 qw_90 qw_137) rfl ⟨rfl, hd_225⟩ (mm_rm hRf hRl (Nat.le_of_ble_eq_true rfl)) (by decide +kernel)))
    (ms_lf (ms_iconst hx hb (by decide) (by decide +kernel))))
    (ms_b (ms_lf (ms_bipush hx hb (by decide) (by decide +kernel)))
    (ms_b (ms_lf (ms_ivS hx hb hml hown hts hgo hEX (mm_GS hAW (mm_GI hAW gi_207) qw_1860 qw_1861 qw_137) rfl hd_207 (mm_rm hRf hRl (Nat.le_of_ble_eq_true rfl)) (by decide +kernel)))
    (ms_lf (ms_iret hx hb hr hlk (by decide +kernel))))))))
set_option maxRecDepth 100000 in
set_option maxHeartbeats 8000000 in
/-- TippedCratesModel.tips -/
theorem sd_233 (l : Launch) (f : Nat → Nat) (D : va_G) (cA : FieldType → ClassId) (d : Nat) : mm_Ok2 l f D cA d (yX12_tips, cX12_tips, 7, none, mc_233) := by
  intro p e R s m args below meth c C hRf hRl pc
  obtain ⟨hx, hb, hml, hr, hlk, hnm, hown, hts, hEX, hgo, hf⟩ := C
  obtain ⟨hK, hA, hX, hZs, hZc, hZq, hTx, hSR0, hSR1, hAO, hN⟩ := id hEX
  have hAW : ∀ w ∈ mm_AW, w ∈ (Cond.code yX12_tips cX12_tips 7 none :: mm_AW) := fun w h => List.mem_cons_of_mem _ h
  have hown : s.vm.findClass "TippedCratesModel" = some m.cls := hown
  show mm_S p l e R s m args below meth c f D mm_cl cA 7 _ pc (mc_233 pc)
  unfold mc_233
  exact (ms_b (ms_b (ms_b (ms_b (ms_b (ms_b (ms_lf (ms_aload_n hx hb rfl (by decide +kernel)))
    (ms_b (ms_lf (ms_iload_n hx hb rfl (by decide +kernel)))
    (ms_lf (ms_iload_n hx hb rfl (by decide +kernel)))))
    (ms_b (ms_b (ms_lf (ms_ivV (C := RX12) (T := TX12) (N := 80) hx hb hml hown hts hgo hEX hf hK rfl (mm_GV hAW (mm_GI hAW gi_229) qw_1836 qw_1838 qw_86 qw_137) rfl ⟨rfl, hd_229⟩ (mm_rm hRf hRl (Nat.le_of_ble_eq_true rfl)) (by decide +kernel)))
    (ms_lf (ms_istore_n hx hb rfl (by decide : 3 < 7) (by decide +kernel))))
    (ms_b (ms_lf (ms_aload_n hx hb rfl (by decide +kernel)))
    (ms_lf (ms_iload_n hx hb rfl (by decide +kernel))))))
    (ms_b (ms_b (ms_b (ms_lf (ms_iload_n hx hb rfl (by decide +kernel)))
    (ms_lf (ms_ivV (C := RX12) (T := TX12) (N := 80) hx hb hml hown hts hgo hEX hf hK rfl (mm_GV hAW (mm_GI hAW gi_230) qw_1863 qw_1865 qw_92 qw_137) rfl ⟨rfl, hd_230⟩ (mm_rm hRf hRl (Nat.le_of_ble_eq_true rfl)) (by decide +kernel))))
    (ms_b (ms_lf (ms_istore hx hb (by decide : 4 < 7) (by decide +kernel)))
    (ms_lf (ms_aload_n hx hb rfl (by decide +kernel)))))
    (ms_b (ms_b (ms_lf (ms_iload_n hx hb rfl (by decide +kernel)))
    (ms_lf (ms_iload_n hx hb rfl (by decide +kernel))))
    (ms_b (ms_lf (ms_ivV (C := RX12) (T := TX12) (N := 80) hx hb hml hown hts hgo hEX hf hK rfl (mm_GV hAW (mm_GI hAW gi_231) qw_1867 qw_1869 qw_93 qw_137) rfl ⟨rfl, hd_231⟩ (mm_rm hRf hRl (Nat.le_of_ble_eq_true rfl)) (by decide +kernel)))
    (ms_lf (ms_istore hx hb (by decide : 5 < 7) (by decide +kernel)))))))
    (ms_b (ms_b (ms_b (ms_b (ms_lf (ms_iconst hx hb (by decide) (by decide +kernel)))
    (ms_lf (ms_istore hx hb (by decide : 6 < 7) (by decide +kernel))))
    (ms_b (ms_lf (ms_iload hx hb (by decide +kernel)))
    (ms_lf (ms_bipush hx hb (by decide) (by decide +kernel)))))
    (ms_b (ms_b (ms_lf (ms_ic_ge hx hb (by decide) (by decide +kernel)))
    (ms_lf (ms_aload_n hx hb rfl (by decide +kernel))))
    (ms_b (ms_lf (ms_getf (C := RX12) (T := TX12) (N := 80) hx hb hf hts (fun w h => hAW w (inq_12 w h)) hown hK rfl (by decide) (hts _ (hAW _ qw_1469)) rfl (by decide +kernel)))
    (ms_lf (ms_iload hx hb (by decide +kernel))))))
    (ms_b (ms_b (ms_b (ms_lf (ms_aload_n hx hb rfl (by decide +kernel)))
    (ms_lf (ms_getf (C := RX12) (T := TX12) (N := 80) hx hb hf hts (fun w h => hAW w (inq_12 w h)) hown hK rfl (by decide) (hts _ (hAW _ qw_1472)) rfl (by decide +kernel))))
    (ms_b (ms_lf (ms_bipush hx hb (by decide) (by decide +kernel)))
    (ms_lf (ms_bipush hx hb (by decide) (by decide +kernel)))))
    (ms_b (ms_b (ms_lf (ms_iload_n hx hb rfl (by decide +kernel)))
    (ms_lf (ms_imul hx hb (by decide +kernel))))
    (ms_b (ms_lf (ms_iadd hx hb (by decide +kernel)))
    (ms_lf (ms_iload_n hx hb rfl (by decide +kernel))))))))
    (ms_b (ms_b (ms_b (ms_b (ms_lf (ms_iload hx hb (by decide +kernel)))
    (ms_b (ms_lf (ms_ivS hx hb hml hown hts hgo hEX (mm_GS hAW (mm_GI hAW gi_202) qw_1405 qw_1406 qw_137) rfl hd_202 (mm_rm hRf hRl (Nat.le_of_ble_eq_true rfl)) (by decide +kernel)))
    (ms_lf (ms_iadd hx hb (by decide +kernel)))))
    (ms_b (ms_b (ms_lf (ms_iald hx hb hf hA hX (by decide +kernel)))
    (ms_lf (ms_iast hx hb hf hA (by decide +kernel))))
    (ms_b (ms_lf (ms_iinc hx hb (by decide) (by decide : 6 < 7) (by decide +kernel)))
    (ms_lf (ms_goto hx hb (by decide) (by decide +kernel))))))
    (ms_b (ms_b (ms_b (ms_lf (ms_iconst hx hb (by decide) (by decide +kernel)))
    (ms_lf (ms_istore hx hb (by decide : 6 < 7) (by decide +kernel))))
    (ms_b (ms_lf (ms_iload hx hb (by decide +kernel)))
    (ms_lf (ms_bipush hx hb (by decide) (by decide +kernel)))))
    (ms_b (ms_b (ms_lf (ms_ic_ge hx hb (by decide) (by decide +kernel)))
    (ms_lf (ms_aload_n hx hb rfl (by decide +kernel))))
    (ms_b (ms_lf (ms_getf (C := RX12) (T := TX12) (N := 80) hx hb hf hts (fun w h => hAW w (inq_12 w h)) hown hK rfl (by decide) (hts _ (hAW _ qw_1472)) rfl (by decide +kernel)))
    (ms_lf (ms_bipush hx hb (by decide) (by decide +kernel)))))))
    (ms_b (ms_b (ms_b (ms_b (ms_lf (ms_bipush hx hb (by decide) (by decide +kernel)))
    (ms_lf (ms_iload_n hx hb rfl (by decide +kernel))))
    (ms_b (ms_lf (ms_imul hx hb (by decide +kernel)))
    (ms_lf (ms_iadd hx hb (by decide +kernel)))))
    (ms_b (ms_b (ms_lf (ms_iload hx hb (by decide +kernel)))
    (ms_lf (ms_iadd hx hb (by decide +kernel))))
    (ms_b (ms_lf (ms_aload_n hx hb rfl (by decide +kernel)))
    (ms_lf (ms_getf (C := RX12) (T := TX12) (N := 80) hx hb hf hts (fun w h => hAW w (inq_12 w h)) hown hK rfl (by decide) (hts _ (hAW _ qw_1469)) rfl (by decide +kernel))))))
    (ms_b (ms_b (ms_b (ms_lf (ms_iload hx hb (by decide +kernel)))
    (ms_lf (ms_iald hx hb hf hA hX (by decide +kernel))))
    (ms_b (ms_lf (ms_iast hx hb hf hA (by decide +kernel)))
    (ms_lf (ms_iinc hx hb (by decide) (by decide : 6 < 7) (by decide +kernel)))))
    (ms_b (ms_b (ms_lf (ms_goto hx hb (by decide) (by decide +kernel)))
    (ms_lf (ms_aload_n hx hb rfl (by decide +kernel))))
    (ms_b (ms_lf (ms_aload_n hx hb rfl (by decide +kernel)))
    (ms_lf (ms_getf (C := RX12) (T := TX12) (N := 80) hx hb hf hts (fun w h => hAW w (inq_12 w h)) hown hK rfl (by decide) (hts _ (hAW _ qw_1472)) rfl (by decide +kernel)))))))))
    (ms_b (ms_b (ms_b (ms_b (ms_b (ms_lf (ms_bipush hx hb (by decide) (by decide +kernel)))
    (ms_b (ms_lf (ms_iload_n hx hb rfl (by decide +kernel)))
    (ms_lf (ms_iadd hx hb (by decide +kernel)))))
    (ms_b (ms_b (ms_lf (ms_iald hx hb hf hA hX (by decide +kernel)))
    (ms_lf (ms_iload_n hx hb rfl (by decide +kernel))))
    (ms_b (ms_lf (ms_ivV (C := RX12) (T := TX12) (N := 80) hx hb hml hown hts hgo hEX hf hK rfl (mm_GV hAW (mm_GI hAW gi_221) qw_1820 qw_1822 qw_82 qw_137) rfl ⟨rfl, hd_221⟩ (mm_rm hRf hRl (Nat.le_of_ble_eq_true rfl)) (by decide +kernel)))
    (ms_lf (ms_istore hx hb (by decide : 6 < 7) (by decide +kernel))))))
    (ms_b (ms_b (ms_b (ms_lf (ms_aload_n hx hb rfl (by decide +kernel)))
    (ms_lf (ms_getf (C := RX12) (T := TX12) (N := 80) hx hb hf hts (fun w h => hAW w (inq_12 w h)) hown hK rfl (by decide) (hts _ (hAW _ qw_1472)) rfl (by decide +kernel))))
    (ms_b (ms_lf (ms_bipush hx hb (by decide) (by decide +kernel)))
    (ms_lf (ms_iload_n hx hb rfl (by decide +kernel)))))
    (ms_b (ms_b (ms_lf (ms_iadd hx hb (by decide +kernel)))
    (ms_lf (ms_iload hx hb (by decide +kernel))))
    (ms_b (ms_lf (ms_iast hx hb hf hA (by decide +kernel)))
    (ms_lf (ms_aload_n hx hb rfl (by decide +kernel)))))))
    (ms_b (ms_b (ms_b (ms_b (ms_lf (ms_getf (C := RX12) (T := TX12) (N := 80) hx hb hf hts (fun w h => hAW w (inq_12 w h)) hown hK rfl (by decide) (hts _ (hAW _ qw_1472)) rfl (by decide +kernel)))
    (ms_lf (ms_bipush hx hb (by decide) (by decide +kernel))))
    (ms_b (ms_lf (ms_iload_n hx hb rfl (by decide +kernel)))
    (ms_lf (ms_iadd hx hb (by decide +kernel)))))
    (ms_b (ms_b (ms_lf (ms_dup2 hx hb (by decide +kernel)))
    (ms_lf (ms_iald hx hb hf hA hX (by decide +kernel))))
    (ms_b (ms_lf (ms_iconst hx hb (by decide) (by decide +kernel)))
    (ms_lf (ms_iadd hx hb (by decide +kernel))))))
    (ms_b (ms_b (ms_b (ms_lf (ms_iast hx hb hf hA (by decide +kernel)))
    (ms_lf (ms_aload_n hx hb rfl (by decide +kernel))))
    (ms_b (ms_lf (ms_getf (C := RX12) (T := TX12) (N := 80) hx hb hf hts (fun w h => hAW w (inq_12 w h)) hown hK rfl (by decide) (hts _ (hAW _ qw_1472)) rfl (by decide +kernel)))
    (ms_lf (ms_bipush hx hb (by decide) (by decide +kernel)))))
    (ms_b (ms_b (ms_lf (ms_dup2 hx hb (by decide +kernel)))
    (ms_lf (ms_iald hx hb hf hA hX (by decide +kernel))))
    (ms_b (ms_lf (ms_iload_n hx hb rfl (by decide +kernel)))
    (ms_lf (ms_iadd hx hb (by decide +kernel))))))))
    (ms_b (ms_b (ms_b (ms_b (ms_lf (ms_iast hx hb hf hA (by decide +kernel)))
    (ms_b (ms_lf (ms_iload hx hb (by decide +kernel)))
    (ms_lf (ms_if_eq hx hb (by decide) (by decide +kernel)))))
    (ms_b (ms_b (ms_lf (ms_aload_n hx hb rfl (by decide +kernel)))
    (ms_lf (ms_getf (C := RX12) (T := TX12) (N := 80) hx hb hf hts (fun w h => hAW w (inq_12 w h)) hown hK rfl (by decide) (hts _ (hAW _ qw_1472)) rfl (by decide +kernel))))
    (ms_b (ms_lf (ms_iload hx hb (by decide +kernel)))
    (ms_lf (ms_aload_n hx hb rfl (by decide +kernel))))))
    (ms_b (ms_b (ms_b (ms_lf (ms_getf (C := RX12) (T := TX12) (N := 80) hx hb hf hts (fun w h => hAW w (inq_12 w h)) hown hK rfl (by decide) (hts _ (hAW _ qw_1472)) rfl (by decide +kernel)))
    (ms_lf (ms_bipush hx hb (by decide) (by decide +kernel))))
    (ms_b (ms_lf (ms_bipush hx hb (by decide) (by decide +kernel)))
    (ms_lf (ms_iload_n hx hb rfl (by decide +kernel)))))
    (ms_b (ms_b (ms_lf (ms_imul hx hb (by decide +kernel)))
    (ms_lf (ms_iadd hx hb (by decide +kernel))))
    (ms_b (ms_lf (ms_iald hx hb hf hA hX (by decide +kernel)))
    (ms_lf (ms_iast hx hb hf hA (by decide +kernel)))))))
    (ms_b (ms_b (ms_b (ms_b (ms_lf (ms_goto hx hb (by decide) (by decide +kernel)))
    (ms_lf (ms_iload hx hb (by decide +kernel))))
    (ms_b (ms_lf (ms_if_eq hx hb (by decide) (by decide +kernel)))
    (ms_lf (ms_aload_n hx hb rfl (by decide +kernel)))))
    (ms_b (ms_b (ms_lf (ms_getf (C := RX12) (T := TX12) (N := 80) hx hb hf hts (fun w h => hAW w (inq_12 w h)) hown hK rfl (by decide) (hts _ (hAW _ qw_1472)) rfl (by decide +kernel)))
    (ms_lf (ms_bipush hx hb (by decide) (by decide +kernel))))
    (ms_b (ms_lf (ms_bipush hx hb (by decide) (by decide +kernel)))
    (ms_lf (ms_iload_n hx hb rfl (by decide +kernel))))))
    (ms_b (ms_b (ms_b (ms_lf (ms_imul hx hb (by decide +kernel)))
    (ms_lf (ms_iadd hx hb (by decide +kernel))))
    (ms_b (ms_lf (ms_aload_n hx hb rfl (by decide +kernel)))
    (ms_lf (ms_getf (C := RX12) (T := TX12) (N := 80) hx hb hf hts (fun w h => hAW w (inq_12 w h)) hown hK rfl (by decide) (hts _ (hAW _ qw_1472)) rfl (by decide +kernel)))))
    (ms_b (ms_b (ms_lf (ms_iload hx hb (by decide +kernel)))
    (ms_lf (ms_iald hx hb hf hA hX (by decide +kernel))))
    (ms_b (ms_lf (ms_iast hx hb hf hA (by decide +kernel)))
    (ms_lf (ms_ret hx hb hr hlk (by decide +kernel))))))))))
set_option maxRecDepth 100000 in
set_option maxHeartbeats 8000000 in
/-- TippedCratesModel.minuteGoes -/
theorem sd_234 (l : Launch) (f : Nat → Nat) (D : va_G) (cA : FieldType → ClassId) (d : Nat) : mm_Ok2 l f D cA d (yX12_minuteGoes, cX12_minuteGoes, 4, none, mc_234) := by
  intro p e R s m args below meth c C hRf hRl pc
  obtain ⟨hx, hb, hml, hr, hlk, hnm, hown, hts, hEX, hgo, hf⟩ := C
  obtain ⟨hK, hA, hX, hZs, hZc, hZq, hTx, hSR0, hSR1, hAO, hN⟩ := id hEX
  have hAW : ∀ w ∈ mm_AW, w ∈ (Cond.code yX12_minuteGoes cX12_minuteGoes 4 none :: mm_AW) := fun w h => List.mem_cons_of_mem _ h
  have hown : s.vm.findClass "TippedCratesModel" = some m.cls := hown
  show mm_S p l e R s m args below meth c f D mm_cl cA 4 _ pc (mc_234 pc)
  unfold mc_234
  exact (ms_b (ms_b (ms_b (ms_b (ms_b (ms_b (ms_lf (ms_iconst hx hb (by decide) (by decide +kernel)))
    (ms_lf (ms_istore_n hx hb rfl (by decide : 1 < 4) (by decide +kernel))))
    (ms_b (ms_lf (ms_iload_n hx hb rfl (by decide +kernel)))
    (ms_lf (ms_aload_n hx hb rfl (by decide +kernel)))))
    (ms_b (ms_b (ms_lf (ms_getf (C := RX12) (T := TX12) (N := 80) hx hb hf hts (fun w h => hAW w (inq_12 w h)) hown hK rfl (by decide) (hts _ (hAW _ qw_1446)) rfl (by decide +kernel)))
    (ms_lf (ms_aload_n hx hb rfl (by decide +kernel))))
    (ms_b (ms_lf (ms_getf (C := RX12) (T := TX12) (N := 80) hx hb hf hts (fun w h => hAW w (inq_12 w h)) hown hK rfl (by decide) (hts _ (hAW _ qw_1433)) rfl (by decide +kernel)))
    (ms_b (ms_lf (ms_iald hx hb hf hA hX (by decide +kernel)))
    (ms_lf (ms_ic_ge hx hb (by decide) (by decide +kernel)))))))
    (ms_b (ms_b (ms_b (ms_lf (ms_aload_n hx hb rfl (by decide +kernel)))
    (ms_lf (ms_bipush hx hb (by decide) (by decide +kernel))))
    (ms_b (ms_lf (ms_aload_n hx hb rfl (by decide +kernel)))
    (ms_lf (ms_getf (C := RX12) (T := TX12) (N := 80) hx hb hf hts (fun w h => hAW w (inq_12 w h)) hown hK rfl (by decide) (hts _ (hAW _ qw_1472)) rfl (by decide +kernel)))))
    (ms_b (ms_b (ms_lf (ms_bipush hx hb (by decide) (by decide +kernel)))
    (ms_lf (ms_iald hx hb hf hA hX (by decide +kernel))))
    (ms_b (ms_lf (ms_imul hx hb (by decide +kernel)))
    (ms_b (ms_lf (ms_iload_n hx hb rfl (by decide +kernel)))
    (ms_lf (ms_iadd hx hb (by decide +kernel))))))))
    (ms_b (ms_b (ms_b (ms_b (ms_lf (ms_iconst hx hb (by decide) (by decide +kernel)))
    (ms_lf (ms_ivV (C := RX12) (T := TX12) (N := 80) hx hb hml hown hts hgo hEX hf hK rfl (mm_GV hAW (mm_GI hAW gi_218) qw_1909 qw_1911 qw_99 qw_137) rfl ⟨rfl, hd_218⟩ (mm_rm hRf hRl (Nat.le_of_ble_eq_true rfl)) (by decide +kernel))))
    (ms_b (ms_lf (ms_istore_n hx hb rfl (by decide : 2 < 4) (by decide +kernel)))
    (ms_lf (ms_aload_n hx hb rfl (by decide +kernel)))))
    (ms_b (ms_b (ms_lf (ms_iload_n hx hb rfl (by decide +kernel)))
    (ms_lf (ms_iload_n hx hb rfl (by decide +kernel))))
    (ms_b (ms_lf (ms_ivV (C := RX12) (T := TX12) (N := 80) hx hb hml hown hts hgo hEX hf hK rfl (mm_GV hAW (mm_GI hAW gi_224) qw_1812 qw_1814 qw_80 qw_137) rfl ⟨rfl, hd_224⟩ (mm_rm hRf hRl (Nat.le_of_ble_eq_true rfl)) (by decide +kernel)))
    (ms_b (ms_lf (ms_if_eq hx hb (by decide) (by decide +kernel)))
    (ms_lf (ms_aload_n hx hb rfl (by decide +kernel)))))))
    (ms_b (ms_b (ms_b (ms_lf (ms_iload_n hx hb rfl (by decide +kernel)))
    (ms_lf (ms_iload_n hx hb rfl (by decide +kernel))))
    (ms_b (ms_lf (ms_ivV (C := RX12) (T := TX12) (N := 80) hx hb hml hown hts hgo hEX hf hK rfl (mm_GV hAW (mm_GI hAW gi_233) qw_1879 qw_1881 qw_95 qw_137) rfl ⟨rfl, hd_233⟩ (mm_rm hRf hRl (Nat.le_of_ble_eq_true rfl)) (by decide +kernel)))
    (ms_b (ms_lf (ms_aload_n hx hb rfl (by decide +kernel)))
    (ms_lf (ms_ldcw hx hb hown (hts _ (hAW _ qw_1917)) (by decide +kernel))))))
    (ms_b (ms_b (ms_lf (ms_bipush hx hb (by decide) (by decide +kernel)))
    (ms_lf (ms_aload_n hx hb rfl (by decide +kernel))))
    (ms_b (ms_lf (ms_getf (C := RX12) (T := TX12) (N := 80) hx hb hf hts (fun w h => hAW w (inq_12 w h)) hown hK rfl (by decide) (hts _ (hAW _ qw_1472)) rfl (by decide +kernel)))
    (ms_b (ms_lf (ms_bipush hx hb (by decide) (by decide +kernel)))
    (ms_lf (ms_iald hx hb hf hA hX (by decide +kernel)))))))))
    (ms_b (ms_b (ms_b (ms_b (ms_b (ms_lf (ms_imul hx hb (by decide +kernel)))
    (ms_lf (ms_iadd hx hb (by decide +kernel))))
    (ms_b (ms_lf (ms_iload_n hx hb rfl (by decide +kernel)))
    (ms_lf (ms_iadd hx hb (by decide +kernel)))))
    (ms_b (ms_b (ms_lf (ms_bipush hx hb (by decide) (by decide +kernel)))
    (ms_lf (ms_ivV (C := RX12) (T := TX12) (N := 80) hx hb hml hown hts hgo hEX hf hK rfl (mm_GV hAW (mm_GI hAW gi_218) qw_1909 qw_1911 qw_99 qw_137) rfl ⟨rfl, hd_218⟩ (mm_rm hRf hRl (Nat.le_of_ble_eq_true rfl)) (by decide +kernel))))
    (ms_b (ms_lf (ms_aload_n hx hb rfl (by decide +kernel)))
    (ms_b (ms_lf (ms_iload_n hx hb rfl (by decide +kernel)))
    (ms_lf (ms_iload_n hx hb rfl (by decide +kernel)))))))
    (ms_b (ms_b (ms_b (ms_lf (ms_ivV (C := RX12) (T := TX12) (N := 80) hx hb hml hown hts hgo hEX hf hK rfl (mm_GV hAW (mm_GI hAW gi_232) qw_1871 qw_1873 qw_94 qw_137) rfl ⟨rfl, hd_232⟩ (mm_rm hRf hRl (Nat.le_of_ble_eq_true rfl)) (by decide +kernel)))
    (ms_lf (ms_ic_ge hx hb (by decide) (by decide +kernel))))
    (ms_b (ms_lf (ms_iconst hx hb (by decide) (by decide +kernel)))
    (ms_lf (ms_goto hx hb (by decide) (by decide +kernel)))))
    (ms_b (ms_b (ms_lf (ms_iconst hx hb (by decide) (by decide +kernel)))
    (ms_lf (ms_istore_n hx hb rfl (by decide : 3 < 4) (by decide +kernel))))
    (ms_b (ms_lf (ms_iload_n hx hb rfl (by decide +kernel)))
    (ms_b (ms_lf (ms_if_eq hx hb (by decide) (by decide +kernel)))
    (ms_lf (ms_aload_n hx hb rfl (by decide +kernel))))))))
    (ms_b (ms_b (ms_b (ms_b (ms_lf (ms_iload_n hx hb rfl (by decide +kernel)))
    (ms_lf (ms_iload_n hx hb rfl (by decide +kernel))))
    (ms_b (ms_lf (ms_ivV (C := RX12) (T := TX12) (N := 80) hx hb hml hown hts hgo hEX hf hK rfl (mm_GV hAW (mm_GI hAW gi_224) qw_1812 qw_1814 qw_80 qw_137) rfl ⟨rfl, hd_224⟩ (mm_rm hRf hRl (Nat.le_of_ble_eq_true rfl)) (by decide +kernel)))
    (ms_lf (ms_if_eq hx hb (by decide) (by decide +kernel)))))
    (ms_b (ms_b (ms_lf (ms_aload_n hx hb rfl (by decide +kernel)))
    (ms_lf (ms_iload_n hx hb rfl (by decide +kernel))))
    (ms_b (ms_lf (ms_iload_n hx hb rfl (by decide +kernel)))
    (ms_b (ms_lf (ms_ivV (C := RX12) (T := TX12) (N := 80) hx hb hml hown hts hgo hEX hf hK rfl (mm_GV hAW (mm_GI hAW gi_233) qw_1879 qw_1881 qw_95 qw_137) rfl ⟨rfl, hd_233⟩ (mm_rm hRf hRl (Nat.le_of_ble_eq_true rfl)) (by decide +kernel)))
    (ms_lf (ms_iinc hx hb (by decide) (by decide : 1 < 4) (by decide +kernel)))))))
    (ms_b (ms_b (ms_b (ms_lf (ms_goto hx hb (by decide) (by decide +kernel)))
    (ms_lf (ms_aload_n hx hb rfl (by decide +kernel))))
    (ms_b (ms_lf (ms_getf (C := RX12) (T := TX12) (N := 80) hx hb hf hts (fun w h => hAW w (inq_12 w h)) hown hK rfl (by decide) (hts _ (hAW _ qw_1472)) rfl (by decide +kernel)))
    (ms_b (ms_lf (ms_bipush hx hb (by decide) (by decide +kernel)))
    (ms_lf (ms_dup2 hx hb (by decide +kernel))))))
    (ms_b (ms_b (ms_lf (ms_iald hx hb hf hA hX (by decide +kernel)))
    (ms_lf (ms_iconst hx hb (by decide) (by decide +kernel))))
    (ms_b (ms_lf (ms_iadd hx hb (by decide +kernel)))
    (ms_b (ms_lf (ms_iast hx hb hf hA (by decide +kernel)))
    (ms_lf (ms_ret hx hb hr hlk (by decide +kernel))))))))))
set_option maxRecDepth 100000 in
set_option maxHeartbeats 8000000 in
/-- TippedCratesModel.goes -/
theorem sd_235 (l : Launch) (f : Nat → Nat) (D : va_G) (cA : FieldType → ClassId) (d : Nat) : mm_Ok2 l f D cA d (yX12_goes, cX12_goes, 3, none, mc_235) := by
  intro p e R s m args below meth c C hRf hRl pc
  obtain ⟨hx, hb, hml, hr, hlk, hnm, hown, hts, hEX, hgo, hf⟩ := C
  obtain ⟨hK, hA, hX, hZs, hZc, hZq, hTx, hSR0, hSR1, hAO, hN⟩ := id hEX
  have hAW : ∀ w ∈ mm_AW, w ∈ (Cond.code yX12_goes cX12_goes 3 none :: mm_AW) := fun w h => List.mem_cons_of_mem _ h
  have hown : s.vm.findClass "TippedCratesModel" = some m.cls := hown
  show mm_S p l e R s m args below meth c f D mm_cl cA 3 _ pc (mc_235 pc)
  unfold mc_235
  exact (ms_b (ms_b (ms_b (ms_lf (ms_iconst hx hb (by decide) (by decide +kernel)))
    (ms_lf (ms_istore_n hx hb rfl (by decide : 2 < 3) (by decide +kernel))))
    (ms_b (ms_lf (ms_iload_n hx hb rfl (by decide +kernel)))
    (ms_b (ms_lf (ms_iload_n hx hb rfl (by decide +kernel)))
    (ms_lf (ms_ic_ge hx hb (by decide) (by decide +kernel))))))
    (ms_b (ms_b (ms_lf (ms_aload_n hx hb rfl (by decide +kernel)))
    (ms_lf (ms_ivV (C := RX12) (T := TX12) (N := 80) hx hb hml hown hts hgo hEX hf hK rfl (mm_GV hAW (mm_GI hAW gi_234) qw_1905 qw_1907 qw_98 qw_137) rfl ⟨rfl, hd_234⟩ (mm_rm hRf hRl (Nat.le_of_ble_eq_true rfl)) (by decide +kernel))))
    (ms_b (ms_lf (ms_iinc hx hb (by decide) (by decide : 2 < 3) (by decide +kernel)))
    (ms_b (ms_lf (ms_goto hx hb (by decide) (by decide +kernel)))
    (ms_lf (ms_ret hx hb hr hlk (by decide +kernel)))))))
set_option maxRecDepth 100000 in
set_option maxHeartbeats 8000000 in
/-- TippedCratesModel.flag -/
theorem sd_236 (l : Launch) (f : Nat → Nat) (D : va_G) (cA : FieldType → ClassId) (d : Nat) : mm_Ok2 l f D cA d (yX12_flag, cX12_flag, 3, (some .int), mc_236) := by
  intro p e R s m args below meth c C hRf hRl pc
  obtain ⟨hx, hb, hml, hr, hlk, hnm, hown, hts, hEX, hgo, hf⟩ := C
  obtain ⟨hK, hA, hX, hZs, hZc, hZq, hTx, hSR0, hSR1, hAO, hN⟩ := id hEX
  have hAW : ∀ w ∈ mm_AW, w ∈ (Cond.code yX12_flag cX12_flag 3 (some .int) :: mm_AW) := fun w h => List.mem_cons_of_mem _ h
  have hown : s.vm.findClass "TippedCratesModel" = some m.cls := hown
  show mm_S p l e R s m args below meth c f D mm_cl cA 3 _ pc (mc_236 pc)
  unfold mc_236
  exact (ms_b (ms_b (ms_b (ms_b (ms_lf (ms_aload_n hx hb rfl (by decide +kernel)))
    (ms_b (ms_lf (ms_iload_n hx hb rfl (by decide +kernel)))
    (ms_lf (ms_ivV (C := RX12) (T := TX12) (N := 80) hx hb hml hown hts hgo hEX hf hK rfl (mm_GV hAW (mm_GI hAW gi_209) qw_1774 qw_1776 qw_74 qw_137) rfl ⟨rfl, hd_209⟩ (mm_rm hRf hRl (Nat.le_of_ble_eq_true rfl)) (by decide +kernel)))))
    (ms_b (ms_b (ms_lf (ms_if_ne hx hb (by decide) (by decide +kernel)))
    (ms_lf (ms_iconst hx hb (by decide) (by decide +kernel))))
    (ms_b (ms_lf (ms_iret hx hb hr hlk (by decide +kernel)))
    (ms_lf (ms_aload_n hx hb rfl (by decide +kernel))))))
    (ms_b (ms_b (ms_lf (ms_ivV (C := RX12) (T := TX12) (N := 80) hx hb hml hown hts hgo hEX hf hK rfl (mm_GV hAW (mm_GI hAW gi_216) qw_1785 qw_1787 qw_76 qw_137) rfl ⟨rfl, hd_216⟩ (mm_rm hRf hRl (Nat.le_of_ble_eq_true rfl)) (by decide +kernel)))
    (ms_b (ms_lf (ms_iload_n hx hb rfl (by decide +kernel)))
    (ms_lf (ms_tsw hx hb (by decide) (by decide) (by decide +kernel)))))
    (ms_b (ms_b (ms_lf (ms_aload_n hx hb rfl (by decide +kernel)))
    (ms_lf (ms_getf (C := RX12) (T := TX12) (N := 80) hx hb hf hts (fun w h => hAW w (inq_12 w h)) hown hK rfl (by decide) (hts _ (hAW _ qw_1472)) rfl (by decide +kernel))))
    (ms_b (ms_lf (ms_iload_n hx hb rfl (by decide +kernel)))
    (ms_lf (ms_iald hx hb hf hA hX (by decide +kernel)))))))
    (ms_b (ms_b (ms_b (ms_lf (ms_iret hx hb hr hlk (by decide +kernel)))
    (ms_b (ms_lf (ms_aload_n hx hb rfl (by decide +kernel)))
    (ms_lf (ms_iload_n hx hb rfl (by decide +kernel)))))
    (ms_b (ms_b (ms_lf (ms_ivV (C := RX12) (T := TX12) (N := 80) hx hb hml hown hts hgo hEX hf hK rfl (mm_GV hAW (mm_GI hAW gi_213) qw_1789 qw_1791 qw_77 qw_137) rfl ⟨rfl, hd_213⟩ (mm_rm hRf hRl (Nat.le_of_ble_eq_true rfl)) (by decide +kernel)))
    (ms_lf (ms_if_eq hx hb (by decide) (by decide +kernel))))
    (ms_b (ms_lf (ms_iconst hx hb (by decide) (by decide +kernel)))
    (ms_lf (ms_goto hx hb (by decide) (by decide +kernel))))))
    (ms_b (ms_b (ms_b (ms_lf (ms_iconst hx hb (by decide) (by decide +kernel)))
    (ms_lf (ms_iret hx hb hr hlk (by decide +kernel))))
    (ms_b (ms_lf (ms_aload_n hx hb rfl (by decide +kernel)))
    (ms_lf (ms_iload_n hx hb rfl (by decide +kernel)))))
    (ms_b (ms_b (ms_lf (ms_ivV (C := RX12) (T := TX12) (N := 80) hx hb hml hown hts hgo hEX hf hK rfl (mm_GV hAW (mm_GI hAW gi_237) qw_1793 qw_1795 qw_78 qw_137) rfl ⟨rfl, hd_237⟩ (mm_rm hRf hRl (Nat.le_of_ble_eq_true rfl)) (by decide +kernel)))
    (ms_lf (ms_iret hx hb hr hlk (by decide +kernel))))
    (ms_b (ms_lf (ms_iconst hx hb (by decide) (by decide +kernel)))
    (ms_lf (ms_iret hx hb hr hlk (by decide +kernel))))))))
