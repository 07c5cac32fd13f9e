set_option maxRecDepth 100000 in
set_option maxHeartbeats 8000000 in
/-- TippedCrates$Rows.isAsKnown -/
theorem sd_60 (l : Launch) (f : Nat → Nat) (D : va_G) (cA : FieldType → ClassId) (d : Nat) : mm_Ok2 l f D cA d (yX5_isAsKnown, cX5_isAsKnown, 4, (some .boolean), mc_60) := by
  intro p e R s m args below meth c C hRf hRl pc
  obtain ⟨hx, hb, hml, hr, hlk, hnm, hown, hts, hEX, hgo, hf⟩ := C
  obtain ⟨hK, hA, hX, hZs, hZc, hZq, hTx, hSR0, hSR1, hAO, hN⟩ := id hEX
  have hAW : ∀ w ∈ mm_AW, w ∈ (Cond.code yX5_isAsKnown cX5_isAsKnown 4 (some .boolean) :: mm_AW) := fun w h => List.mem_cons_of_mem _ h
  have hown : s.vm.findClass "TippedCrates$Rows" = some m.cls := hown
  show mm_S p l e R s m args below meth c f D mm_cl cA 4 _ pc (mc_60 pc)
  unfold mc_60
  exact (ms_b (ms_b (ms_b (ms_b (ms_b (ms_lf (ms_iconst hx hb (by decide) (by decide +kernel)))
    (ms_lf (ms_istore_n hx hb rfl (by decide : 3 < 4) (by decide +kernel))))
    (ms_b (ms_lf (ms_iload_n hx hb rfl (by decide +kernel)))
    (ms_lf (ms_aload_n hx hb rfl (by decide +kernel)))))
    (ms_b (ms_b (ms_lf (ms_getf (C := RX5) (T := TX5) (N := 11) hx hb hf hts (fun w h => hAW w (inq_5 w h)) hown hK rfl (by decide) (hts _ (hAW _ qw_525)) rfl (by decide +kernel)))
    (ms_lf (ms_ic_ge hx hb (by decide) (by decide +kernel))))
    (ms_b (ms_lf (ms_aload_n hx hb rfl (by decide +kernel)))
    (ms_lf (ms_getf (C := RX5) (T := TX5) (N := 11) hx hb hf hts (fun w h => hAW w (inq_5 w h)) hown hK rfl (by decide) (hts _ (hAW _ qw_520)) rfl (by decide +kernel))))))
    (ms_b (ms_b (ms_b (ms_lf (ms_iload_n hx hb rfl (by decide +kernel)))
    (ms_lf (ms_iald hx hb hf hA hX (by decide +kernel))))
    (ms_b (ms_lf (ms_iload_n hx hb rfl (by decide +kernel)))
    (ms_lf (ms_ic_ne hx hb (by decide) (by decide +kernel)))))
    (ms_b (ms_b (ms_lf (ms_aload_n hx hb rfl (by decide +kernel)))
    (ms_lf (ms_getf (C := RX5) (T := TX5) (N := 11) hx hb hf hts (fun w h => hAW w (inq_5 w h)) hown hK rfl (by decide) (hts _ (hAW _ qw_522)) rfl (by decide +kernel))))
    (ms_b (ms_lf (ms_iload_n hx hb rfl (by decide +kernel)))
    (ms_lf (ms_bald hx hb hf hA (by decide +kernel)))))))
    (ms_b (ms_b (ms_b (ms_b (ms_lf (ms_aload_n hx hb rfl (by decide +kernel)))
    (ms_lf (ms_getf (C := RX5) (T := TX5) (N := 11) hx hb hf hts (fun w h => hAW w (inq_5 w h)) hown hK rfl (by decide) (hts _ (hAW _ qw_521)) rfl (by decide +kernel))))
    (ms_b (ms_lf (ms_iload_n hx hb rfl (by decide +kernel)))
    (ms_lf (ms_iald hx hb hf hA hX (by decide +kernel)))))
    (ms_b (ms_b (ms_lf (ms_iload_n hx hb rfl (by decide +kernel)))
    (ms_lf (ms_ic_ne hx hb (by decide) (by decide +kernel))))
    (ms_b (ms_lf (ms_iconst hx hb (by decide) (by decide +kernel)))
    (ms_lf (ms_goto hx hb (by decide) (by decide +kernel))))))
    (ms_b (ms_b (ms_b (ms_lf (ms_iconst hx hb (by decide) (by decide +kernel)))
    (ms_lf (ms_ic_eq hx hb (by decide) (by decide +kernel))))
    (ms_b (ms_lf (ms_iconst hx hb (by decide) (by decide +kernel)))
    (ms_lf (ms_iret hx hb hr hlk (by decide +kernel)))))
    (ms_b (ms_b (ms_lf (ms_iinc hx hb (by decide) (by decide : 3 < 4) (by decide +kernel)))
    (ms_lf (ms_goto hx hb (by decide) (by decide +kernel))))
    (ms_b (ms_lf (ms_iconst hx hb (by decide) (by decide +kernel)))
    (ms_lf (ms_iret hx hb hr hlk (by decide +kernel))))))))
set_option maxRecDepth 100000 in
set_option maxHeartbeats 8000000 in
/-- TippedCrates$Rows.noteRow -/
theorem sd_61 (l : Launch) (f : Nat → Nat) (D : va_G) (cA : FieldType → ClassId) (d : Nat) : mm_Ok2 l f D cA d (yX5_noteRow, cX5_noteRow, 3, none, mc_61) := by
  intro p e R s m args below meth c C hRf hRl pc
  obtain ⟨hx, hb, hml, hr, hlk, hnm, hown, hts, hEX, hgo, hf⟩ := C
  obtain ⟨hK, hA, hX, hZs, hZc, hZq, hTx, hSR0, hSR1, hAO, hN⟩ := id hEX
  have hAW : ∀ w ∈ mm_AW, w ∈ (Cond.code yX5_noteRow cX5_noteRow 3 none :: mm_AW) := fun w h => List.mem_cons_of_mem _ h
  have hown : s.vm.findClass "TippedCrates$Rows" = some m.cls := hown
  show mm_S p l e R s m args below meth c f D mm_cl cA 3 _ pc (mc_61 pc)
  unfold mc_61
  exact (ms_b (ms_b (ms_b (ms_b (ms_b (ms_lf (ms_aload_n hx hb rfl (by decide +kernel)))
    (ms_lf (ms_getf (C := RX5) (T := TX5) (N := 11) hx hb hf hts (fun w h => hAW w (inq_5 w h)) hown hK rfl (by decide) (hts _ (hAW _ qw_515)) rfl (by decide +kernel))))
    (ms_b (ms_lf (ms_if_ne hx hb (by decide) (by decide +kernel)))
    (ms_lf (ms_aload_n hx hb rfl (by decide +kernel)))))
    (ms_b (ms_b (ms_lf (ms_iload_n hx hb rfl (by decide +kernel)))
    (ms_lf (ms_put (C := RX5) (T := TX5) (N := 11) hx hb hf hts (fun w h => hAW w (inq_5 w h)) tyX5 tyX5_ok nmX5 hown hK rfl (by decide) (hts _ (hAW _ qw_517)) rfl rfl rfl (by decide +kernel))))
    (ms_b (ms_lf (ms_aload_n hx hb rfl (by decide +kernel)))
    (ms_b (ms_lf (ms_dup hx hb (by decide +kernel)))
    (ms_lf (ms_getf (C := RX5) (T := TX5) (N := 11) hx hb hf hts (fun w h => hAW w (inq_5 w h)) hown hK rfl (by decide) (hts _ (hAW _ qw_515)) rfl (by decide +kernel)))))))
    (ms_b (ms_b (ms_b (ms_lf (ms_iconst hx hb (by decide) (by decide +kernel)))
    (ms_lf (ms_iadd hx hb (by decide +kernel))))
    (ms_b (ms_lf (ms_put (C := RX5) (T := TX5) (N := 11) hx hb hf hts (fun w h => hAW w (inq_5 w h)) tyX5 tyX5_ok nmX5 hown hK rfl (by decide) (hts _ (hAW _ qw_515)) rfl rfl rfl (by decide +kernel)))
    (ms_lf (ms_iconst hx hb (by decide) (by decide +kernel)))))
    (ms_b (ms_b (ms_lf (ms_istore_n hx hb rfl (by decide : 2 < 3) (by decide +kernel)))
    (ms_lf (ms_iload_n hx hb rfl (by decide +kernel))))
    (ms_b (ms_lf (ms_aload_n hx hb rfl (by decide +kernel)))
    (ms_b (ms_lf (ms_getf (C := RX5) (T := TX5) (N := 11) hx hb hf hts (fun w h => hAW w (inq_5 w h)) hown hK rfl (by decide) (hts _ (hAW _ qw_526)) rfl (by decide +kernel)))
    (ms_lf (ms_ic_ge hx hb (by decide) (by decide +kernel))))))))
    (ms_b (ms_b (ms_b (ms_b (ms_lf (ms_aload_n hx hb rfl (by decide +kernel)))
    (ms_lf (ms_getf (C := RX5) (T := TX5) (N := 11) hx hb hf hts (fun w h => hAW w (inq_5 w h)) hown hK rfl (by decide) (hts _ (hAW _ qw_524)) rfl (by decide +kernel))))
    (ms_b (ms_lf (ms_iload_n hx hb rfl (by decide +kernel)))
    (ms_lf (ms_bipush hx hb (by decide) (by decide +kernel)))))
    (ms_b (ms_b (ms_lf (ms_imul hx hb (by decide +kernel)))
    (ms_lf (ms_aload_n hx hb rfl (by decide +kernel))))
    (ms_b (ms_lf (ms_getf (C := RX5) (T := TX5) (N := 11) hx hb hf hts (fun w h => hAW w (inq_5 w h)) hown hK rfl (by decide) (hts _ (hAW _ qw_523)) rfl (by decide +kernel)))
    (ms_b (ms_lf (ms_iload_n hx hb rfl (by decide +kernel)))
    (ms_lf (ms_iald hx hb hf hA hX (by decide +kernel)))))))
    (ms_b (ms_b (ms_b (ms_lf (ms_iadd hx hb (by decide +kernel)))
    (ms_lf (ms_dup2 hx hb (by decide +kernel))))
    (ms_b (ms_lf (ms_iald hx hb hf hA hX (by decide +kernel)))
    (ms_lf (ms_iconst hx hb (by decide) (by decide +kernel)))))
    (ms_b (ms_b (ms_lf (ms_iadd hx hb (by decide +kernel)))
    (ms_lf (ms_iast hx hb hf hA (by decide +kernel))))
    (ms_b (ms_lf (ms_iinc hx hb (by decide) (by decide : 2 < 3) (by decide +kernel)))
    (ms_b (ms_lf (ms_goto hx hb (by decide) (by decide +kernel)))
    (ms_lf (ms_ret hx hb hr hlk (by decide +kernel)))))))))
set_option maxRecDepth 100000 in
set_option maxHeartbeats 8000000 in
/-- TippedCrates$Rows.bestToHear -/
theorem sd_62 (l : Launch) (f : Nat → Nat) (D : va_G) (cA : FieldType → ClassId) (d : Nat) : mm_Ok2 l f D cA d (yX5_bestToHear, cX5_bestToHear, 6, (some .int), mc_62) := by
  intro p e R s m args below meth c C hRf hRl pc
  obtain ⟨hx, hb, hml, hr, hlk, hnm, hown, hts, hEX, hgo, hf⟩ := C
  obtain ⟨hK, hA, hX, hZs, hZc, hZq, hTx, hSR0, hSR1, hAO, hN⟩ := id hEX
  have hAW : ∀ w ∈ mm_AW, w ∈ (Cond.code yX5_bestToHear cX5_bestToHear 6 (some .int) :: mm_AW) := fun w h => List.mem_cons_of_mem _ h
  have hown : s.vm.findClass "TippedCrates$Rows" = some m.cls := hown
  show mm_S p l e R s m args below meth c f D mm_cl cA 6 _ pc (mc_62 pc)
  unfold mc_62
  exact (ms_b (ms_b (ms_b (ms_b (ms_lf (ms_aload_n hx hb rfl (by decide +kernel)))
    (ms_b (ms_lf (ms_getf (C := RX5) (T := TX5) (N := 11) hx hb hf hts (fun w h => hAW w (inq_5 w h)) hown hK rfl (by decide) (hts _ (hAW _ qw_515)) rfl (by decide +kernel)))
    (ms_lf (ms_if_ne hx hb (by decide) (by decide +kernel)))))
    (ms_b (ms_b (ms_lf (ms_bipush hx hb (by decide) (by decide +kernel)))
    (ms_lf (ms_iret hx hb hr hlk (by decide +kernel))))
    (ms_b (ms_lf (ms_iconst hx hb (by decide) (by decide +kernel)))
    (ms_lf (ms_istore_n hx hb rfl (by decide : 2 < 6) (by decide +kernel))))))
    (ms_b (ms_b (ms_lf (ms_sipush hx hb (by decide) (by decide +kernel)))
    (ms_b (ms_lf (ms_istore_n hx hb rfl (by decide : 3 < 6) (by decide +kernel)))
    (ms_lf (ms_iconst hx hb (by decide) (by decide +kernel)))))
    (ms_b (ms_b (ms_lf (ms_istore hx hb (by decide : 4 < 6) (by decide +kernel)))
    (ms_lf (ms_iload hx hb (by decide +kernel))))
    (ms_b (ms_lf (ms_iload_n hx hb rfl (by decide +kernel)))
    (ms_lf (ms_ic_gt hx hb (by decide) (by decide +kernel)))))))
    (ms_b (ms_b (ms_b (ms_lf (ms_aload_n hx hb rfl (by decide +kernel)))
    (ms_b (ms_lf (ms_iload hx hb (by decide +kernel)))
    (ms_lf (ms_ivV (C := RX5) (T := TX5) (N := 11) hx hb hml hown hts hgo hEX hf hK rfl (mm_GV hAW (mm_GI hAW gi_63) qw_1316 qw_1318 qw_42 qw_131) rfl ⟨rfl, hd_63⟩ (mm_rm hRf hRl (Nat.le_of_ble_eq_true rfl)) (by decide +kernel)))))
    (ms_b (ms_b (ms_lf (ms_istore hx hb (by decide : 5 < 6) (by decide +kernel)))
    (ms_lf (ms_iload hx hb (by decide +kernel))))
    (ms_b (ms_lf (ms_iload_n hx hb rfl (by decide +kernel)))
    (ms_lf (ms_ic_ge hx hb (by decide) (by decide +kernel))))))
    (ms_b (ms_b (ms_b (ms_lf (ms_iload hx hb (by decide +kernel)))
    (ms_lf (ms_istore_n hx hb rfl (by decide : 3 < 6) (by decide +kernel))))
    (ms_b (ms_lf (ms_iload hx hb (by decide +kernel)))
    (ms_lf (ms_istore_n hx hb rfl (by decide : 2 < 6) (by decide +kernel)))))
    (ms_b (ms_b (ms_lf (ms_iinc hx hb (by decide) (by decide : 4 < 6) (by decide +kernel)))
    (ms_lf (ms_goto hx hb (by decide) (by decide +kernel))))
    (ms_b (ms_lf (ms_iload_n hx hb rfl (by decide +kernel)))
    (ms_lf (ms_iret hx hb hr hlk (by decide +kernel))))))))
set_option maxRecDepth 100000 in
set_option maxHeartbeats 8000000 in
/-- TippedCrates$Rows.worstLeft -/
theorem sd_63 (l : Launch) (f : Nat → Nat) (D : va_G) (cA : FieldType → ClassId) (d : Nat) : mm_Ok2 l f D cA d (yX5_worstLeft, cX5_worstLeft, 4, (some .int), mc_63) := by
  intro p e R s m args below meth c C hRf hRl pc
  obtain ⟨hx, hb, hml, hr, hlk, hnm, hown, hts, hEX, hgo, hf⟩ := C
  obtain ⟨hK, hA, hX, hZs, hZc, hZq, hTx, hSR0, hSR1, hAO, hN⟩ := id hEX
  have hAW : ∀ w ∈ mm_AW, w ∈ (Cond.code yX5_worstLeft cX5_worstLeft 4 (some .int) :: mm_AW) := fun w h => List.mem_cons_of_mem _ h
  have hown : s.vm.findClass "TippedCrates$Rows" = some m.cls := hown
  show mm_S p l e R s m args below meth c f D mm_cl cA 4 _ pc (mc_63 pc)
  unfold mc_63
  exact (ms_b (ms_b (ms_b (ms_b (ms_lf (ms_iconst hx hb (by decide) (by decide +kernel)))
    (ms_b (ms_lf (ms_istore_n hx hb rfl (by decide : 2 < 4) (by decide +kernel)))
    (ms_lf (ms_iconst hx hb (by decide) (by decide +kernel)))))
    (ms_b (ms_lf (ms_istore_n hx hb rfl (by decide : 3 < 4) (by decide +kernel)))
    (ms_b (ms_lf (ms_iload_n hx hb rfl (by decide +kernel)))
    (ms_lf (ms_bipush hx hb (by decide) (by decide +kernel))))))
    (ms_b (ms_b (ms_lf (ms_ic_gt hx hb (by decide) (by decide +kernel)))
    (ms_b (ms_lf (ms_iload_n hx hb rfl (by decide +kernel)))
    (ms_lf (ms_aload_n hx hb rfl (by decide +kernel)))))
    (ms_b (ms_lf (ms_getf (C := RX5) (T := TX5) (N := 11) hx hb hf hts (fun w h => hAW w (inq_5 w h)) hown hK rfl (by decide) (hts _ (hAW _ qw_524)) rfl (by decide +kernel)))
    (ms_b (ms_lf (ms_iload_n hx hb rfl (by decide +kernel)))
    (ms_lf (ms_iconst hx hb (by decide) (by decide +kernel)))))))
    (ms_b (ms_b (ms_b (ms_lf (ms_isub hx hb (by decide +kernel)))
    (ms_b (ms_lf (ms_bipush hx hb (by decide) (by decide +kernel)))
    (ms_lf (ms_imul hx hb (by decide +kernel)))))
    (ms_b (ms_lf (ms_iload_n hx hb rfl (by decide +kernel)))
    (ms_b (ms_lf (ms_iadd hx hb (by decide +kernel)))
    (ms_lf (ms_iald hx hb hf hA hX (by decide +kernel))))))
    (ms_b (ms_b (ms_lf (ms_ivS hx hb hml hown hts hgo hEX (mm_GS hAW (mm_GI hAW gi_288) qw_1320 qw_688 qw_134) rfl hd_288 (mm_rm hRf hRl (Nat.le_of_ble_eq_true rfl)) (by decide +kernel)))
    (ms_b (ms_lf (ms_istore_n hx hb rfl (by decide : 2 < 4) (by decide +kernel)))
    (ms_lf (ms_iinc hx hb (by decide) (by decide : 3 < 4) (by decide +kernel)))))
    (ms_b (ms_lf (ms_goto hx hb (by decide) (by decide +kernel)))
    (ms_b (ms_lf (ms_iload_n hx hb rfl (by decide +kernel)))
    (ms_lf (ms_iret hx hb hr hlk (by decide +kernel))))))))
set_option maxRecDepth 100000 in
set_option maxHeartbeats 8000000 in
/-- TippedCrates$Rows.spellings -/
theorem sd_64 (l : Launch) (f : Nat → Nat) (D : va_G) (cA : FieldType → ClassId) (d : Nat) : mm_Ok2 l f D cA d (yX5_spellings, cX5_spellings, 3, (some .int), mc_64) := by
  intro p e R s m args below meth c C hRf hRl pc
  obtain ⟨hx, hb, hml, hr, hlk, hnm, hown, hts, hEX, hgo, hf⟩ := C
  obtain ⟨hK, hA, hX, hZs, hZc, hZq, hTx, hSR0, hSR1, hAO, hN⟩ := id hEX
  have hAW : ∀ w ∈ mm_AW, w ∈ (Cond.code yX5_spellings cX5_spellings 3 (some .int) :: mm_AW) := fun w h => List.mem_cons_of_mem _ h
  have hown : s.vm.findClass "TippedCrates$Rows" = some m.cls := hown
  show mm_S p l e R s m args below meth c f D mm_cl cA 3 _ pc (mc_64 pc)
  unfold mc_64
  exact (ms_b (ms_b (ms_b (ms_lf (ms_aload_n hx hb rfl (by decide +kernel)))
    (ms_lf (ms_aload_n hx hb rfl (by decide +kernel))))
    (ms_b (ms_lf (ms_getf (C := RX5) (T := TX5) (N := 11) hx hb hf hts (fun w h => hAW w (inq_5 w h)) hown hK rfl (by decide) (hts _ (hAW _ qw_519)) rfl (by decide +kernel)))
    (ms_lf (ms_getf (C := RX6) (T := TX6) (N := 5) hx hb hf hts (fun w h => hAW w (inq_6 w h)) hown hK rfl (by decide) (hts _ (hAW _ qw_445)) rfl (by decide +kernel)))))
    (ms_b (ms_b (ms_lf (ms_iload_n hx hb rfl (by decide +kernel)))
    (ms_lf (ms_iload_n hx hb rfl (by decide +kernel))))
    (ms_b (ms_lf (ms_ivV (C := RX5) (T := TX5) (N := 11) hx hb hml hown hts hgo hEX hf hK rfl (mm_GV hAW (mm_GI hAW gi_65) qw_1168 qw_1170 qw_34 qw_131) rfl ⟨rfl, hd_65⟩ (mm_rm hRf hRl (Nat.le_of_ble_eq_true rfl)) (by decide +kernel)))
    (ms_lf (ms_iret hx hb hr hlk (by decide +kernel))))))
set_option maxRecDepth 100000 in
set_option maxHeartbeats 8000000 in
/-- TippedCrates$Rows.spellFrom -/
theorem sd_65 (l : Launch) (f : Nat → Nat) (D : va_G) (cA : FieldType → ClassId) (d : Nat) : mm_Ok2 l f D cA d (yX5_spellFrom, cX5_spellFrom, 9, (some .int), mc_65) := by
  intro p e R s m args below meth c C hRf hRl pc
  obtain ⟨hx, hb, hml, hr, hlk, hnm, hown, hts, hEX, hgo, hf⟩ := C
  obtain ⟨hK, hA, hX, hZs, hZc, hZq, hTx, hSR0, hSR1, hAO, hN⟩ := id hEX
  have hAW : ∀ w ∈ mm_AW, w ∈ (Cond.code yX5_spellFrom cX5_spellFrom 9 (some .int) :: mm_AW) := fun w h => List.mem_cons_of_mem _ h
  have hown : s.vm.findClass "TippedCrates$Rows" = some m.cls := hown
  show mm_S p l e R s m args below meth c f D mm_cl cA 9 _ pc (mc_65 pc)
  unfold mc_65
  exact (ms_b (ms_b (ms_b (ms_b (ms_b (ms_lf (ms_iload_n hx hb rfl (by decide +kernel)))
    (ms_b (ms_lf (ms_iconst hx hb (by decide) (by decide +kernel)))
    (ms_lf (ms_ic_lt hx hb (by decide) (by decide +kernel)))))
    (ms_b (ms_b (ms_lf (ms_iload_n hx hb rfl (by decide +kernel)))
    (ms_lf (ms_bipush hx hb (by decide) (by decide +kernel))))
    (ms_b (ms_lf (ms_ic_le hx hb (by decide) (by decide +kernel)))
    (ms_lf (ms_iconst hx hb (by decide) (by decide +kernel))))))
    (ms_b (ms_b (ms_b (ms_lf (ms_iret hx hb hr hlk (by decide +kernel)))
    (ms_lf (ms_iload_n hx hb rfl (by decide +kernel))))
    (ms_b (ms_lf (ms_gsN hx hb hown (hZs 4 _ rfl) (va_Nw.use rfl (hN.2.2.2.2.2.2.2.2.2.2.2.2.1)) rfl (by decide +kernel)))
    (ms_lf (ms_iload_n hx hb rfl (by decide +kernel)))))
    (ms_b (ms_b (ms_lf (ms_iconst hx hb (by decide) (by decide +kernel)))
    (ms_lf (ms_isub hx hb (by decide +kernel))))
    (ms_b (ms_lf (ms_iald hx hb hf hA hX (by decide +kernel)))
    (ms_lf (ms_idiv hx hb (by decide +kernel)))))))
    (ms_b (ms_b (ms_b (ms_lf (ms_istore hx hb (by decide : 4 < 9) (by decide +kernel)))
    (ms_b (ms_lf (ms_iload_n hx hb rfl (by decide +kernel)))
    (ms_lf (ms_gsN hx hb hown (hZs 4 _ rfl) (va_Nw.use rfl (hN.2.2.2.2.2.2.2.2.2.2.2.2.1)) rfl (by decide +kernel)))))
    (ms_b (ms_b (ms_lf (ms_iload_n hx hb rfl (by decide +kernel)))
    (ms_lf (ms_iconst hx hb (by decide) (by decide +kernel))))
    (ms_b (ms_lf (ms_isub hx hb (by decide +kernel)))
    (ms_lf (ms_iald hx hb hf hA hX (by decide +kernel))))))
    (ms_b (ms_b (ms_b (ms_lf (ms_irem hx hb (by decide +kernel)))
    (ms_lf (ms_istore hx hb (by decide : 5 < 9) (by decide +kernel))))
    (ms_b (ms_lf (ms_iconst hx hb (by decide) (by decide +kernel)))
    (ms_lf (ms_istore hx hb (by decide : 6 < 9) (by decide +kernel)))))
    (ms_b (ms_b (ms_lf (ms_iconst hx hb (by decide) (by decide +kernel)))
    (ms_lf (ms_istore hx hb (by decide : 7 < 9) (by decide +kernel))))
    (ms_b (ms_lf (ms_iload hx hb (by decide +kernel)))
    (ms_lf (ms_iconst hx hb (by decide) (by decide +kernel))))))))
    (ms_b (ms_b (ms_b (ms_b (ms_lf (ms_ic_ge hx hb (by decide) (by decide +kernel)))
    (ms_b (ms_lf (ms_aload_n hx hb rfl (by decide +kernel)))
    (ms_lf (ms_getf (C := RX5) (T := TX5) (N := 11) hx hb hf hts (fun w h => hAW w (inq_5 w h)) hown hK rfl (by decide) (hts _ (hAW _ qw_519)) rfl (by decide +kernel)))))
    (ms_b (ms_b (ms_lf (ms_iload_n hx hb rfl (by decide +kernel)))
    (ms_lf (ms_iload hx hb (by decide +kernel))))
    (ms_b (ms_lf (ms_ivV (C := RX6) (T := TX6) (N := 5) hx hb hml hown hts hgo hEX hf hK rfl (mm_GV hAW (mm_GI hAW gi_71) qw_1173 qw_1066 qw_1067 qw_129) rfl ⟨rfl, hd_71⟩ (mm_rm hRf hRl (Nat.le_of_ble_eq_true rfl)) (by decide +kernel)))
    (ms_lf (ms_istore hx hb (by decide : 8 < 9) (by decide +kernel))))))
    (ms_b (ms_b (ms_b (ms_lf (ms_iload hx hb (by decide +kernel)))
    (ms_lf (ms_iconst hx hb (by decide) (by decide +kernel))))
    (ms_b (ms_lf (ms_ic_eq hx hb (by decide) (by decide +kernel)))
    (ms_lf (ms_aload_n hx hb rfl (by decide +kernel)))))
    (ms_b (ms_b (ms_lf (ms_getf (C := RX5) (T := TX5) (N := 11) hx hb hf hts (fun w h => hAW w (inq_5 w h)) hown hK rfl (by decide) (hts _ (hAW _ qw_519)) rfl (by decide +kernel)))
    (ms_lf (ms_iload hx hb (by decide +kernel))))
    (ms_b (ms_lf (ms_ivV (C := RX6) (T := TX6) (N := 5) hx hb hml hown hts hgo hEX hf hK rfl (mm_GV hAW (mm_GI hAW gi_73) qw_1174 qw_1104 qw_1105 qw_129) rfl ⟨rfl, hd_73⟩ (mm_rm hRf hRl (Nat.le_of_ble_eq_true rfl)) (by decide +kernel)))
    (ms_lf (ms_iload hx hb (by decide +kernel)))))))
    (ms_b (ms_b (ms_b (ms_lf (ms_ic_ne hx hb (by decide) (by decide +kernel)))
    (ms_b (ms_lf (ms_iload hx hb (by decide +kernel)))
    (ms_lf (ms_aload_n hx hb rfl (by decide +kernel)))))
    (ms_b (ms_b (ms_lf (ms_iload hx hb (by decide +kernel)))
    (ms_lf (ms_iload hx hb (by decide +kernel))))
    (ms_b (ms_lf (ms_iload_n hx hb rfl (by decide +kernel)))
    (ms_lf (ms_iconst hx hb (by decide) (by decide +kernel))))))
    (ms_b (ms_b (ms_b (ms_lf (ms_isub hx hb (by decide +kernel)))
    (ms_lf (ms_ivV (C := RX5) (T := TX5) (N := 11) hx hb hml hown hts hgo hEX hf hK rfl (mm_GV hAW (mm_GI hAW gi_65) qw_1168 qw_1170 qw_34 qw_131) rfl ⟨rfl, hd_65⟩ (mm_rm hRf hRl (Nat.le_of_ble_eq_true rfl)) (by decide +kernel))))
    (ms_b (ms_lf (ms_iadd hx hb (by decide +kernel)))
    (ms_lf (ms_istore hx hb (by decide : 6 < 9) (by decide +kernel)))))
    (ms_b (ms_b (ms_lf (ms_iinc hx hb (by decide) (by decide : 7 < 9) (by decide +kernel)))
    (ms_lf (ms_goto hx hb (by decide) (by decide +kernel))))
    (ms_b (ms_lf (ms_iload hx hb (by decide +kernel)))
    (ms_lf (ms_iret hx hb hr hlk (by decide +kernel)))))))))
set_option maxRecDepth 100000 in
set_option maxHeartbeats 8000000 in
/-- TippedCrates$Rows.endOfGame -/
theorem sd_66 (l : Launch) (f : Nat → Nat) (D : va_G) (cA : FieldType → ClassId) (d : Nat) : mm_Ok2 l f D cA d (yX5_endOfGame, cX5_endOfGame, 2, (some .int), mc_66) := by
  intro p e R s m args below meth c C hRf hRl pc
  obtain ⟨hx, hb, hml, hr, hlk, hnm, hown, hts, hEX, hgo, hf⟩ := C
  obtain ⟨hK, hA, hX, hZs, hZc, hZq, hTx, hSR0, hSR1, hAO, hN⟩ := id hEX
  have hAW : ∀ w ∈ mm_AW, w ∈ (Cond.code yX5_endOfGame cX5_endOfGame 2 (some .int) :: mm_AW) := fun w h => List.mem_cons_of_mem _ h
  have hown : s.vm.findClass "TippedCrates$Rows" = some m.cls := hown
  show mm_S p l e R s m args below meth c f D mm_cl cA 2 _ pc (mc_66 pc)
  unfold mc_66
  exact (ms_b (ms_b (ms_b (ms_lf (ms_aload_n hx hb rfl (by decide +kernel)))
    (ms_lf (ms_aload_n hx hb rfl (by decide +kernel))))
    (ms_b (ms_lf (ms_getf (C := RX5) (T := TX5) (N := 11) hx hb hf hts (fun w h => hAW w (inq_5 w h)) hown hK rfl (by decide) (hts _ (hAW _ qw_519)) rfl (by decide +kernel)))
    (ms_lf (ms_getf (C := RX6) (T := TX6) (N := 5) hx hb hf hts (fun w h => hAW w (inq_6 w h)) hown hK rfl (by decide) (hts _ (hAW _ qw_445)) rfl (by decide +kernel)))))
    (ms_b (ms_b (ms_lf (ms_iload_n hx hb rfl (by decide +kernel)))
    (ms_lf (ms_iconst hx hb (by decide) (by decide +kernel))))
    (ms_b (ms_lf (ms_ivV (C := RX5) (T := TX5) (N := 11) hx hb hml hown hts hgo hEX hf hK rfl (mm_GV hAW (mm_GI hAW gi_68) qw_1183 qw_1185 qw_35 qw_131) rfl ⟨rfl, hd_68⟩ (mm_rm hRf hRl (Nat.le_of_ble_eq_true rfl)) (by decide +kernel)))
    (ms_lf (ms_iret hx hb hr hlk (by decide +kernel))))))
set_option maxRecDepth 100000 in
set_option maxHeartbeats 8000000 in
/-- TippedCrates$Rows.openingWay -/
theorem sd_67 (l : Launch) (f : Nat → Nat) (D : va_G) (cA : FieldType → ClassId) (d : Nat) : mm_Ok2 l f D cA d (yX5_openingWay, cX5_openingWay, 5, (some .int), mc_67) := by
  intro p e R s m args below meth c C hRf hRl pc
  obtain ⟨hx, hb, hml, hr, hlk, hnm, hown, hts, hEX, hgo, hf⟩ := C
  obtain ⟨hK, hA, hX, hZs, hZc, hZq, hTx, hSR0, hSR1, hAO, hN⟩ := id hEX
  have hAW : ∀ w ∈ mm_AW, w ∈ (Cond.code yX5_openingWay cX5_openingWay 5 (some .int) :: mm_AW) := fun w h => List.mem_cons_of_mem _ h
  have hown : s.vm.findClass "TippedCrates$Rows" = some m.cls := hown
  show mm_S p l e R s m args below meth c f D mm_cl cA 5 _ pc (mc_67 pc)
  unfold mc_67
  exact (ms_b (ms_b (ms_b (ms_b (ms_lf (ms_iconst hx hb (by decide) (by decide +kernel)))
    (ms_b (ms_lf (ms_istore_n hx hb rfl (by decide : 3 < 5) (by decide +kernel)))
    (ms_lf (ms_iload_n hx hb rfl (by decide +kernel)))))
    (ms_b (ms_b (ms_lf (ms_iconst hx hb (by decide) (by decide +kernel)))
    (ms_lf (ms_ic_ge hx hb (by decide) (by decide +kernel))))
    (ms_b (ms_lf (ms_aload_n hx hb rfl (by decide +kernel)))
    (ms_lf (ms_getf (C := RX5) (T := TX5) (N := 11) hx hb hf hts (fun w h => hAW w (inq_5 w h)) hown hK rfl (by decide) (hts _ (hAW _ qw_519)) rfl (by decide +kernel))))))
    (ms_b (ms_b (ms_b (ms_lf (ms_aload_n hx hb rfl (by decide +kernel)))
    (ms_lf (ms_getf (C := RX5) (T := TX5) (N := 11) hx hb hf hts (fun w h => hAW w (inq_5 w h)) hown hK rfl (by decide) (hts _ (hAW _ qw_519)) rfl (by decide +kernel))))
    (ms_b (ms_lf (ms_getf (C := RX6) (T := TX6) (N := 5) hx hb hf hts (fun w h => hAW w (inq_6 w h)) hown hK rfl (by decide) (hts _ (hAW _ qw_445)) rfl (by decide +kernel)))
    (ms_lf (ms_iload_n hx hb rfl (by decide +kernel)))))
    (ms_b (ms_b (ms_lf (ms_ivV (C := RX6) (T := TX6) (N := 5) hx hb hml hown hts hgo hEX hf hK rfl (mm_GV hAW (mm_GI hAW gi_71) qw_1173 qw_1066 qw_1067 qw_129) rfl ⟨rfl, hd_71⟩ (mm_rm hRf hRl (Nat.le_of_ble_eq_true rfl)) (by decide +kernel)))
    (ms_lf (ms_istore hx hb (by decide : 4 < 5) (by decide +kernel))))
    (ms_b (ms_lf (ms_iload hx hb (by decide +kernel)))
    (ms_lf (ms_iconst hx hb (by decide) (by decide +kernel)))))))
    (ms_b (ms_b (ms_b (ms_b (ms_lf (ms_ic_eq hx hb (by decide) (by decide +kernel)))
    (ms_lf (ms_aload_n hx hb rfl (by decide +kernel))))
    (ms_b (ms_lf (ms_iload hx hb (by decide +kernel)))
    (ms_lf (ms_iload_n hx hb rfl (by decide +kernel)))))
    (ms_b (ms_b (ms_lf (ms_iconst hx hb (by decide) (by decide +kernel)))
    (ms_lf (ms_isub hx hb (by decide +kernel))))
    (ms_b (ms_lf (ms_iconst hx hb (by decide) (by decide +kernel)))
    (ms_lf (ms_ivV (C := RX5) (T := TX5) (N := 11) hx hb hml hown hts hgo hEX hf hK rfl (mm_GV hAW (mm_GI hAW gi_68) qw_1183 qw_1185 qw_35 qw_131) rfl ⟨rfl, hd_68⟩ (mm_rm hRf hRl (Nat.le_of_ble_eq_true rfl)) (by decide +kernel))))))
    (ms_b (ms_b (ms_b (ms_lf (ms_iload_n hx hb rfl (by decide +kernel)))
    (ms_lf (ms_ic_ne hx hb (by decide) (by decide +kernel))))
    (ms_b (ms_lf (ms_iload_n hx hb rfl (by decide +kernel)))
    (ms_lf (ms_iret hx hb hr hlk (by decide +kernel)))))
    (ms_b (ms_b (ms_lf (ms_iinc hx hb (by decide) (by decide : 3 < 5) (by decide +kernel)))
    (ms_lf (ms_goto hx hb (by decide) (by decide +kernel))))
    (ms_b (ms_lf (ms_bipush hx hb (by decide) (by decide +kernel)))
    (ms_lf (ms_iret hx hb hr hlk (by decide +kernel))))))))
set_option maxRecDepth 100000 in
set_option maxHeartbeats 8000000 in
/-- TippedCrates$Rows.playFrom -/
theorem sd_68 (l : Launch) (f : Nat → Nat) (D : va_G) (cA : FieldType → ClassId) (d : Nat) : mm_Ok2 l f D cA d (yX5_playFrom, cX5_playFrom, 8, (some .int), mc_68) := by
  intro p e R s m args below meth c C hRf hRl pc
  obtain ⟨hx, hb, hml, hr, hlk, hnm, hown, hts, hEX, hgo, hf⟩ := C
  obtain ⟨hK, hA, hX, hZs, hZc, hZq, hTx, hSR0, hSR1, hAO, hN⟩ := id hEX
  have hAW : ∀ w ∈ mm_AW, w ∈ (Cond.code yX5_playFrom cX5_playFrom 8 (some .int) :: mm_AW) := fun w h => List.mem_cons_of_mem _ h
  have hown : s.vm.findClass "TippedCrates$Rows" = some m.cls := hown
  show mm_S p l e R s m args below meth c f D mm_cl cA 8 _ pc (mc_68 pc)
  unfold mc_68
  exact (ms_b (ms_b (ms_b (ms_b (ms_b (ms_lf (ms_iconst hx hb (by decide) (by decide +kernel)))
    (ms_b (ms_lf (ms_istore hx hb (by decide : 4 < 8) (by decide +kernel)))
    (ms_lf (ms_iconst hx hb (by decide) (by decide +kernel)))))
    (ms_b (ms_b (ms_lf (ms_istore hx hb (by decide : 5 < 8) (by decide +kernel)))
    (ms_lf (ms_iload hx hb (by decide +kernel))))
    (ms_b (ms_lf (ms_iconst hx hb (by decide) (by decide +kernel)))
    (ms_lf (ms_ic_ge hx hb (by decide) (by decide +kernel))))))
    (ms_b (ms_b (ms_b (ms_lf (ms_iload_n hx hb rfl (by decide +kernel)))
    (ms_lf (ms_if_le hx hb (by decide) (by decide +kernel))))
    (ms_b (ms_lf (ms_iload_n hx hb rfl (by decide +kernel)))
    (ms_lf (ms_bipush hx hb (by decide) (by decide +kernel)))))
    (ms_b (ms_b (ms_lf (ms_ic_gt hx hb (by decide) (by decide +kernel)))
    (ms_lf (ms_aload_n hx hb rfl (by decide +kernel))))
    (ms_b (ms_lf (ms_getf (C := RX5) (T := TX5) (N := 11) hx hb hf hts (fun w h => hAW w (inq_5 w h)) hown hK rfl (by decide) (hts _ (hAW _ qw_519)) rfl (by decide +kernel)))
    (ms_lf (ms_iload_n hx hb rfl (by decide +kernel)))))))
    (ms_b (ms_b (ms_b (ms_lf (ms_iload hx hb (by decide +kernel)))
    (ms_b (ms_lf (ms_ivV (C := RX6) (T := TX6) (N := 5) hx hb hml hown hts hgo hEX hf hK rfl (mm_GV hAW (mm_GI hAW gi_71) qw_1173 qw_1066 qw_1067 qw_129) rfl ⟨rfl, hd_71⟩ (mm_rm hRf hRl (Nat.le_of_ble_eq_true rfl)) (by decide +kernel)))
    (ms_lf (ms_istore hx hb (by decide : 6 < 8) (by decide +kernel)))))
    (ms_b (ms_b (ms_lf (ms_iload hx hb (by decide +kernel)))
    (ms_lf (ms_iconst hx hb (by decide) (by decide +kernel))))
    (ms_b (ms_lf (ms_ic_ne hx hb (by decide) (by decide +kernel)))
    (ms_lf (ms_goto hx hb (by decide) (by decide +kernel))))))
    (ms_b (ms_b (ms_b (ms_lf (ms_aload_n hx hb rfl (by decide +kernel)))
    (ms_lf (ms_iload hx hb (by decide +kernel))))
    (ms_b (ms_lf (ms_iload_n hx hb rfl (by decide +kernel)))
    (ms_lf (ms_iconst hx hb (by decide) (by decide +kernel)))))
    (ms_b (ms_b (ms_lf (ms_isub hx hb (by decide +kernel)))
    (ms_lf (ms_iload_n hx hb rfl (by decide +kernel))))
    (ms_b (ms_lf (ms_if_ne hx hb (by decide) (by decide +kernel)))
    (ms_lf (ms_iconst hx hb (by decide) (by decide +kernel))))))))
    (ms_b (ms_b (ms_b (ms_b (ms_lf (ms_goto hx hb (by decide) (by decide +kernel)))
    (ms_b (ms_lf (ms_iconst hx hb (by decide) (by decide +kernel)))
    (ms_lf (ms_ivV (C := RX5) (T := TX5) (N := 11) hx hb hml hown hts hgo hEX hf hK rfl (mm_GV hAW (mm_GI hAW gi_68) qw_1183 qw_1185 qw_35 qw_131) rfl ⟨rfl, hd_68⟩ (mm_rm hRf hRl (Nat.le_of_ble_eq_true rfl)) (by decide +kernel)))))
    (ms_b (ms_b (ms_lf (ms_istore hx hb (by decide : 7 < 8) (by decide +kernel)))
    (ms_lf (ms_iload hx hb (by decide +kernel))))
    (ms_b (ms_lf (ms_iconst hx hb (by decide) (by decide +kernel)))
    (ms_lf (ms_ic_eq hx hb (by decide) (by decide +kernel))))))
    (ms_b (ms_b (ms_b (ms_lf (ms_iload_n hx hb rfl (by decide +kernel)))
    (ms_lf (ms_if_eq hx hb (by decide) (by decide +kernel))))
    (ms_b (ms_lf (ms_iload hx hb (by decide +kernel)))
    (ms_lf (ms_iload hx hb (by decide +kernel)))))
    (ms_b (ms_b (ms_lf (ms_ic_le hx hb (by decide) (by decide +kernel)))
    (ms_lf (ms_goto hx hb (by decide) (by decide +kernel))))
    (ms_b (ms_lf (ms_iload hx hb (by decide +kernel)))
    (ms_lf (ms_iload hx hb (by decide +kernel)))))))
    (ms_b (ms_b (ms_b (ms_lf (ms_ic_ge hx hb (by decide) (by decide +kernel)))
    (ms_b (ms_lf (ms_iload hx hb (by decide +kernel)))
    (ms_lf (ms_istore hx hb (by decide : 4 < 8) (by decide +kernel)))))
    (ms_b (ms_b (ms_lf (ms_iinc hx hb (by decide) (by decide : 5 < 8) (by decide +kernel)))
    (ms_lf (ms_goto hx hb (by decide) (by decide +kernel))))
    (ms_b (ms_lf (ms_iload hx hb (by decide +kernel)))
    (ms_lf (ms_iconst hx hb (by decide) (by decide +kernel))))))
    (ms_b (ms_b (ms_b (ms_lf (ms_ic_ne hx hb (by decide) (by decide +kernel)))
    (ms_lf (ms_aload_n hx hb rfl (by decide +kernel))))
    (ms_b (ms_lf (ms_getf (C := RX5) (T := TX5) (N := 11) hx hb hf hts (fun w h => hAW w (inq_5 w h)) hown hK rfl (by decide) (hts _ (hAW _ qw_519)) rfl (by decide +kernel)))
    (ms_lf (ms_iload_n hx hb rfl (by decide +kernel)))))
    (ms_b (ms_b (ms_lf (ms_ivV (C := RX6) (T := TX6) (N := 5) hx hb hml hown hts hgo hEX hf hK rfl (mm_GV hAW (mm_GI hAW gi_72) qw_1187 qw_1074 qw_1075 qw_129) rfl ⟨rfl, hd_72⟩ (mm_rm hRf hRl (Nat.le_of_ble_eq_true rfl)) (by decide +kernel)))
    (ms_lf (ms_goto hx hb (by decide) (by decide +kernel))))
    (ms_b (ms_lf (ms_iload hx hb (by decide +kernel)))
    (ms_lf (ms_iret hx hb hr hlk (by decide +kernel)))))))))
set_option maxRecDepth 100000 in
set_option maxHeartbeats 8000000 in
/-- TippedCrates$Standings.<init> -/
theorem sd_69 (l : Launch) (f : Nat → Nat) (D : va_G) (cA : FieldType → ClassId) (d : Nat) : mm_Ok2 l f D cA d (yX6_init, cX6_init, 3, none, mc_69) := by
  intro p e R s m args below meth c C hRf hRl pc
  obtain ⟨hx, hb, hml, hr, hlk, hnm, hown, hts, hEX, hgo, hf⟩ := C
  obtain ⟨hK, hA, hX, hZs, hZc, hZq, hTx, hSR0, hSR1, hAO, hN⟩ := id hEX
  have hAW : ∀ w ∈ mm_AW, w ∈ (Cond.code yX6_init cX6_init 3 none :: mm_AW) := fun w h => List.mem_cons_of_mem _ h
  have hown : s.vm.findClass "TippedCrates$Standings" = some m.cls := hown
  show mm_S p l e R s m args below meth c f D mm_cl cA 3 _ pc (mc_69 pc)
  unfold mc_69
  exact (ms_b (ms_b (ms_b (ms_b (ms_lf (ms_aload_n hx hb rfl (by decide +kernel)))
    (ms_lf (ms_oi hx hb hml hown (hts _ (hAW _ qw_440)) (hts _ (hAW _ qw_144)) (hts _ (hAW _ qw_145)) (by omega) (by omega) (by decide +kernel))))
    (ms_b (ms_lf (ms_aload_n hx hb rfl (by decide +kernel)))
    (ms_lf (ms_bipush hx hb (by decide) (by decide +kernel)))))
    (ms_b (ms_b (ms_lf (ms_na hx hb hf hA rfl (hts _ (hAW _ qw_233)) rfl rfl rfl (by decide) (by decide +kernel)))
    (ms_lf (ms_putF (C := RX6) (T := TX6) (N := 5) hx hb hf hts (fun w h => hAW w (inq_6 w h)) tyX6 tyX6_ok nmX6 hown hK rfl (by decide) (hts _ (hAW _ qw_447)) rfl rfl hnm rfl rfl (by decide +kernel))))
    (ms_b (ms_lf (ms_aload_n hx hb rfl (by decide +kernel)))
    (ms_lf (ms_bipush hx hb (by decide) (by decide +kernel))))))
    (ms_b (ms_b (ms_b (ms_lf (ms_na hx hb hf hA rfl (hts _ (hAW _ qw_233)) rfl rfl rfl (by decide) (by decide +kernel)))
    (ms_lf (ms_putF (C := RX6) (T := TX6) (N := 5) hx hb hf hts (fun w h => hAW w (inq_6 w h)) tyX6 tyX6_ok nmX6 hown hK rfl (by decide) (hts _ (hAW _ qw_448)) rfl rfl hnm rfl rfl (by decide +kernel))))
    (ms_b (ms_lf (ms_aload_n hx hb rfl (by decide +kernel)))
    (ms_lf (ms_aload_n hx hb rfl (by decide +kernel)))))
    (ms_b (ms_b (ms_lf (ms_putF (C := RX6) (T := TX6) (N := 5) hx hb hf hts (fun w h => hAW w (inq_6 w h)) tyX6 tyX6_ok nmX6 hown hK rfl (by decide) (hts _ (hAW _ qw_441)) rfl rfl hnm rfl rfl (by decide +kernel)))
    (ms_lf (ms_aload_n hx hb rfl (by decide +kernel))))
    (ms_b (ms_lf (ms_aload_n hx hb rfl (by decide +kernel)))
    (ms_b (ms_lf (ms_putF (C := RX6) (T := TX6) (N := 5) hx hb hf hts (fun w h => hAW w (inq_6 w h)) tyX6 tyX6_ok nmX6 hown hK rfl (by decide) (hts _ (hAW _ qw_446)) rfl rfl hnm rfl rfl (by decide +kernel)))
    (ms_lf (ms_ret hx hb hr hlk (by decide +kernel))))))))
set_option maxRecDepth 100000 in
set_option maxHeartbeats 8000000 in
/-- TippedCrates$Standings.stand -/
theorem sd_70 (l : Launch) (f : Nat → Nat) (D : va_G) (cA : FieldType → ClassId) (d : Nat) : mm_Ok2 l f D cA d (yX6_stand, cX6_stand, 8, none, mc_70) := by
  intro p e R s m args below meth c C hRf hRl pc
  obtain ⟨hx, hb, hml, hr, hlk, hnm, hown, hts, hEX, hgo, hf⟩ := C
  obtain ⟨hK, hA, hX, hZs, hZc, hZq, hTx, hSR0, hSR1, hAO, hN⟩ := id hEX
  have hAW : ∀ w ∈ mm_AW, w ∈ (Cond.code yX6_stand cX6_stand 8 none :: mm_AW) := fun w h => List.mem_cons_of_mem _ h
  have hown : s.vm.findClass "TippedCrates$Standings" = some m.cls := hown
  show mm_S p l e R s m args below meth c f D mm_cl cA 8 _ pc (mc_70 pc)
  unfold mc_70
  exact (ms_b (ms_b (ms_b (ms_b (ms_b (ms_b (ms_lf (ms_aload_n hx hb rfl (by decide +kernel)))
    (ms_lf (ms_aload_n hx hb rfl (by decide +kernel))))
    (ms_b (ms_lf (ms_getf (C := RX7) (T := TX7) (N := 7) hx hb hf hts (fun w h => hAW w (inq_7 w h)) hown hK rfl (by decide) (hts _ (hAW _ qw_568)) rfl (by decide +kernel)))
    (ms_b (ms_lf (ms_iload_n hx hb rfl (by decide +kernel)))
    (ms_lf (ms_iald hx hb hf hA hX (by decide +kernel))))))
    (ms_b (ms_b (ms_lf (ms_bipush hx hb (by decide) (by decide +kernel)))
    (ms_lf (ms_imul hx hb (by decide +kernel))))
    (ms_b (ms_lf (ms_put (C := RX6) (T := TX6) (N := 5) hx hb hf hts (fun w h => hAW w (inq_6 w h)) tyX6 tyX6_ok nmX6 hown hK rfl (by decide) (hts _ (hAW _ qw_443)) rfl rfl rfl (by decide +kernel)))
    (ms_b (ms_lf (ms_aload_n hx hb rfl (by decide +kernel)))
    (ms_lf (ms_getf (C := RX7) (T := TX7) (N := 7) hx hb hf hts (fun w h => hAW w (inq_7 w h)) hown hK rfl (by decide) (hts _ (hAW _ qw_572)) rfl (by decide +kernel)))))))
    (ms_b (ms_b (ms_b (ms_lf (ms_iload_n hx hb rfl (by decide +kernel)))
    (ms_lf (ms_bipush hx hb (by decide) (by decide +kernel))))
    (ms_b (ms_lf (ms_imul hx hb (by decide +kernel)))
    (ms_b (ms_lf (ms_aload_n hx hb rfl (by decide +kernel)))
    (ms_lf (ms_getf (C := RX6) (T := TX6) (N := 5) hx hb hf hts (fun w h => hAW w (inq_6 w h)) hown hK rfl (by decide) (hts _ (hAW _ qw_448)) rfl (by decide +kernel))))))
    (ms_b (ms_b (ms_lf (ms_iconst hx hb (by decide) (by decide +kernel)))
    (ms_b (ms_lf (ms_bipush hx hb (by decide) (by decide +kernel)))
    (ms_lf (ms_ac hx hb hml hf hA hown (hts _ (hAW _ qw_1050)) (hts _ (hAW _ qw_408)) (hts _ (hAW _ qw_407)) (hts _ (hAW _ qw_128)) (by omega) (by rw [hRl]; simp [nativeFrameWords]; omega) (by decide +kernel)))))
    (ms_b (ms_lf (ms_aload_n hx hb rfl (by decide +kernel)))
    (ms_b (ms_lf (ms_ivV (C := RX7) (T := TX7) (N := 7) hx hb hml hown hts hgo hEX hf hK rfl (mm_GV hAW (mm_GI hAW gi_83) qw_1051 qw_1052 qw_1053 qw_133) rfl ⟨rfl, hd_83⟩ (mm_rm hRf hRl (Nat.le_of_ble_eq_true rfl)) (by decide +kernel)))
    (ms_lf (ms_iconst hx hb (by decide) (by decide +kernel))))))))
    (ms_b (ms_b (ms_b (ms_b (ms_lf (ms_aload_n hx hb rfl (by decide +kernel)))
    (ms_lf (ms_getf (C := RX7) (T := TX7) (N := 7) hx hb hf hts (fun w h => hAW w (inq_7 w h)) hown hK rfl (by decide) (hts _ (hAW _ qw_568)) rfl (by decide +kernel))))
    (ms_b (ms_lf (ms_iload_n hx hb rfl (by decide +kernel)))
    (ms_b (ms_lf (ms_iald hx hb hf hA hX (by decide +kernel)))
    (ms_lf (ms_ishl hx hb (by decide +kernel))))))
    (ms_b (ms_b (ms_lf (ms_iconst hx hb (by decide) (by decide +kernel)))
    (ms_b (ms_lf (ms_ixor hx hb (by decide +kernel)))
    (ms_lf (ms_iand hx hb (by decide +kernel)))))
    (ms_b (ms_lf (ms_istore_n hx hb rfl (by decide : 3 < 8) (by decide +kernel)))
    (ms_b (ms_lf (ms_iconst hx hb (by decide) (by decide +kernel)))
    (ms_lf (ms_istore hx hb (by decide : 4 < 8) (by decide +kernel)))))))
    (ms_b (ms_b (ms_b (ms_lf (ms_iload hx hb (by decide +kernel)))
    (ms_lf (ms_aload_n hx hb rfl (by decide +kernel))))
    (ms_b (ms_lf (ms_getf (C := RX6) (T := TX6) (N := 5) hx hb hf hts (fun w h => hAW w (inq_6 w h)) hown hK rfl (by decide) (hts _ (hAW _ qw_441)) rfl (by decide +kernel)))
    (ms_b (ms_lf (ms_getf (C := RX3) (T := TX3) (N := 12) hx hb hf hts (fun w h => hAW w (inq_3 w h)) hown hK rfl (by decide) (hts _ (hAW _ qw_266)) rfl (by decide +kernel)))
    (ms_lf (ms_aload_n hx hb rfl (by decide +kernel))))))
    (ms_b (ms_b (ms_lf (ms_getf (C := RX6) (T := TX6) (N := 5) hx hb hf hts (fun w h => hAW w (inq_6 w h)) hown hK rfl (by decide) (hts _ (hAW _ qw_441)) rfl (by decide +kernel)))
    (ms_b (ms_lf (ms_getf (C := RX3) (T := TX3) (N := 12) hx hb hf hts (fun w h => hAW w (inq_3 w h)) hown hK rfl (by decide) (hts _ (hAW _ qw_269)) rfl (by decide +kernel)))
    (ms_lf (ms_imul hx hb (by decide +kernel)))))
    (ms_b (ms_lf (ms_ic_ge hx hb (by decide) (by decide +kernel)))
    (ms_b (ms_lf (ms_iconst hx hb (by decide) (by decide +kernel)))
    (ms_lf (ms_istore hx hb (by decide : 5 < 8) (by decide +kernel)))))))))
    (ms_b (ms_b (ms_b (ms_b (ms_b (ms_lf (ms_iload hx hb (by decide +kernel)))
    (ms_lf (ms_iconst hx hb (by decide) (by decide +kernel))))
    (ms_b (ms_lf (ms_ic_ge hx hb (by decide) (by decide +kernel)))
    (ms_b (ms_lf (ms_aload_n hx hb rfl (by decide +kernel)))
    (ms_lf (ms_getf (C := RX6) (T := TX6) (N := 5) hx hb hf hts (fun w h => hAW w (inq_6 w h)) hown hK rfl (by decide) (hts _ (hAW _ qw_441)) rfl (by decide +kernel))))))
    (ms_b (ms_b (ms_lf (ms_iload hx hb (by decide +kernel)))
    (ms_b (ms_lf (ms_iload hx hb (by decide +kernel)))
    (ms_lf (ms_ivV (C := RX3) (T := TX3) (N := 12) hx hb hml hown hts hgo hEX hf hK rfl (mm_GV hAW (mm_GI hAW gi_30) qw_1055 qw_954 qw_955 qw_123) rfl ⟨rfl, hd_30⟩ (mm_rm hRf hRl (Nat.le_of_ble_eq_true rfl)) (by decide +kernel)))))
    (ms_b (ms_lf (ms_istore hx hb (by decide : 6 < 8) (by decide +kernel)))
    (ms_b (ms_lf (ms_iload hx hb (by decide +kernel)))
    (ms_lf (ms_iconst hx hb (by decide) (by decide +kernel)))))))
    (ms_b (ms_b (ms_b (ms_lf (ms_ic_eq hx hb (by decide) (by decide +kernel)))
    (ms_lf (ms_aload_n hx hb rfl (by decide +kernel))))
    (ms_b (ms_lf (ms_getf (C := RX6) (T := TX6) (N := 5) hx hb hf hts (fun w h => hAW w (inq_6 w h)) hown hK rfl (by decide) (hts _ (hAW _ qw_441)) rfl (by decide +kernel)))
    (ms_b (ms_lf (ms_getf (C := RX3) (T := TX3) (N := 12) hx hb hf hts (fun w h => hAW w (inq_3 w h)) hown hK rfl (by decide) (hts _ (hAW _ qw_278)) rfl (by decide +kernel)))
    (ms_lf (ms_iload_n hx hb rfl (by decide +kernel))))))
    (ms_b (ms_b (ms_lf (ms_ior hx hb (by decide +kernel)))
    (ms_b (ms_lf (ms_iload hx hb (by decide +kernel)))
    (ms_lf (ms_ishr hx hb (by decide +kernel)))))
    (ms_b (ms_lf (ms_iconst hx hb (by decide) (by decide +kernel)))
    (ms_b (ms_lf (ms_iand hx hb (by decide +kernel)))
    (ms_lf (ms_if_ne hx hb (by decide) (by decide +kernel))))))))
    (ms_b (ms_b (ms_b (ms_b (ms_lf (ms_iconst hx hb (by decide) (by decide +kernel)))
    (ms_lf (ms_goto hx hb (by decide) (by decide +kernel))))
    (ms_b (ms_lf (ms_iconst hx hb (by decide) (by decide +kernel)))
    (ms_b (ms_lf (ms_istore hx hb (by decide : 7 < 8) (by decide +kernel)))
    (ms_lf (ms_aload_n hx hb rfl (by decide +kernel))))))
    (ms_b (ms_b (ms_lf (ms_getf (C := RX6) (T := TX6) (N := 5) hx hb hf hts (fun w h => hAW w (inq_6 w h)) hown hK rfl (by decide) (hts _ (hAW _ qw_447)) rfl (by decide +kernel)))
    (ms_b (ms_lf (ms_iload hx hb (by decide +kernel)))
    (ms_lf (ms_iconst hx hb (by decide) (by decide +kernel)))))
    (ms_b (ms_lf (ms_imul hx hb (by decide +kernel)))
    (ms_b (ms_lf (ms_iload hx hb (by decide +kernel)))
    (ms_lf (ms_iadd hx hb (by decide +kernel)))))))
    (ms_b (ms_b (ms_b (ms_lf (ms_iload hx hb (by decide +kernel)))
    (ms_lf (ms_if_eq hx hb (by decide) (by decide +kernel))))
    (ms_b (ms_lf (ms_iload hx hb (by decide +kernel)))
    (ms_b (ms_lf (ms_goto hx hb (by decide) (by decide +kernel)))
    (ms_lf (ms_iconst hx hb (by decide) (by decide +kernel))))))
    (ms_b (ms_b (ms_lf (ms_iast hx hb hf hA (by decide +kernel)))
    (ms_b (ms_lf (ms_iinc hx hb (by decide) (by decide : 5 < 8) (by decide +kernel)))
    (ms_lf (ms_goto hx hb (by decide) (by decide +kernel)))))
    (ms_b (ms_lf (ms_iinc hx hb (by decide) (by decide : 4 < 8) (by decide +kernel)))
    (ms_b (ms_lf (ms_goto hx hb (by decide) (by decide +kernel)))
    (ms_lf (ms_ret hx hb hr hlk (by decide +kernel))))))))))
set_option maxRecDepth 100000 in
set_option maxHeartbeats 8000000 in
/-- TippedCrates$Standings.tipped -/
theorem sd_71 (l : Launch) (f : Nat → Nat) (D : va_G) (cA : FieldType → ClassId) (d : Nat) : mm_Ok2 l f D cA d (yX6_tipped, cX6_tipped, 4, (some .int), mc_71) := by
  intro p e R s m args below meth c C hRf hRl pc
  obtain ⟨hx, hb, hml, hr, hlk, hnm, hown, hts, hEX, hgo, hf⟩ := C
  obtain ⟨hK, hA, hX, hZs, hZc, hZq, hTx, hSR0, hSR1, hAO, hN⟩ := id hEX
  have hAW : ∀ w ∈ mm_AW, w ∈ (Cond.code yX6_tipped cX6_tipped 4 (some .int) :: mm_AW) := fun w h => List.mem_cons_of_mem _ h
  have hown : s.vm.findClass "TippedCrates$Standings" = some m.cls := hown
  show mm_S p l e R s m args below meth c f D mm_cl cA 4 _ pc (mc_71 pc)
  unfold mc_71
  exact (ms_b (ms_b (ms_b (ms_b (ms_b (ms_lf (ms_aload_n hx hb rfl (by decide +kernel)))
    (ms_lf (ms_getf (C := RX6) (T := TX6) (N := 5) hx hb hf hts (fun w h => hAW w (inq_6 w h)) hown hK rfl (by decide) (hts _ (hAW _ qw_447)) rfl (by decide +kernel))))
    (ms_b (ms_lf (ms_iload_n hx hb rfl (by decide +kernel)))
    (ms_lf (ms_bipush hx hb (by decide) (by decide +kernel)))))
    (ms_b (ms_b (ms_lf (ms_idiv hx hb (by decide +kernel)))
    (ms_lf (ms_iconst hx hb (by decide) (by decide +kernel))))
    (ms_b (ms_lf (ms_imul hx hb (by decide +kernel)))
    (ms_lf (ms_iload_n hx hb rfl (by decide +kernel))))))
    (ms_b (ms_b (ms_b (ms_lf (ms_iadd hx hb (by decide +kernel)))
    (ms_lf (ms_iald hx hb hf hA hX (by decide +kernel))))
    (ms_b (ms_lf (ms_istore_n hx hb rfl (by decide : 3 < 4) (by decide +kernel)))
    (ms_lf (ms_iload_n hx hb rfl (by decide +kernel)))))
    (ms_b (ms_b (ms_lf (ms_iconst hx hb (by decide) (by decide +kernel)))
    (ms_lf (ms_ic_ne hx hb (by decide) (by decide +kernel))))
    (ms_b (ms_lf (ms_iconst hx hb (by decide) (by decide +kernel)))
    (ms_lf (ms_goto hx hb (by decide) (by decide +kernel)))))))
    (ms_b (ms_b (ms_b (ms_b (ms_lf (ms_iload_n hx hb rfl (by decide +kernel)))
    (ms_lf (ms_bipush hx hb (by decide) (by decide +kernel))))
    (ms_b (ms_lf (ms_imul hx hb (by decide +kernel)))
    (ms_lf (ms_aload_n hx hb rfl (by decide +kernel)))))
    (ms_b (ms_b (ms_lf (ms_getf (C := RX6) (T := TX6) (N := 5) hx hb hf hts (fun w h => hAW w (inq_6 w h)) hown hK rfl (by decide) (hts _ (hAW _ qw_446)) rfl (by decide +kernel)))
    (ms_lf (ms_getf (C := RX9) (T := TX9) (N := 4) hx hb hf hts (fun w h => hAW w (inq_9 w h)) hown hK rfl (by decide) (hts _ (hAW _ qw_423)) rfl (by decide +kernel))))
    (ms_b (ms_lf (ms_iload_n hx hb rfl (by decide +kernel)))
    (ms_lf (ms_bipush hx hb (by decide) (by decide +kernel))))))
    (ms_b (ms_b (ms_b (ms_lf (ms_irem hx hb (by decide +kernel)))
    (ms_lf (ms_iconst hx hb (by decide) (by decide +kernel))))
    (ms_b (ms_lf (ms_imul hx hb (by decide +kernel)))
    (ms_lf (ms_iload_n hx hb rfl (by decide +kernel)))))
    (ms_b (ms_b (ms_lf (ms_iadd hx hb (by decide +kernel)))
    (ms_lf (ms_iald hx hb hf hA hX (by decide +kernel))))
    (ms_b (ms_lf (ms_iadd hx hb (by decide +kernel)))
    (ms_lf (ms_iret hx hb hr hlk (by decide +kernel))))))))
set_option maxRecDepth 100000 in
set_option maxHeartbeats 8000000 in
/-- TippedCrates$Standings.topOf -/
theorem sd_72 (l : Launch) (f : Nat → Nat) (D : va_G) (cA : FieldType → ClassId) (d : Nat) : mm_Ok2 l f D cA d (yX6_topOf, cX6_topOf, 2, (some .int), mc_72) := by
  intro p e R s m args below meth c C hRf hRl pc
  obtain ⟨hx, hb, hml, hr, hlk, hnm, hown, hts, hEX, hgo, hf⟩ := C
  obtain ⟨hK, hA, hX, hZs, hZc, hZq, hTx, hSR0, hSR1, hAO, hN⟩ := id hEX
  have hAW : ∀ w ∈ mm_AW, w ∈ (Cond.code yX6_topOf cX6_topOf 2 (some .int) :: mm_AW) := fun w h => List.mem_cons_of_mem _ h
  have hown : s.vm.findClass "TippedCrates$Standings" = some m.cls := hown
  show mm_S p l e R s m args below meth c f D mm_cl cA 2 _ pc (mc_72 pc)
  unfold mc_72
  exact (ms_b (ms_b (ms_b (ms_lf (ms_aload_n hx hb rfl (by decide +kernel)))
    (ms_b (ms_lf (ms_getf (C := RX6) (T := TX6) (N := 5) hx hb hf hts (fun w h => hAW w (inq_6 w h)) hown hK rfl (by decide) (hts _ (hAW _ qw_448)) rfl (by decide +kernel)))
    (ms_lf (ms_aload_n hx hb rfl (by decide +kernel)))))
    (ms_b (ms_b (ms_lf (ms_getf (C := RX6) (T := TX6) (N := 5) hx hb hf hts (fun w h => hAW w (inq_6 w h)) hown hK rfl (by decide) (hts _ (hAW _ qw_446)) rfl (by decide +kernel)))
    (ms_lf (ms_getf (C := RX9) (T := TX9) (N := 4) hx hb hf hts (fun w h => hAW w (inq_9 w h)) hown hK rfl (by decide) (hts _ (hAW _ qw_421)) rfl (by decide +kernel))))
    (ms_b (ms_lf (ms_iload_n hx hb rfl (by decide +kernel)))
    (ms_lf (ms_bipush hx hb (by decide) (by decide +kernel))))))
    (ms_b (ms_b (ms_b (ms_lf (ms_irem hx hb (by decide +kernel)))
    (ms_lf (ms_bipush hx hb (by decide) (by decide +kernel))))
    (ms_b (ms_lf (ms_imul hx hb (by decide +kernel)))
    (ms_lf (ms_iconst hx hb (by decide) (by decide +kernel)))))
    (ms_b (ms_b (ms_lf (ms_iadd hx hb (by decide +kernel)))
    (ms_lf (ms_iald hx hb hf hA hX (by decide +kernel))))
    (ms_b (ms_lf (ms_iald hx hb hf hA hX (by decide +kernel)))
    (ms_lf (ms_iret hx hb hr hlk (by decide +kernel)))))))
set_option maxRecDepth 100000 in
set_option maxHeartbeats 8000000 in
/-- TippedCrates$Standings.beneathOf -/
theorem sd_73 (l : Launch) (f : Nat → Nat) (D : va_G) (cA : FieldType → ClassId) (d : Nat) : mm_Ok2 l f D cA d (yX6_beneathOf, cX6_beneathOf, 2, (some .int), mc_73) := by
  intro p e R s m args below meth c C hRf hRl pc
  obtain ⟨hx, hb, hml, hr, hlk, hnm, hown, hts, hEX, hgo, hf⟩ := C
  obtain ⟨hK, hA, hX, hZs, hZc, hZq, hTx, hSR0, hSR1, hAO, hN⟩ := id hEX
  have hAW : ∀ w ∈ mm_AW, w ∈ (Cond.code yX6_beneathOf cX6_beneathOf 2 (some .int) :: mm_AW) := fun w h => List.mem_cons_of_mem _ h
  have hown : s.vm.findClass "TippedCrates$Standings" = some m.cls := hown
  show mm_S p l e R s m args below meth c f D mm_cl cA 2 _ pc (mc_73 pc)
  unfold mc_73
  exact (ms_b (ms_b (ms_b (ms_lf (ms_aload_n hx hb rfl (by decide +kernel)))
    (ms_b (ms_lf (ms_getf (C := RX6) (T := TX6) (N := 5) hx hb hf hts (fun w h => hAW w (inq_6 w h)) hown hK rfl (by decide) (hts _ (hAW _ qw_448)) rfl (by decide +kernel)))
    (ms_lf (ms_aload_n hx hb rfl (by decide +kernel)))))
    (ms_b (ms_b (ms_lf (ms_getf (C := RX6) (T := TX6) (N := 5) hx hb hf hts (fun w h => hAW w (inq_6 w h)) hown hK rfl (by decide) (hts _ (hAW _ qw_446)) rfl (by decide +kernel)))
    (ms_lf (ms_getf (C := RX9) (T := TX9) (N := 4) hx hb hf hts (fun w h => hAW w (inq_9 w h)) hown hK rfl (by decide) (hts _ (hAW _ qw_421)) rfl (by decide +kernel))))
    (ms_b (ms_lf (ms_iload_n hx hb rfl (by decide +kernel)))
    (ms_lf (ms_bipush hx hb (by decide) (by decide +kernel))))))
    (ms_b (ms_b (ms_b (ms_lf (ms_irem hx hb (by decide +kernel)))
    (ms_lf (ms_bipush hx hb (by decide) (by decide +kernel))))
    (ms_b (ms_lf (ms_imul hx hb (by decide +kernel)))
    (ms_lf (ms_iconst hx hb (by decide) (by decide +kernel)))))
    (ms_b (ms_b (ms_lf (ms_iadd hx hb (by decide +kernel)))
    (ms_lf (ms_iald hx hb hf hA hX (by decide +kernel))))
    (ms_b (ms_lf (ms_iald hx hb hf hA hX (by decide +kernel)))
    (ms_lf (ms_iret hx hb hr hlk (by decide +kernel)))))))
set_option maxRecDepth 100000 in
set_option maxHeartbeats 8000000 in
/-- TippedCrates$State.<init> -/
theorem sd_74 (l : Launch) (f : Nat → Nat) (D : va_G) (cA : FieldType → ClassId) (d : Nat) : mm_Ok2 l f D cA d (yX7_init, cX7_init, 1, none, mc_74) := by
  intro p e R s m args below meth c C hRf hRl pc
  obtain ⟨hx, hb, hml, hr, hlk, hnm, hown, hts, hEX, hgo, hf⟩ := C
  obtain ⟨hK, hA, hX, hZs, hZc, hZq, hTx, hSR0, hSR1, hAO, hN⟩ := id hEX
  have hAW : ∀ w ∈ mm_AW, w ∈ (Cond.code yX7_init cX7_init 1 none :: mm_AW) := fun w h => List.mem_cons_of_mem _ h
  have hown : s.vm.findClass "TippedCrates$State" = some m.cls := hown
  show mm_S p l e R s m args below meth c f D mm_cl cA 1 _ pc (mc_74 pc)
  unfold mc_74
  exact (ms_b (ms_b (ms_b (ms_b (ms_lf (ms_aload_n hx hb rfl (by decide +kernel)))
    (ms_lf (ms_oi hx hb hml hown (hts _ (hAW _ qw_563)) (hts _ (hAW _ qw_144)) (hts _ (hAW _ qw_145)) (by omega) (by omega) (by decide +kernel))))
    (ms_b (ms_lf (ms_aload_n hx hb rfl (by decide +kernel)))
    (ms_lf (ms_bipush hx hb (by decide) (by decide +kernel)))))
    (ms_b (ms_b (ms_lf (ms_na hx hb hf hA rfl (hts _ (hAW _ qw_233)) rfl rfl rfl (by decide) (by decide +kernel)))
    (ms_lf (ms_putF (C := RX7) (T := TX7) (N := 7) hx hb hf hts (fun w h => hAW w (inq_7 w h)) tyX7 tyX7_ok nmX7 hown hK rfl (by decide) (hts _ (hAW _ qw_564)) rfl rfl hnm rfl rfl (by decide +kernel))))
    (ms_b (ms_lf (ms_aload_n hx hb rfl (by decide +kernel)))
    (ms_b (ms_lf (ms_iconst hx hb (by decide) (by decide +kernel)))
    (ms_lf (ms_na hx hb hf hA rfl (hts _ (hAW _ qw_233)) rfl rfl rfl (by decide) (by decide +kernel)))))))
    (ms_b (ms_b (ms_b (ms_lf (ms_putF (C := RX7) (T := TX7) (N := 7) hx hb hf hts (fun w h => hAW w (inq_7 w h)) tyX7 tyX7_ok nmX7 hown hK rfl (by decide) (hts _ (hAW _ qw_567)) rfl rfl hnm rfl rfl (by decide +kernel)))
    (ms_lf (ms_aload_n hx hb rfl (by decide +kernel))))
    (ms_b (ms_lf (ms_bipush hx hb (by decide) (by decide +kernel)))
    (ms_b (ms_lf (ms_na hx hb hf hA rfl (hts _ (hAW _ qw_233)) rfl rfl rfl (by decide) (by decide +kernel)))
    (ms_lf (ms_putF (C := RX7) (T := TX7) (N := 7) hx hb hf hts (fun w h => hAW w (inq_7 w h)) tyX7 tyX7_ok nmX7 hown hK rfl (by decide) (hts _ (hAW _ qw_571)) rfl rfl hnm rfl rfl (by decide +kernel))))))
    (ms_b (ms_b (ms_lf (ms_aload_n hx hb rfl (by decide +kernel)))
    (ms_lf (ms_iconst hx hb (by decide) (by decide +kernel))))
    (ms_b (ms_lf (ms_na hx hb hf hA rfl (hts _ (hAW _ qw_233)) rfl rfl rfl (by decide) (by decide +kernel)))
    (ms_b (ms_lf (ms_putF (C := RX7) (T := TX7) (N := 7) hx hb hf hts (fun w h => hAW w (inq_7 w h)) tyX7 tyX7_ok nmX7 hown hK rfl (by decide) (hts _ (hAW _ qw_575)) rfl rfl hnm rfl rfl (by decide +kernel)))
    (ms_lf (ms_ret hx hb hr hlk (by decide +kernel))))))))
set_option maxRecDepth 100000 in
set_option maxHeartbeats 8000000 in
/-- TippedCrates$State.start -/
theorem sd_75 (l : Launch) (f : Nat → Nat) (D : va_G) (cA : FieldType → ClassId) (d : Nat) : mm_Ok2 l f D cA d (yX7_start, cX7_start, 2, none, mc_75) := by
  intro p e R s m args below meth c C hRf hRl pc
  obtain ⟨hx, hb, hml, hr, hlk, hnm, hown, hts, hEX, hgo, hf⟩ := C
  obtain ⟨hK, hA, hX, hZs, hZc, hZq, hTx, hSR0, hSR1, hAO, hN⟩ := id hEX
  have hAW : ∀ w ∈ mm_AW, w ∈ (Cond.code yX7_start cX7_start 2 none :: mm_AW) := fun w h => List.mem_cons_of_mem _ h
  have hown : s.vm.findClass "TippedCrates$State" = some m.cls := hown
  show mm_S p l e R s m args below meth c f D mm_cl cA 2 _ pc (mc_75 pc)
  unfold mc_75
  exact (ms_b (ms_b (ms_b (ms_b (ms_b (ms_lf (ms_aload_n hx hb rfl (by decide +kernel)))
    (ms_lf (ms_getf (C := RX3) (T := TX3) (N := 12) hx hb hf hts (fun w h => hAW w (inq_3 w h)) hown hK rfl (by decide) (hts _ (hAW _ qw_282)) rfl (by decide +kernel))))
    (ms_b (ms_lf (ms_iconst hx hb (by decide) (by decide +kernel)))
    (ms_b (ms_lf (ms_aload_n hx hb rfl (by decide +kernel)))
    (ms_lf (ms_getf (C := RX7) (T := TX7) (N := 7) hx hb hf hts (fun w h => hAW w (inq_7 w h)) hown hK rfl (by decide) (hts _ (hAW _ qw_564)) rfl (by decide +kernel))))))
    (ms_b (ms_b (ms_lf (ms_iconst hx hb (by decide) (by decide +kernel)))
    (ms_lf (ms_bipush hx hb (by decide) (by decide +kernel))))
    (ms_b (ms_lf (ms_ac hx hb hml hf hA hown (hts _ (hAW _ qw_847)) (hts _ (hAW _ qw_408)) (hts _ (hAW _ qw_407)) (hts _ (hAW _ qw_128)) (by omega) (by rw [hRl]; simp [nativeFrameWords]; omega) (by decide +kernel)))
    (ms_b (ms_lf (ms_aload_n hx hb rfl (by decide +kernel)))
    (ms_lf (ms_getf (C := RX3) (T := TX3) (N := 12) hx hb hf hts (fun w h => hAW w (inq_3 w h)) hown hK rfl (by decide) (hts _ (hAW _ qw_285)) rfl (by decide +kernel)))))))
    (ms_b (ms_b (ms_b (ms_lf (ms_iconst hx hb (by decide) (by decide +kernel)))
    (ms_lf (ms_aload_n hx hb rfl (by decide +kernel))))
    (ms_b (ms_lf (ms_getf (C := RX7) (T := TX7) (N := 7) hx hb hf hts (fun w h => hAW w (inq_7 w h)) hown hK rfl (by decide) (hts _ (hAW _ qw_567)) rfl (by decide +kernel)))
    (ms_b (ms_lf (ms_iconst hx hb (by decide) (by decide +kernel)))
    (ms_lf (ms_iconst hx hb (by decide) (by decide +kernel))))))
    (ms_b (ms_b (ms_lf (ms_ac hx hb hml hf hA hown (hts _ (hAW _ qw_847)) (hts _ (hAW _ qw_408)) (hts _ (hAW _ qw_407)) (hts _ (hAW _ qw_128)) (by omega) (by rw [hRl]; simp [nativeFrameWords]; omega) (by decide +kernel)))
    (ms_lf (ms_aload_n hx hb rfl (by decide +kernel))))
    (ms_b (ms_lf (ms_getf (C := RX3) (T := TX3) (N := 12) hx hb hf hts (fun w h => hAW w (inq_3 w h)) hown hK rfl (by decide) (hts _ (hAW _ qw_288)) rfl (by decide +kernel)))
    (ms_b (ms_lf (ms_iconst hx hb (by decide) (by decide +kernel)))
    (ms_lf (ms_aload_n hx hb rfl (by decide +kernel))))))))
    (ms_b (ms_b (ms_b (ms_b (ms_lf (ms_getf (C := RX7) (T := TX7) (N := 7) hx hb hf hts (fun w h => hAW w (inq_7 w h)) hown hK rfl (by decide) (hts _ (hAW _ qw_571)) rfl (by decide +kernel)))
    (ms_lf (ms_iconst hx hb (by decide) (by decide +kernel))))
    (ms_b (ms_lf (ms_aload_n hx hb rfl (by decide +kernel)))
    (ms_b (ms_lf (ms_getf (C := RX7) (T := TX7) (N := 7) hx hb hf hts (fun w h => hAW w (inq_7 w h)) hown hK rfl (by decide) (hts _ (hAW _ qw_571)) rfl (by decide +kernel)))
    (ms_lf (ms_alen hx hb hf hA hX (by decide +kernel))))))
    (ms_b (ms_b (ms_lf (ms_ac hx hb hml hf hA hown (hts _ (hAW _ qw_847)) (hts _ (hAW _ qw_408)) (hts _ (hAW _ qw_407)) (hts _ (hAW _ qw_128)) (by omega) (by rw [hRl]; simp [nativeFrameWords]; omega) (by decide +kernel)))
    (ms_lf (ms_aload_n hx hb rfl (by decide +kernel))))
    (ms_b (ms_lf (ms_getf (C := RX7) (T := TX7) (N := 7) hx hb hf hts (fun w h => hAW w (inq_7 w h)) hown hK rfl (by decide) (hts _ (hAW _ qw_575)) rfl (by decide +kernel)))
    (ms_b (ms_lf (ms_iconst hx hb (by decide) (by decide +kernel)))
    (ms_lf (ms_ivS hx hb hml hown hts hgo hEX (mm_GS hAW (mm_GI hAW gi_301) qw_848 qw_821 qw_136) rfl hd_301 (mm_rm hRf hRl (Nat.le_of_ble_eq_true rfl)) (by decide +kernel)))))))
    (ms_b (ms_b (ms_b (ms_lf (ms_aload_n hx hb rfl (by decide +kernel)))
    (ms_lf (ms_aload_n hx hb rfl (by decide +kernel))))
    (ms_b (ms_lf (ms_getf (C := RX3) (T := TX3) (N := 12) hx hb hf hts (fun w h => hAW w (inq_3 w h)) hown hK rfl (by decide) (hts _ (hAW _ qw_274)) rfl (by decide +kernel)))
    (ms_b (ms_lf (ms_put (C := RX7) (T := TX7) (N := 7) hx hb hf hts (fun w h => hAW w (inq_7 w h)) tyX7 tyX7_ok nmX7 hown hK rfl (by decide) (hts _ (hAW _ qw_578)) rfl rfl rfl (by decide +kernel)))
    (ms_lf (ms_aload_n hx hb rfl (by decide +kernel))))))
    (ms_b (ms_b (ms_lf (ms_iconst hx hb (by decide) (by decide +kernel)))
    (ms_b (ms_lf (ms_put (C := RX7) (T := TX7) (N := 7) hx hb hf hts (fun w h => hAW w (inq_7 w h)) tyX7 tyX7_ok nmX7 hown hK rfl (by decide) (hts _ (hAW _ qw_580)) rfl rfl rfl (by decide +kernel)))
    (ms_lf (ms_aload_n hx hb rfl (by decide +kernel)))))
    (ms_b (ms_lf (ms_iconst hx hb (by decide) (by decide +kernel)))
    (ms_b (ms_lf (ms_put (C := RX7) (T := TX7) (N := 7) hx hb hf hts (fun w h => hAW w (inq_7 w h)) tyX7 tyX7_ok nmX7 hown hK rfl (by decide) (hts _ (hAW _ qw_583)) rfl rfl rfl (by decide +kernel)))
    (ms_lf (ms_ret hx hb hr hlk (by decide +kernel)))))))))
set_option maxRecDepth 100000 in
set_option maxHeartbeats 8000000 in
/-- TippedCrates$State.copyOf -/
theorem sd_76 (l : Launch) (f : Nat → Nat) (D : va_G) (cA : FieldType → ClassId) (d : Nat) : mm_Ok2 l f D cA d (yX7_copyOf, cX7_copyOf, 2, none, mc_76) := by
  intro p e R s m args below meth c C hRf hRl pc
  obtain ⟨hx, hb, hml, hr, hlk, hnm, hown, hts, hEX, hgo, hf⟩ := C
  obtain ⟨hK, hA, hX, hZs, hZc, hZq, hTx, hSR0, hSR1, hAO, hN⟩ := id hEX
  have hAW : ∀ w ∈ mm_AW, w ∈ (Cond.code yX7_copyOf cX7_copyOf 2 none :: mm_AW) := fun w h => List.mem_cons_of_mem _ h
  have hown : s.vm.findClass "TippedCrates$State" = some m.cls := hown
  show mm_S p l e R s m args below meth c f D mm_cl cA 2 _ pc (mc_76 pc)
  unfold mc_76
  exact (ms_b (ms_b (ms_b (ms_b (ms_b (ms_lf (ms_aload_n hx hb rfl (by decide +kernel)))
    (ms_lf (ms_getf (C := RX7) (T := TX7) (N := 7) hx hb hf hts (fun w h => hAW w (inq_7 w h)) hown hK rfl (by decide) (hts _ (hAW _ qw_564)) rfl (by decide +kernel))))
    (ms_b (ms_lf (ms_iconst hx hb (by decide) (by decide +kernel)))
    (ms_b (ms_lf (ms_aload_n hx hb rfl (by decide +kernel)))
    (ms_lf (ms_getf (C := RX7) (T := TX7) (N := 7) hx hb hf hts (fun w h => hAW w (inq_7 w h)) hown hK rfl (by decide) (hts _ (hAW _ qw_564)) rfl (by decide +kernel))))))
    (ms_b (ms_b (ms_lf (ms_iconst hx hb (by decide) (by decide +kernel)))
    (ms_b (ms_lf (ms_bipush hx hb (by decide) (by decide +kernel)))
    (ms_lf (ms_ac hx hb hml hf hA hown (hts _ (hAW _ qw_847)) (hts _ (hAW _ qw_408)) (hts _ (hAW _ qw_407)) (hts _ (hAW _ qw_128)) (by omega) (by rw [hRl]; simp [nativeFrameWords]; omega) (by decide +kernel)))))
    (ms_b (ms_lf (ms_aload_n hx hb rfl (by decide +kernel)))
    (ms_b (ms_lf (ms_getf (C := RX7) (T := TX7) (N := 7) hx hb hf hts (fun w h => hAW w (inq_7 w h)) hown hK rfl (by decide) (hts _ (hAW _ qw_567)) rfl (by decide +kernel)))
    (ms_lf (ms_iconst hx hb (by decide) (by decide +kernel)))))))
    (ms_b (ms_b (ms_b (ms_lf (ms_aload_n hx hb rfl (by decide +kernel)))
    (ms_b (ms_lf (ms_getf (C := RX7) (T := TX7) (N := 7) hx hb hf hts (fun w h => hAW w (inq_7 w h)) hown hK rfl (by decide) (hts _ (hAW _ qw_567)) rfl (by decide +kernel)))
    (ms_lf (ms_iconst hx hb (by decide) (by decide +kernel)))))
    (ms_b (ms_lf (ms_iconst hx hb (by decide) (by decide +kernel)))
    (ms_b (ms_lf (ms_ac hx hb hml hf hA hown (hts _ (hAW _ qw_847)) (hts _ (hAW _ qw_408)) (hts _ (hAW _ qw_407)) (hts _ (hAW _ qw_128)) (by omega) (by rw [hRl]; simp [nativeFrameWords]; omega) (by decide +kernel)))
    (ms_lf (ms_aload_n hx hb rfl (by decide +kernel))))))
    (ms_b (ms_b (ms_lf (ms_getf (C := RX7) (T := TX7) (N := 7) hx hb hf hts (fun w h => hAW w (inq_7 w h)) hown hK rfl (by decide) (hts _ (hAW _ qw_571)) rfl (by decide +kernel)))
    (ms_b (ms_lf (ms_iconst hx hb (by decide) (by decide +kernel)))
    (ms_lf (ms_aload_n hx hb rfl (by decide +kernel)))))
    (ms_b (ms_lf (ms_getf (C := RX7) (T := TX7) (N := 7) hx hb hf hts (fun w h => hAW w (inq_7 w h)) hown hK rfl (by decide) (hts _ (hAW _ qw_571)) rfl (by decide +kernel)))
    (ms_b (ms_lf (ms_iconst hx hb (by decide) (by decide +kernel)))
    (ms_lf (ms_aload_n hx hb rfl (by decide +kernel))))))))
    (ms_b (ms_b (ms_b (ms_b (ms_lf (ms_getf (C := RX7) (T := TX7) (N := 7) hx hb hf hts (fun w h => hAW w (inq_7 w h)) hown hK rfl (by decide) (hts _ (hAW _ qw_571)) rfl (by decide +kernel)))
    (ms_b (ms_lf (ms_alen hx hb hf hA hX (by decide +kernel)))
    (ms_lf (ms_ac hx hb hml hf hA hown (hts _ (hAW _ qw_847)) (hts _ (hAW _ qw_408)) (hts _ (hAW _ qw_407)) (hts _ (hAW _ qw_128)) (by omega) (by rw [hRl]; simp [nativeFrameWords]; omega) (by decide +kernel)))))
    (ms_b (ms_lf (ms_aload_n hx hb rfl (by decide +kernel)))
    (ms_b (ms_lf (ms_getf (C := RX7) (T := TX7) (N := 7) hx hb hf hts (fun w h => hAW w (inq_7 w h)) hown hK rfl (by decide) (hts _ (hAW _ qw_575)) rfl (by decide +kernel)))
    (ms_lf (ms_iconst hx hb (by decide) (by decide +kernel))))))
    (ms_b (ms_b (ms_lf (ms_aload_n hx hb rfl (by decide +kernel)))
    (ms_b (ms_lf (ms_getf (C := RX7) (T := TX7) (N := 7) hx hb hf hts (fun w h => hAW w (inq_7 w h)) hown hK rfl (by decide) (hts _ (hAW _ qw_575)) rfl (by decide +kernel)))
    (ms_lf (ms_iconst hx hb (by decide) (by decide +kernel)))))
    (ms_b (ms_lf (ms_iconst hx hb (by decide) (by decide +kernel)))
    (ms_b (ms_lf (ms_ac hx hb hml hf hA hown (hts _ (hAW _ qw_847)) (hts _ (hAW _ qw_408)) (hts _ (hAW _ qw_407)) (hts _ (hAW _ qw_128)) (by omega) (by rw [hRl]; simp [nativeFrameWords]; omega) (by decide +kernel)))
    (ms_lf (ms_aload_n hx hb rfl (by decide +kernel)))))))
    (ms_b (ms_b (ms_b (ms_lf (ms_aload_n hx hb rfl (by decide +kernel)))
    (ms_b (ms_lf (ms_getf (C := RX7) (T := TX7) (N := 7) hx hb hf hts (fun w h => hAW w (inq_7 w h)) hown hK rfl (by decide) (hts _ (hAW _ qw_578)) rfl (by decide +kernel)))
    (ms_lf (ms_put (C := RX7) (T := TX7) (N := 7) hx hb hf hts (fun w h => hAW w (inq_7 w h)) tyX7 tyX7_ok nmX7 hown hK rfl (by decide) (hts _ (hAW _ qw_578)) rfl rfl rfl (by decide +kernel)))))
    (ms_b (ms_lf (ms_aload_n hx hb rfl (by decide +kernel)))
    (ms_b (ms_lf (ms_aload_n hx hb rfl (by decide +kernel)))
    (ms_lf (ms_getf (C := RX7) (T := TX7) (N := 7) hx hb hf hts (fun w h => hAW w (inq_7 w h)) hown hK rfl (by decide) (hts _ (hAW _ qw_580)) rfl (by decide +kernel))))))
    (ms_b (ms_b (ms_lf (ms_put (C := RX7) (T := TX7) (N := 7) hx hb hf hts (fun w h => hAW w (inq_7 w h)) tyX7 tyX7_ok nmX7 hown hK rfl (by decide) (hts _ (hAW _ qw_580)) rfl rfl rfl (by decide +kernel)))
    (ms_b (ms_lf (ms_aload_n hx hb rfl (by decide +kernel)))
    (ms_lf (ms_aload_n hx hb rfl (by decide +kernel)))))
    (ms_b (ms_lf (ms_getf (C := RX7) (T := TX7) (N := 7) hx hb hf hts (fun w h => hAW w (inq_7 w h)) hown hK rfl (by decide) (hts _ (hAW _ qw_583)) rfl (by decide +kernel)))
    (ms_b (ms_lf (ms_put (C := RX7) (T := TX7) (N := 7) hx hb hf hts (fun w h => hAW w (inq_7 w h)) tyX7 tyX7_ok nmX7 hown hK rfl (by decide) (hts _ (hAW _ qw_583)) rfl rfl rfl (by decide +kernel)))
    (ms_lf (ms_ret hx hb hr hlk (by decide +kernel)))))))))
set_option maxRecDepth 100000 in
set_option maxHeartbeats 8000000 in
/-- TippedCrates$State.crateOn -/
theorem sd_77 (l : Launch) (f : Nat → Nat) (D : va_G) (cA : FieldType → ClassId) (d : Nat) : mm_Ok2 l f D cA d (yX7_crateOn, cX7_crateOn, 3, (some .int), mc_77) := by
  intro p e R s m args below meth c C hRf hRl pc
  obtain ⟨hx, hb, hml, hr, hlk, hnm, hown, hts, hEX, hgo, hf⟩ := C
  obtain ⟨hK, hA, hX, hZs, hZc, hZq, hTx, hSR0, hSR1, hAO, hN⟩ := id hEX
  have hAW : ∀ w ∈ mm_AW, w ∈ (Cond.code yX7_crateOn cX7_crateOn 3 (some .int) :: mm_AW) := fun w h => List.mem_cons_of_mem _ h
  have hown : s.vm.findClass "TippedCrates$State" = some m.cls := hown
  show mm_S p l e R s m args below meth c f D mm_cl cA 3 _ pc (mc_77 pc)
  unfold mc_77
  exact (ms_b (ms_b (ms_b (ms_b (ms_lf (ms_iconst hx hb (by decide) (by decide +kernel)))
    (ms_lf (ms_istore_n hx hb rfl (by decide : 2 < 3) (by decide +kernel))))
    (ms_b (ms_lf (ms_iload_n hx hb rfl (by decide +kernel)))
    (ms_lf (ms_aload_n hx hb rfl (by decide +kernel)))))
    (ms_b (ms_b (ms_lf (ms_getf (C := RX7) (T := TX7) (N := 7) hx hb hf hts (fun w h => hAW w (inq_7 w h)) hown hK rfl (by decide) (hts _ (hAW _ qw_578)) rfl (by decide +kernel)))
    (ms_lf (ms_ic_ge hx hb (by decide) (by decide +kernel))))
    (ms_b (ms_lf (ms_aload_n hx hb rfl (by decide +kernel)))
    (ms_b (ms_lf (ms_getf (C := RX7) (T := TX7) (N := 7) hx hb hf hts (fun w h => hAW w (inq_7 w h)) hown hK rfl (by decide) (hts _ (hAW _ qw_567)) rfl (by decide +kernel)))
    (ms_lf (ms_iload_n hx hb rfl (by decide +kernel)))))))
    (ms_b (ms_b (ms_b (ms_lf (ms_iald hx hb hf hA hX (by decide +kernel)))
    (ms_lf (ms_iload_n hx hb rfl (by decide +kernel))))
    (ms_b (ms_lf (ms_ic_ne hx hb (by decide) (by decide +kernel)))
    (ms_lf (ms_iload_n hx hb rfl (by decide +kernel)))))
    (ms_b (ms_b (ms_lf (ms_iret hx hb hr hlk (by decide +kernel)))
    (ms_lf (ms_iinc hx hb (by decide) (by decide : 2 < 3) (by decide +kernel))))
    (ms_b (ms_lf (ms_goto hx hb (by decide) (by decide +kernel)))
    (ms_b (ms_lf (ms_iconst hx hb (by decide) (by decide +kernel)))
    (ms_lf (ms_iret hx hb hr hlk (by decide +kernel))))))))
set_option maxRecDepth 100000 in
set_option maxHeartbeats 8000000 in
/-- TippedCrates$State.topOf -/
theorem sd_78 (l : Launch) (f : Nat → Nat) (D : va_G) (cA : FieldType → ClassId) (d : Nat) : mm_Ok2 l f D cA d (yX7_topOf, cX7_topOf, 2, (some .int), mc_78) := by
  intro p e R s m args below meth c C hRf hRl pc
  obtain ⟨hx, hb, hml, hr, hlk, hnm, hown, hts, hEX, hgo, hf⟩ := C
  obtain ⟨hK, hA, hX, hZs, hZc, hZq, hTx, hSR0, hSR1, hAO, hN⟩ := id hEX
  have hAW : ∀ w ∈ mm_AW, w ∈ (Cond.code yX7_topOf cX7_topOf 2 (some .int) :: mm_AW) := fun w h => List.mem_cons_of_mem _ h
  have hown : s.vm.findClass "TippedCrates$State" = some m.cls := hown
  show mm_S p l e R s m args below meth c f D mm_cl cA 2 _ pc (mc_78 pc)
  unfold mc_78
  exact (ms_b (ms_b (ms_b (ms_lf (ms_aload_n hx hb rfl (by decide +kernel)))
    (ms_lf (ms_getf (C := RX7) (T := TX7) (N := 7) hx hb hf hts (fun w h => hAW w (inq_7 w h)) hown hK rfl (by decide) (hts _ (hAW _ qw_571)) rfl (by decide +kernel))))
    (ms_b (ms_lf (ms_iload_n hx hb rfl (by decide +kernel)))
    (ms_lf (ms_bipush hx hb (by decide) (by decide +kernel)))))
    (ms_b (ms_b (ms_lf (ms_imul hx hb (by decide +kernel)))
    (ms_lf (ms_iconst hx hb (by decide) (by decide +kernel))))
    (ms_b (ms_lf (ms_iadd hx hb (by decide +kernel)))
    (ms_b (ms_lf (ms_iald hx hb hf hA hX (by decide +kernel)))
    (ms_lf (ms_iret hx hb hr hlk (by decide +kernel)))))))
set_option maxRecDepth 100000 in
set_option maxHeartbeats 8000000 in
/-- TippedCrates$State.markedFlags -/
theorem sd_79 (l : Launch) (f : Nat → Nat) (D : va_G) (cA : FieldType → ClassId) (d : Nat) : mm_Ok2 l f D cA d (yX7_markedFlags, cX7_markedFlags, 3, (some .int), mc_79) := by
  intro p e R s m args below meth c C hRf hRl pc
  obtain ⟨hx, hb, hml, hr, hlk, hnm, hown, hts, hEX, hgo, hf⟩ := C
  obtain ⟨hK, hA, hX, hZs, hZc, hZq, hTx, hSR0, hSR1, hAO, hN⟩ := id hEX
  have hAW : ∀ w ∈ mm_AW, w ∈ (Cond.code yX7_markedFlags cX7_markedFlags 3 (some .int) :: mm_AW) := fun w h => List.mem_cons_of_mem _ h
  have hown : s.vm.findClass "TippedCrates$State" = some m.cls := hown
  show mm_S p l e R s m args below meth c f D mm_cl cA 3 _ pc (mc_79 pc)
  unfold mc_79
  exact (ms_b (ms_b (ms_b (ms_b (ms_lf (ms_iconst hx hb (by decide) (by decide +kernel)))
    (ms_lf (ms_istore_n hx hb rfl (by decide : 1 < 3) (by decide +kernel))))
    (ms_b (ms_lf (ms_iconst hx hb (by decide) (by decide +kernel)))
    (ms_b (ms_lf (ms_istore_n hx hb rfl (by decide : 2 < 3) (by decide +kernel)))
    (ms_lf (ms_iload_n hx hb rfl (by decide +kernel))))))
    (ms_b (ms_b (ms_lf (ms_bipush hx hb (by decide) (by decide +kernel)))
    (ms_b (ms_lf (ms_ic_ge hx hb (by decide) (by decide +kernel)))
    (ms_lf (ms_aload_n hx hb rfl (by decide +kernel)))))
    (ms_b (ms_lf (ms_getf (C := RX7) (T := TX7) (N := 7) hx hb hf hts (fun w h => hAW w (inq_7 w h)) hown hK rfl (by decide) (hts _ (hAW _ qw_564)) rfl (by decide +kernel)))
    (ms_b (ms_lf (ms_iload_n hx hb rfl (by decide +kernel)))
    (ms_lf (ms_iald hx hb hf hA hX (by decide +kernel)))))))
    (ms_b (ms_b (ms_b (ms_lf (ms_if_le hx hb (by decide) (by decide +kernel)))
    (ms_lf (ms_iload_n hx hb rfl (by decide +kernel))))
    (ms_b (ms_lf (ms_iconst hx hb (by decide) (by decide +kernel)))
    (ms_b (ms_lf (ms_iload_n hx hb rfl (by decide +kernel)))
    (ms_lf (ms_ishl hx hb (by decide +kernel))))))
    (ms_b (ms_b (ms_lf (ms_ior hx hb (by decide +kernel)))
    (ms_b (ms_lf (ms_istore_n hx hb rfl (by decide : 1 < 3) (by decide +kernel)))
    (ms_lf (ms_iinc hx hb (by decide) (by decide : 2 < 3) (by decide +kernel)))))
    (ms_b (ms_lf (ms_goto hx hb (by decide) (by decide +kernel)))
    (ms_b (ms_lf (ms_iload_n hx hb rfl (by decide +kernel)))
    (ms_lf (ms_iret hx hb hr hlk (by decide +kernel))))))))
set_option maxRecDepth 100000 in
set_option maxHeartbeats 8000000 in
/-- TippedCrates$State.sumOfMarks -/
theorem sd_80 (l : Launch) (f : Nat → Nat) (D : va_G) (cA : FieldType → ClassId) (d : Nat) : mm_Ok2 l f D cA d (yX7_sumOfMarks, cX7_sumOfMarks, 6, (some .int), mc_80) := by
  intro p e R s m args below meth c C hRf hRl pc
  obtain ⟨hx, hb, hml, hr, hlk, hnm, hown, hts, hEX, hgo, hf⟩ := C
  obtain ⟨hK, hA, hX, hZs, hZc, hZq, hTx, hSR0, hSR1, hAO, hN⟩ := id hEX
  have hAW : ∀ w ∈ mm_AW, w ∈ (Cond.code yX7_sumOfMarks cX7_sumOfMarks 6 (some .int) :: mm_AW) := fun w h => List.mem_cons_of_mem _ h
  have hown : s.vm.findClass "TippedCrates$State" = some m.cls := hown
  show mm_S p l e R s m args below meth c f D mm_cl cA 6 _ pc (mc_80 pc)
  unfold mc_80
  exact (ms_b (ms_b (ms_b (ms_b (ms_lf (ms_iconst hx hb (by decide) (by decide +kernel)))
    (ms_b (ms_lf (ms_istore_n hx hb rfl (by decide : 1 < 6) (by decide +kernel)))
    (ms_lf (ms_aload_n hx hb rfl (by decide +kernel)))))
    (ms_b (ms_lf (ms_getf (C := RX7) (T := TX7) (N := 7) hx hb hf hts (fun w h => hAW w (inq_7 w h)) hown hK rfl (by decide) (hts _ (hAW _ qw_564)) rfl (by decide +kernel)))
    (ms_b (ms_lf (ms_astore_n hx hb rfl (by decide : 2 < 6) (by decide +kernel)))
    (ms_lf (ms_aload_n hx hb rfl (by decide +kernel))))))
    (ms_b (ms_b (ms_lf (ms_alen hx hb hf hA hX (by decide +kernel)))
    (ms_b (ms_lf (ms_istore_n hx hb rfl (by decide : 3 < 6) (by decide +kernel)))
    (ms_lf (ms_iconst hx hb (by decide) (by decide +kernel)))))
    (ms_b (ms_lf (ms_istore hx hb (by decide : 4 < 6) (by decide +kernel)))
    (ms_b (ms_lf (ms_iload hx hb (by decide +kernel)))
    (ms_lf (ms_iload_n hx hb rfl (by decide +kernel)))))))
    (ms_b (ms_b (ms_b (ms_lf (ms_ic_ge hx hb (by decide) (by decide +kernel)))
    (ms_b (ms_lf (ms_aload_n hx hb rfl (by decide +kernel)))
    (ms_lf (ms_iload hx hb (by decide +kernel)))))
    (ms_b (ms_lf (ms_iald hx hb hf hA hX (by decide +kernel)))
    (ms_b (ms_lf (ms_istore hx hb (by decide : 5 < 6) (by decide +kernel)))
    (ms_lf (ms_iload_n hx hb rfl (by decide +kernel))))))
    (ms_b (ms_b (ms_lf (ms_iload hx hb (by decide +kernel)))
    (ms_b (ms_lf (ms_iadd hx hb (by decide +kernel)))
    (ms_lf (ms_istore_n hx hb rfl (by decide : 1 < 6) (by decide +kernel)))))
    (ms_b (ms_b (ms_lf (ms_iinc hx hb (by decide) (by decide : 4 < 6) (by decide +kernel)))
    (ms_lf (ms_goto hx hb (by decide) (by decide +kernel))))
    (ms_b (ms_lf (ms_iload_n hx hb rfl (by decide +kernel)))
    (ms_lf (ms_iret hx hb hr hlk (by decide +kernel))))))))
set_option maxRecDepth 100000 in
set_option maxHeartbeats 8000000 in
/-- TippedCrates$State.greatestMark -/
theorem sd_81 (l : Launch) (f : Nat → Nat) (D : va_G) (cA : FieldType → ClassId) (d : Nat) : mm_Ok2 l f D cA d (yX7_greatestMark, cX7_greatestMark, 6, (some .int), mc_81) := by
  intro p e R s m args below meth c C hRf hRl pc
  obtain ⟨hx, hb, hml, hr, hlk, hnm, hown, hts, hEX, hgo, hf⟩ := C
  obtain ⟨hK, hA, hX, hZs, hZc, hZq, hTx, hSR0, hSR1, hAO, hN⟩ := id hEX
  have hAW : ∀ w ∈ mm_AW, w ∈ (Cond.code yX7_greatestMark cX7_greatestMark 6 (some .int) :: mm_AW) := fun w h => List.mem_cons_of_mem _ h
  have hown : s.vm.findClass "TippedCrates$State" = some m.cls := hown
  show mm_S p l e R s m args below meth c f D mm_cl cA 6 _ pc (mc_81 pc)
  unfold mc_81
  exact (ms_b (ms_b (ms_b (ms_b (ms_lf (ms_iconst hx hb (by decide) (by decide +kernel)))
    (ms_b (ms_lf (ms_istore_n hx hb rfl (by decide : 1 < 6) (by decide +kernel)))
    (ms_lf (ms_aload_n hx hb rfl (by decide +kernel)))))
    (ms_b (ms_lf (ms_getf (C := RX7) (T := TX7) (N := 7) hx hb hf hts (fun w h => hAW w (inq_7 w h)) hown hK rfl (by decide) (hts _ (hAW _ qw_564)) rfl (by decide +kernel)))
    (ms_b (ms_lf (ms_astore_n hx hb rfl (by decide : 2 < 6) (by decide +kernel)))
    (ms_lf (ms_aload_n hx hb rfl (by decide +kernel))))))
    (ms_b (ms_b (ms_lf (ms_alen hx hb hf hA hX (by decide +kernel)))
    (ms_b (ms_lf (ms_istore_n hx hb rfl (by decide : 3 < 6) (by decide +kernel)))
    (ms_lf (ms_iconst hx hb (by decide) (by decide +kernel)))))
    (ms_b (ms_lf (ms_istore hx hb (by decide : 4 < 6) (by decide +kernel)))
    (ms_b (ms_lf (ms_iload hx hb (by decide +kernel)))
    (ms_lf (ms_iload_n hx hb rfl (by decide +kernel)))))))
    (ms_b (ms_b (ms_b (ms_lf (ms_ic_ge hx hb (by decide) (by decide +kernel)))
    (ms_b (ms_lf (ms_aload_n hx hb rfl (by decide +kernel)))
    (ms_lf (ms_iload hx hb (by decide +kernel)))))
    (ms_b (ms_lf (ms_iald hx hb hf hA hX (by decide +kernel)))
    (ms_b (ms_lf (ms_istore hx hb (by decide : 5 < 6) (by decide +kernel)))
    (ms_lf (ms_iload_n hx hb rfl (by decide +kernel))))))
    (ms_b (ms_b (ms_lf (ms_iload hx hb (by decide +kernel)))
    (ms_b (ms_lf (ms_ivS hx hb hml hown hts hgo hEX (mm_GS hAW (mm_GI hAW gi_288) qw_1366 qw_688 qw_134) rfl hd_288 (mm_rm hRf hRl (Nat.le_of_ble_eq_true rfl)) (by decide +kernel)))
    (ms_lf (ms_istore_n hx hb rfl (by decide : 1 < 6) (by decide +kernel)))))
    (ms_b (ms_b (ms_lf (ms_iinc hx hb (by decide) (by decide : 4 < 6) (by decide +kernel)))
    (ms_lf (ms_goto hx hb (by decide) (by decide +kernel))))
    (ms_b (ms_lf (ms_iload_n hx hb rfl (by decide +kernel)))
    (ms_lf (ms_iret hx hb hr hlk (by decide +kernel))))))))
set_option maxRecDepth 100000 in
set_option maxHeartbeats 8000000 in
/-- TippedCrates$State.allTips -/
theorem sd_82 (l : Launch) (f : Nat → Nat) (D : va_G) (cA : FieldType → ClassId) (d : Nat) : mm_Ok2 l f D cA d (yX7_allTips, cX7_allTips, 6, (some .int), mc_82) := by
  intro p e R s m args below meth c C hRf hRl pc
  obtain ⟨hx, hb, hml, hr, hlk, hnm, hown, hts, hEX, hgo, hf⟩ := C
  obtain ⟨hK, hA, hX, hZs, hZc, hZq, hTx, hSR0, hSR1, hAO, hN⟩ := id hEX
  have hAW : ∀ w ∈ mm_AW, w ∈ (Cond.code yX7_allTips cX7_allTips 6 (some .int) :: mm_AW) := fun w h => List.mem_cons_of_mem _ h
  have hown : s.vm.findClass "TippedCrates$State" = some m.cls := hown
  show mm_S p l e R s m args below meth c f D mm_cl cA 6 _ pc (mc_82 pc)
  unfold mc_82
  exact (ms_b (ms_b (ms_b (ms_b (ms_lf (ms_iconst hx hb (by decide) (by decide +kernel)))
    (ms_b (ms_lf (ms_istore_n hx hb rfl (by decide : 1 < 6) (by decide +kernel)))
    (ms_lf (ms_aload_n hx hb rfl (by decide +kernel)))))
    (ms_b (ms_lf (ms_getf (C := RX7) (T := TX7) (N := 7) hx hb hf hts (fun w h => hAW w (inq_7 w h)) hown hK rfl (by decide) (hts _ (hAW _ qw_575)) rfl (by decide +kernel)))
    (ms_b (ms_lf (ms_astore_n hx hb rfl (by decide : 2 < 6) (by decide +kernel)))
    (ms_lf (ms_aload_n hx hb rfl (by decide +kernel))))))
    (ms_b (ms_b (ms_lf (ms_alen hx hb hf hA hX (by decide +kernel)))
    (ms_b (ms_lf (ms_istore_n hx hb rfl (by decide : 3 < 6) (by decide +kernel)))
    (ms_lf (ms_iconst hx hb (by decide) (by decide +kernel)))))
    (ms_b (ms_lf (ms_istore hx hb (by decide : 4 < 6) (by decide +kernel)))
    (ms_b (ms_lf (ms_iload hx hb (by decide +kernel)))
    (ms_lf (ms_iload_n hx hb rfl (by decide +kernel)))))))
    (ms_b (ms_b (ms_b (ms_lf (ms_ic_ge hx hb (by decide) (by decide +kernel)))
    (ms_b (ms_lf (ms_aload_n hx hb rfl (by decide +kernel)))
    (ms_lf (ms_iload hx hb (by decide +kernel)))))
    (ms_b (ms_lf (ms_iald hx hb hf hA hX (by decide +kernel)))
    (ms_b (ms_lf (ms_istore hx hb (by decide : 5 < 6) (by decide +kernel)))
    (ms_lf (ms_iload_n hx hb rfl (by decide +kernel))))))
    (ms_b (ms_b (ms_lf (ms_iload hx hb (by decide +kernel)))
    (ms_b (ms_lf (ms_iadd hx hb (by decide +kernel)))
    (ms_lf (ms_istore_n hx hb rfl (by decide : 1 < 6) (by decide +kernel)))))
    (ms_b (ms_b (ms_lf (ms_iinc hx hb (by decide) (by decide : 4 < 6) (by decide +kernel)))
    (ms_lf (ms_goto hx hb (by decide) (by decide +kernel))))
    (ms_b (ms_lf (ms_iload_n hx hb rfl (by decide +kernel)))
    (ms_lf (ms_iret hx hb hr hlk (by decide +kernel))))))))
set_option maxRecDepth 100000 in
set_option maxHeartbeats 8000000 in
/-- TippedCrates$State.flagsWithCrates -/
theorem sd_83 (l : Launch) (f : Nat → Nat) (D : va_G) (cA : FieldType → ClassId) (d : Nat) : mm_Ok2 l f D cA d (yX7_flagsWithCrates, cX7_flagsWithCrates, 3, (some .int), mc_83) := by
  intro p e R s m args below meth c C hRf hRl pc
  obtain ⟨hx, hb, hml, hr, hlk, hnm, hown, hts, hEX, hgo, hf⟩ := C
  obtain ⟨hK, hA, hX, hZs, hZc, hZq, hTx, hSR0, hSR1, hAO, hN⟩ := id hEX
  have hAW : ∀ w ∈ mm_AW, w ∈ (Cond.code yX7_flagsWithCrates cX7_flagsWithCrates 3 (some .int) :: mm_AW) := fun w h => List.mem_cons_of_mem _ h
  have hown : s.vm.findClass "TippedCrates$State" = some m.cls := hown
  show mm_S p l e R s m args below meth c f D mm_cl cA 3 _ pc (mc_83 pc)
  unfold mc_83
  exact (ms_b (ms_b (ms_b (ms_b (ms_lf (ms_iconst hx hb (by decide) (by decide +kernel)))
    (ms_lf (ms_istore_n hx hb rfl (by decide : 1 < 3) (by decide +kernel))))
    (ms_b (ms_lf (ms_iconst hx hb (by decide) (by decide +kernel)))
    (ms_b (ms_lf (ms_istore_n hx hb rfl (by decide : 2 < 3) (by decide +kernel)))
    (ms_lf (ms_iload_n hx hb rfl (by decide +kernel))))))
    (ms_b (ms_b (ms_lf (ms_aload_n hx hb rfl (by decide +kernel)))
    (ms_lf (ms_getf (C := RX7) (T := TX7) (N := 7) hx hb hf hts (fun w h => hAW w (inq_7 w h)) hown hK rfl (by decide) (hts _ (hAW _ qw_578)) rfl (by decide +kernel))))
    (ms_b (ms_lf (ms_ic_ge hx hb (by decide) (by decide +kernel)))
    (ms_b (ms_lf (ms_iload_n hx hb rfl (by decide +kernel)))
    (ms_lf (ms_iconst hx hb (by decide) (by decide +kernel)))))))
    (ms_b (ms_b (ms_b (ms_lf (ms_aload_n hx hb rfl (by decide +kernel)))
    (ms_lf (ms_getf (C := RX7) (T := TX7) (N := 7) hx hb hf hts (fun w h => hAW w (inq_7 w h)) hown hK rfl (by decide) (hts _ (hAW _ qw_567)) rfl (by decide +kernel))))
    (ms_b (ms_lf (ms_iload_n hx hb rfl (by decide +kernel)))
    (ms_b (ms_lf (ms_iald hx hb hf hA hX (by decide +kernel)))
    (ms_lf (ms_ishl hx hb (by decide +kernel))))))
    (ms_b (ms_b (ms_lf (ms_ior hx hb (by decide +kernel)))
    (ms_b (ms_lf (ms_istore_n hx hb rfl (by decide : 1 < 3) (by decide +kernel)))
    (ms_lf (ms_iinc hx hb (by decide) (by decide : 2 < 3) (by decide +kernel)))))
    (ms_b (ms_lf (ms_goto hx hb (by decide) (by decide +kernel)))
    (ms_b (ms_lf (ms_iload_n hx hb rfl (by decide +kernel)))
    (ms_lf (ms_iret hx hb hr hlk (by decide +kernel))))))))
set_option maxRecDepth 100000 in
set_option maxHeartbeats 8000000 in
/-- TippedCrates$State.sumOfTops -/
theorem sd_84 (l : Launch) (f : Nat → Nat) (D : va_G) (cA : FieldType → ClassId) (d : Nat) : mm_Ok2 l f D cA d (yX7_sumOfTops, cX7_sumOfTops, 3, (some .int), mc_84) := by
  intro p e R s m args below meth c C hRf hRl pc
  obtain ⟨hx, hb, hml, hr, hlk, hnm, hown, hts, hEX, hgo, hf⟩ := C
  obtain ⟨hK, hA, hX, hZs, hZc, hZq, hTx, hSR0, hSR1, hAO, hN⟩ := id hEX
  have hAW : ∀ w ∈ mm_AW, w ∈ (Cond.code yX7_sumOfTops cX7_sumOfTops 3 (some .int) :: mm_AW) := fun w h => List.mem_cons_of_mem _ h
  have hown : s.vm.findClass "TippedCrates$State" = some m.cls := hown
  show mm_S p l e R s m args below meth c f D mm_cl cA 3 _ pc (mc_84 pc)
  unfold mc_84
  exact (ms_b (ms_b (ms_b (ms_b (ms_lf (ms_iconst hx hb (by decide) (by decide +kernel)))
    (ms_lf (ms_istore_n hx hb rfl (by decide : 1 < 3) (by decide +kernel))))
    (ms_b (ms_lf (ms_iconst hx hb (by decide) (by decide +kernel)))
    (ms_lf (ms_istore_n hx hb rfl (by decide : 2 < 3) (by decide +kernel)))))
    (ms_b (ms_b (ms_lf (ms_iload_n hx hb rfl (by decide +kernel)))
    (ms_lf (ms_aload_n hx hb rfl (by decide +kernel))))
    (ms_b (ms_lf (ms_getf (C := RX7) (T := TX7) (N := 7) hx hb hf hts (fun w h => hAW w (inq_7 w h)) hown hK rfl (by decide) (hts _ (hAW _ qw_578)) rfl (by decide +kernel)))
    (ms_b (ms_lf (ms_ic_ge hx hb (by decide) (by decide +kernel)))
    (ms_lf (ms_iload_n hx hb rfl (by decide +kernel)))))))
    (ms_b (ms_b (ms_b (ms_lf (ms_aload_n hx hb rfl (by decide +kernel)))
    (ms_lf (ms_iload_n hx hb rfl (by decide +kernel))))
    (ms_b (ms_lf (ms_ivV (C := RX7) (T := TX7) (N := 7) hx hb hml hown hts hgo hEX hf hK rfl (mm_GV hAW (mm_GI hAW gi_78) qw_1375 qw_1256 qw_1257 qw_133) rfl ⟨rfl, hd_78⟩ (mm_rm hRf hRl (Nat.le_of_ble_eq_true rfl)) (by decide +kernel)))
    (ms_lf (ms_iadd hx hb (by decide +kernel)))))
    (ms_b (ms_b (ms_lf (ms_istore_n hx hb rfl (by decide : 1 < 3) (by decide +kernel)))
    (ms_lf (ms_iinc hx hb (by decide) (by decide : 2 < 3) (by decide +kernel))))
    (ms_b (ms_lf (ms_goto hx hb (by decide) (by decide +kernel)))
    (ms_b (ms_lf (ms_iload_n hx hb rfl (by decide +kernel)))
    (ms_lf (ms_iret hx hb hr hlk (by decide +kernel))))))))
set_option maxRecDepth 100000 in
set_option maxHeartbeats 8000000 in
/-- TippedCrates$Tape.<init> -/
theorem sd_85 (l : Launch) (f : Nat → Nat) (D : va_G) (cA : FieldType → ClassId) (d : Nat) : mm_Ok2 l f D cA d (yX8_init, cX8_init, 6, none, mc_85) := by
  intro p e R s m args below meth c C hRf hRl pc
  obtain ⟨hx, hb, hml, hr, hlk, hnm, hown, hts, hEX, hgo, hf⟩ := C
  obtain ⟨hK, hA, hX, hZs, hZc, hZq, hTx, hSR0, hSR1, hAO, hN⟩ := id hEX
  have hAW : ∀ w ∈ mm_AW, w ∈ (Cond.code yX8_init cX8_init 6 none :: mm_AW) := fun w h => List.mem_cons_of_mem _ h
  have hown : s.vm.findClass "TippedCrates$Tape" = some m.cls := hown
  show mm_S p l e R s m args below meth c f D mm_cl cA 6 _ pc (mc_85 pc)
  unfold mc_85
  exact (ms_b (ms_b (ms_b (ms_b (ms_b (ms_lf (ms_aload_n hx hb rfl (by decide +kernel)))
    (ms_b (ms_lf (ms_oi hx hb hml hown (hts _ (hAW _ qw_151)) (hts _ (hAW _ qw_144)) (hts _ (hAW _ qw_145)) (by omega) (by omega) (by decide +kernel)))
    (ms_lf (ms_aload_n hx hb rfl (by decide +kernel)))))
    (ms_b (ms_b (ms_lf (ms_sipush hx hb (by decide) (by decide +kernel)))
    (ms_lf (ms_na hx hb hf hA rfl (hts _ (hAW _ qw_233)) rfl rfl rfl (by decide) (by decide +kernel))))
    (ms_b (ms_lf (ms_putF (C := RX8) (T := TX8) (N := 7) hx hb hf hts (fun w h => hAW w (inq_8 w h)) tyX8 tyX8_ok nmX8 hown hK rfl (by decide) (hts _ (hAW _ qw_209)) rfl rfl hnm rfl rfl (by decide +kernel)))
    (ms_lf (ms_aload_n hx hb rfl (by decide +kernel))))))
    (ms_b (ms_b (ms_lf (ms_sipush hx hb (by decide) (by decide +kernel)))
    (ms_b (ms_lf (ms_na hx hb hf hA rfl (hts _ (hAW _ qw_233)) rfl rfl rfl (by decide) (by decide +kernel)))
    (ms_lf (ms_putF (C := RX8) (T := TX8) (N := 7) hx hb hf hts (fun w h => hAW w (inq_8 w h)) tyX8 tyX8_ok nmX8 hown hK rfl (by decide) (hts _ (hAW _ qw_211)) rfl rfl hnm rfl rfl (by decide +kernel)))))
    (ms_b (ms_b (ms_lf (ms_aload_n hx hb rfl (by decide +kernel)))
    (ms_lf (ms_sipush hx hb (by decide) (by decide +kernel))))
    (ms_b (ms_lf (ms_na hx hb hf hA rfl (hts _ (hAW _ qw_234)) rfl rfl rfl (by decide) (by decide +kernel)))
    (ms_lf (ms_putF (C := RX8) (T := TX8) (N := 7) hx hb hf hts (fun w h => hAW w (inq_8 w h)) tyX8 tyX8_ok nmX8 hown hK rfl (by decide) (hts _ (hAW _ qw_213)) rfl rfl hnm rfl rfl (by decide +kernel)))))))
    (ms_b (ms_b (ms_b (ms_lf (ms_aload_n hx hb rfl (by decide +kernel)))
    (ms_b (ms_lf (ms_sipush hx hb (by decide) (by decide +kernel)))
    (ms_lf (ms_na hx hb hf hA rfl (hts _ (hAW _ qw_235)) rfl rfl rfl (by decide) (by decide +kernel)))))
    (ms_b (ms_b (ms_lf (ms_putF (C := RX8) (T := TX8) (N := 7) hx hb hf hts (fun w h => hAW w (inq_8 w h)) tyX8 tyX8_ok nmX8 hown hK rfl (by decide) (hts _ (hAW _ qw_215)) rfl rfl hnm rfl rfl (by decide +kernel)))
    (ms_lf (ms_aload_n hx hb rfl (by decide +kernel))))
    (ms_b (ms_lf (ms_bipush hx hb (by decide) (by decide +kernel)))
    (ms_lf (ms_na hx hb hf hA rfl (hts _ (hAW _ qw_234)) rfl rfl rfl (by decide) (by decide +kernel))))))
    (ms_b (ms_b (ms_b (ms_lf (ms_putF (C := RX8) (T := TX8) (N := 7) hx hb hf hts (fun w h => hAW w (inq_8 w h)) tyX8 tyX8_ok nmX8 hown hK rfl (by decide) (hts _ (hAW _ qw_216)) rfl rfl hnm rfl rfl (by decide +kernel)))
    (ms_lf (ms_iconst hx hb (by decide) (by decide +kernel))))
    (ms_b (ms_lf (ms_istore_n hx hb rfl (by decide : 1 < 6) (by decide +kernel)))
    (ms_lf (ms_lconst hx hb (by decide) (by decide +kernel)))))
    (ms_b (ms_b (ms_lf (ms_lstore_n hx hb rfl (by decide : 2 + 1 < 6) (by decide +kernel)))
    (ms_lf (ms_iconst hx hb (by decide) (by decide +kernel))))
    (ms_b (ms_lf (ms_istore hx hb (by decide : 4 < 6) (by decide +kernel)))
    (ms_lf (ms_iload hx hb (by decide +kernel))))))))
    (ms_b (ms_b (ms_b (ms_b (ms_lf (ms_ldS hx hb hown hSR0 (by decide +kernel)))
    (ms_b (ms_lf (ms_ivX (SB := mm_sb) hx hb hml hown hts hgo hEX hTx (mm_GV hAW (mm_GI hAW gi_290) qw_153 qw_154 qw_155 qw_119) rfl ⟨rfl, hd_290⟩ (mm_rm hRf hRl (Nat.le_of_ble_eq_true rfl)) (by decide +kernel)))
    (ms_lf (ms_ic_ge hx hb (by decide) (by decide +kernel)))))
    (ms_b (ms_b (ms_lf (ms_ldS hx hb hown hSR0 (by decide +kernel)))
    (ms_lf (ms_iload hx hb (by decide +kernel))))
    (ms_b (ms_lf (ms_ivX (SB := mm_sb) hx hb hml hown hts hgo hEX hTx (mm_GV hAW (mm_GI hAW gi_291) qw_163 qw_164 qw_165 qw_119) rfl ⟨rfl, hd_291⟩ (mm_rm hRf hRl (Nat.le_of_ble_eq_true rfl)) (by decide +kernel)))
    (ms_lf (ms_istore hx hb (by decide : 5 < 6) (by decide +kernel))))))
    (ms_b (ms_b (ms_lf (ms_iload hx hb (by decide +kernel)))
    (ms_b (ms_lf (ms_bipush hx hb (by decide) (by decide +kernel)))
    (ms_lf (ms_ic_eq hx hb (by decide) (by decide +kernel)))))
    (ms_b (ms_b (ms_lf (ms_lload_n hx hb rfl (by decide +kernel)))
    (ms_lf (ms_iload hx hb (by decide +kernel))))
    (ms_b (ms_lf (ms_ivS hx hb hml hown hts hgo hEX (mm_GS hAW (mm_GI hAW gi_92) qw_201 qw_202 qw_118) rfl hd_92 (mm_rm hRf hRl (Nat.le_of_ble_eq_true rfl)) (by decide +kernel)))
    (ms_lf (ms_lstore_n hx hb rfl (by decide : 2 + 1 < 6) (by decide +kernel)))))))
    (ms_b (ms_b (ms_b (ms_lf (ms_goto hx hb (by decide) (by decide +kernel)))
    (ms_b (ms_lf (ms_iload_n hx hb rfl (by decide +kernel)))
    (ms_lf (ms_bipush hx hb (by decide) (by decide +kernel)))))
    (ms_b (ms_b (ms_lf (ms_ic_ge hx hb (by decide) (by decide +kernel)))
    (ms_lf (ms_aload_n hx hb rfl (by decide +kernel))))
    (ms_b (ms_lf (ms_getf (C := RX8) (T := TX8) (N := 7) hx hb hf hts (fun w h => hAW w (inq_8 w h)) hown hK rfl (by decide) (hts _ (hAW _ qw_216)) rfl (by decide +kernel)))
    (ms_lf (ms_iload_n hx hb rfl (by decide +kernel))))))
    (ms_b (ms_b (ms_b (ms_lf (ms_lload_n hx hb rfl (by decide +kernel)))
    (ms_lf (ms_last hx hb hf hA (by decide +kernel))))
    (ms_b (ms_lf (ms_iinc hx hb (by decide) (by decide : 1 < 6) (by decide +kernel)))
    (ms_lf (ms_lconst hx hb (by decide) (by decide +kernel)))))
    (ms_b (ms_b (ms_lf (ms_lstore_n hx hb rfl (by decide : 2 + 1 < 6) (by decide +kernel)))
    (ms_lf (ms_iinc hx hb (by decide) (by decide : 4 < 6) (by decide +kernel))))
    (ms_b (ms_lf (ms_goto hx hb (by decide) (by decide +kernel)))
    (ms_lf (ms_ret hx hb hr hlk (by decide +kernel)))))))))
set_option maxRecDepth 100000 in
set_option maxHeartbeats 8000000 in
/-- TippedCrates$Tape.push -/
theorem sd_86 (l : Launch) (f : Nat → Nat) (D : va_G) (cA : FieldType → ClassId) (d : Nat) : mm_Ok2 l f D cA d (yX8_push, cX8_push, 3, none, mc_86) := by
  intro p e R s m args below meth c C hRf hRl pc
  obtain ⟨hx, hb, hml, hr, hlk, hnm, hown, hts, hEX, hgo, hf⟩ := C
  obtain ⟨hK, hA, hX, hZs, hZc, hZq, hTx, hSR0, hSR1, hAO, hN⟩ := id hEX
  have hAW : ∀ w ∈ mm_AW, w ∈ (Cond.code yX8_push cX8_push 3 none :: mm_AW) := fun w h => List.mem_cons_of_mem _ h
  have hown : s.vm.findClass "TippedCrates$Tape" = some m.cls := hown
  show mm_S p l e R s m args below meth c f D mm_cl cA 3 _ pc (mc_86 pc)
  unfold mc_86
  exact (ms_b (ms_b (ms_b (ms_b (ms_lf (ms_bipush hx hb (by decide) (by decide +kernel)))
    (ms_b (ms_lf (ms_istore_n hx hb rfl (by decide : 2 < 3) (by decide +kernel)))
    (ms_lf (ms_iload_n hx hb rfl (by decide +kernel)))))
    (ms_b (ms_lf (ms_if_lt hx hb (by decide) (by decide +kernel)))
    (ms_b (ms_lf (ms_aload_n hx hb rfl (by decide +kernel)))
    (ms_lf (ms_getf (C := RX8) (T := TX8) (N := 7) hx hb hf hts (fun w h => hAW w (inq_8 w h)) hown hK rfl (by decide) (hts _ (hAW _ qw_207)) rfl (by decide +kernel))))))
    (ms_b (ms_b (ms_lf (ms_sipush hx hb (by decide) (by decide +kernel)))
    (ms_b (ms_lf (ms_ic_ge hx hb (by decide) (by decide +kernel)))
    (ms_lf (ms_aload_n hx hb rfl (by decide +kernel)))))
    (ms_b (ms_b (ms_lf (ms_getf (C := RX8) (T := TX8) (N := 7) hx hb hf hts (fun w h => hAW w (inq_8 w h)) hown hK rfl (by decide) (hts _ (hAW _ qw_215)) rfl (by decide +kernel)))
    (ms_lf (ms_aload_n hx hb rfl (by decide +kernel))))
    (ms_b (ms_lf (ms_getf (C := RX8) (T := TX8) (N := 7) hx hb hf hts (fun w h => hAW w (inq_8 w h)) hown hK rfl (by decide) (hts _ (hAW _ qw_207)) rfl (by decide +kernel)))
    (ms_lf (ms_iload_n hx hb rfl (by decide +kernel)))))))
    (ms_b (ms_b (ms_b (ms_lf (ms_iload_n hx hb rfl (by decide +kernel)))
    (ms_b (ms_lf (ms_ishr hx hb (by decide +kernel)))
    (ms_lf (ms_i2b hx hb (by decide +kernel)))))
    (ms_b (ms_lf (ms_bast hx hb hf hA (by decide +kernel)))
    (ms_b (ms_lf (ms_aload_n hx hb rfl (by decide +kernel)))
    (ms_lf (ms_dup hx hb (by decide +kernel))))))
    (ms_b (ms_b (ms_lf (ms_getf (C := RX8) (T := TX8) (N := 7) hx hb hf hts (fun w h => hAW w (inq_8 w h)) hown hK rfl (by decide) (hts _ (hAW _ qw_207)) rfl (by decide +kernel)))
    (ms_b (ms_lf (ms_iconst hx hb (by decide) (by decide +kernel)))
    (ms_lf (ms_iadd hx hb (by decide +kernel)))))
    (ms_b (ms_b (ms_lf (ms_put (C := RX8) (T := TX8) (N := 7) hx hb hf hts (fun w h => hAW w (inq_8 w h)) tyX8 tyX8_ok nmX8 hown hK rfl (by decide) (hts _ (hAW _ qw_207)) rfl rfl rfl (by decide +kernel)))
    (ms_lf (ms_iinc hx hb (by decide) (by decide : 2 < 3) (by decide +kernel))))
    (ms_b (ms_lf (ms_goto hx hb (by decide) (by decide +kernel)))
    (ms_lf (ms_ret hx hb hr hlk (by decide +kernel))))))))
set_option maxRecDepth 100000 in
set_option maxHeartbeats 8000000 in
/-- TippedCrates$Tape.cutIntoTokens -/
theorem sd_87 (l : Launch) (f : Nat → Nat) (D : va_G) (cA : FieldType → ClassId) (d : Nat) : mm_Ok2 l f D cA d (yX8_cutIntoTokens, cX8_cutIntoTokens, 2, none, mc_87) := by
  intro p e R s m args below meth c C hRf hRl pc
  obtain ⟨hx, hb, hml, hr, hlk, hnm, hown, hts, hEX, hgo, hf⟩ := C
  obtain ⟨hK, hA, hX, hZs, hZc, hZq, hTx, hSR0, hSR1, hAO, hN⟩ := id hEX
  have hAW : ∀ w ∈ mm_AW, w ∈ (Cond.code yX8_cutIntoTokens cX8_cutIntoTokens 2 none :: mm_AW) := fun w h => List.mem_cons_of_mem _ h
  have hown : s.vm.findClass "TippedCrates$Tape" = some m.cls := hown
  show mm_S p l e R s m args below meth c f D mm_cl cA 2 _ pc (mc_87 pc)
  unfold mc_87
  exact (ms_b (ms_b (ms_b (ms_b (ms_b (ms_lf (ms_aload_n hx hb rfl (by decide +kernel)))
    (ms_b (ms_lf (ms_iconst hx hb (by decide) (by decide +kernel)))
    (ms_lf (ms_put (C := RX8) (T := TX8) (N := 7) hx hb hf hts (fun w h => hAW w (inq_8 w h)) tyX8 tyX8_ok nmX8 hown hK rfl (by decide) (hts _ (hAW _ qw_217)) rfl rfl rfl (by decide +kernel)))))
    (ms_b (ms_lf (ms_iconst hx hb (by decide) (by decide +kernel)))
    (ms_b (ms_lf (ms_istore_n hx hb rfl (by decide : 1 < 2) (by decide +kernel)))
    (ms_lf (ms_iload_n hx hb rfl (by decide +kernel))))))
    (ms_b (ms_b (ms_lf (ms_sipush hx hb (by decide) (by decide +kernel)))
    (ms_b (ms_lf (ms_ic_gt hx hb (by decide) (by decide +kernel)))
    (ms_lf (ms_aload_n hx hb rfl (by decide +kernel)))))
    (ms_b (ms_lf (ms_getf (C := RX8) (T := TX8) (N := 7) hx hb hf hts (fun w h => hAW w (inq_8 w h)) hown hK rfl (by decide) (hts _ (hAW _ qw_217)) rfl (by decide +kernel)))
    (ms_b (ms_lf (ms_aload_n hx hb rfl (by decide +kernel)))
    (ms_lf (ms_getf (C := RX8) (T := TX8) (N := 7) hx hb hf hts (fun w h => hAW w (inq_8 w h)) hown hK rfl (by decide) (hts _ (hAW _ qw_207)) rfl (by decide +kernel)))))))
    (ms_b (ms_b (ms_b (ms_lf (ms_ic_ge hx hb (by decide) (by decide +kernel)))
    (ms_b (ms_lf (ms_aload_n hx hb rfl (by decide +kernel)))
    (ms_lf (ms_getf (C := RX8) (T := TX8) (N := 7) hx hb hf hts (fun w h => hAW w (inq_8 w h)) hown hK rfl (by decide) (hts _ (hAW _ qw_215)) rfl (by decide +kernel)))))
    (ms_b (ms_lf (ms_aload_n hx hb rfl (by decide +kernel)))
    (ms_b (ms_lf (ms_getf (C := RX8) (T := TX8) (N := 7) hx hb hf hts (fun w h => hAW w (inq_8 w h)) hown hK rfl (by decide) (hts _ (hAW _ qw_217)) rfl (by decide +kernel)))
    (ms_lf (ms_bald hx hb hf hA (by decide +kernel))))))
    (ms_b (ms_b (ms_lf (ms_ivS hx hb hml hown hts hgo hEX (mm_GS hAW (mm_GI hAW gi_93) qw_644 qw_645 qw_118) rfl hd_93 (mm_rm hRf hRl (Nat.le_of_ble_eq_true rfl)) (by decide +kernel)))
    (ms_b (ms_lf (ms_if_eq hx hb (by decide) (by decide +kernel)))
    (ms_lf (ms_aload_n hx hb rfl (by decide +kernel)))))
    (ms_b (ms_b (ms_lf (ms_dup hx hb (by decide +kernel)))
    (ms_lf (ms_getf (C := RX8) (T := TX8) (N := 7) hx hb hf hts (fun w h => hAW w (inq_8 w h)) hown hK rfl (by decide) (hts _ (hAW _ qw_217)) rfl (by decide +kernel))))
    (ms_b (ms_lf (ms_iconst hx hb (by decide) (by decide +kernel)))
    (ms_lf (ms_iadd hx hb (by decide +kernel))))))))
    (ms_b (ms_b (ms_b (ms_b (ms_lf (ms_put (C := RX8) (T := TX8) (N := 7) hx hb hf hts (fun w h => hAW w (inq_8 w h)) tyX8 tyX8_ok nmX8 hown hK rfl (by decide) (hts _ (hAW _ qw_217)) rfl rfl rfl (by decide +kernel)))
    (ms_b (ms_lf (ms_goto hx hb (by decide) (by decide +kernel)))
    (ms_lf (ms_aload_n hx hb rfl (by decide +kernel)))))
    (ms_b (ms_lf (ms_getf (C := RX8) (T := TX8) (N := 7) hx hb hf hts (fun w h => hAW w (inq_8 w h)) hown hK rfl (by decide) (hts _ (hAW _ qw_211)) rfl (by decide +kernel)))
    (ms_b (ms_lf (ms_iload_n hx hb rfl (by decide +kernel)))
    (ms_lf (ms_aload_n hx hb rfl (by decide +kernel))))))
    (ms_b (ms_b (ms_lf (ms_getf (C := RX8) (T := TX8) (N := 7) hx hb hf hts (fun w h => hAW w (inq_8 w h)) hown hK rfl (by decide) (hts _ (hAW _ qw_217)) rfl (by decide +kernel)))
    (ms_b (ms_lf (ms_iast hx hb hf hA (by decide +kernel)))
    (ms_lf (ms_aload_n hx hb rfl (by decide +kernel)))))
    (ms_b (ms_lf (ms_getf (C := RX8) (T := TX8) (N := 7) hx hb hf hts (fun w h => hAW w (inq_8 w h)) hown hK rfl (by decide) (hts _ (hAW _ qw_217)) rfl (by decide +kernel)))
    (ms_b (ms_lf (ms_aload_n hx hb rfl (by decide +kernel)))
    (ms_lf (ms_getf (C := RX8) (T := TX8) (N := 7) hx hb hf hts (fun w h => hAW w (inq_8 w h)) hown hK rfl (by decide) (hts _ (hAW _ qw_207)) rfl (by decide +kernel)))))))
    (ms_b (ms_b (ms_b (ms_lf (ms_ic_lt hx hb (by decide) (by decide +kernel)))
    (ms_b (ms_lf (ms_aload_n hx hb rfl (by decide +kernel)))
    (ms_lf (ms_getf (C := RX8) (T := TX8) (N := 7) hx hb hf hts (fun w h => hAW w (inq_8 w h)) hown hK rfl (by decide) (hts _ (hAW _ qw_209)) rfl (by decide +kernel)))))
    (ms_b (ms_lf (ms_iload_n hx hb rfl (by decide +kernel)))
    (ms_b (ms_lf (ms_bipush hx hb (by decide) (by decide +kernel)))
    (ms_lf (ms_iast hx hb hf hA (by decide +kernel))))))
    (ms_b (ms_b (ms_lf (ms_ret hx hb hr hlk (by decide +kernel)))
    (ms_b (ms_lf (ms_aload_n hx hb rfl (by decide +kernel)))
    (ms_lf (ms_iload_n hx hb rfl (by decide +kernel)))))
    (ms_b (ms_b (ms_lf (ms_ivV (C := RX8) (T := TX8) (N := 7) hx hb hml hown hts hgo hEX hf hK rfl (mm_GV hAW (mm_GI hAW gi_88) qw_647 qw_649 qw_2 qw_118) rfl ⟨rfl, hd_88⟩ (mm_rm hRf hRl (Nat.le_of_ble_eq_true rfl)) (by decide +kernel)))
    (ms_lf (ms_iinc hx hb (by decide) (by decide : 1 < 2) (by decide +kernel))))
    (ms_b (ms_lf (ms_goto hx hb (by decide) (by decide +kernel)))
    (ms_lf (ms_ret hx hb hr hlk (by decide +kernel)))))))))
set_option maxRecDepth 100000 in
set_option maxHeartbeats 8000000 in
/-- TippedCrates$Tape.cutToken -/
theorem sd_88 (l : Launch) (f : Nat → Nat) (D : va_G) (cA : FieldType → ClassId) (d : Nat) : mm_Ok2 l f D cA d (yX8_cutToken, cX8_cutToken, 3, none, mc_88) := by
  intro p e R s m args below meth c C hRf hRl pc
  obtain ⟨hx, hb, hml, hr, hlk, hnm, hown, hts, hEX, hgo, hf⟩ := C
  obtain ⟨hK, hA, hX, hZs, hZc, hZq, hTx, hSR0, hSR1, hAO, hN⟩ := id hEX
  have hAW : ∀ w ∈ mm_AW, w ∈ (Cond.code yX8_cutToken cX8_cutToken 3 none :: mm_AW) := fun w h => List.mem_cons_of_mem _ h
  have hown : s.vm.findClass "TippedCrates$Tape" = some m.cls := hown
  show mm_S p l e R s m args below meth c f D mm_cl cA 3 _ pc (mc_88 pc)
  unfold mc_88
  exact (ms_b (ms_b (ms_b (ms_b (ms_b (ms_lf (ms_aload_n hx hb rfl (by decide +kernel)))
    (ms_lf (ms_getf (C := RX8) (T := TX8) (N := 7) hx hb hf hts (fun w h => hAW w (inq_8 w h)) hown hK rfl (by decide) (hts _ (hAW _ qw_215)) rfl (by decide +kernel))))
    (ms_b (ms_lf (ms_aload_n hx hb rfl (by decide +kernel)))
    (ms_b (ms_lf (ms_getf (C := RX8) (T := TX8) (N := 7) hx hb hf hts (fun w h => hAW w (inq_8 w h)) hown hK rfl (by decide) (hts _ (hAW _ qw_217)) rfl (by decide +kernel)))
    (ms_lf (ms_bald hx hb hf hA (by decide +kernel))))))
    (ms_b (ms_b (ms_lf (ms_sipush hx hb (by decide) (by decide +kernel)))
    (ms_lf (ms_iand hx hb (by decide +kernel))))
    (ms_b (ms_lf (ms_istore_n hx hb rfl (by decide : 2 < 3) (by decide +kernel)))
    (ms_b (ms_lf (ms_iload_n hx hb rfl (by decide +kernel)))
    (ms_lf (ms_ivS hx hb hml hown hts hgo hEX (mm_GS hAW (mm_GI hAW gi_94) qw_651 qw_652 qw_118) rfl hd_94 (mm_rm hRf hRl (Nat.le_of_ble_eq_true rfl)) (by decide +kernel)))))))
    (ms_b (ms_b (ms_b (ms_lf (ms_if_eq hx hb (by decide) (by decide +kernel)))
    (ms_lf (ms_aload_n hx hb rfl (by decide +kernel))))
    (ms_b (ms_lf (ms_iload_n hx hb rfl (by decide +kernel)))
    (ms_b (ms_lf (ms_ivV (C := RX8) (T := TX8) (N := 7) hx hb hml hown hts hgo hEX hf hK rfl (mm_GV hAW (mm_GI hAW gi_89) qw_654 qw_656 qw_3 qw_118) rfl ⟨rfl, hd_89⟩ (mm_rm hRf hRl (Nat.le_of_ble_eq_true rfl)) (by decide +kernel)))
    (ms_lf (ms_goto hx hb (by decide) (by decide +kernel))))))
    (ms_b (ms_b (ms_lf (ms_iload_n hx hb rfl (by decide +kernel)))
    (ms_lf (ms_ivS hx hb hml hown hts hgo hEX (mm_GS hAW (mm_GI hAW gi_95) qw_662 qw_663 qw_118) rfl hd_95 (mm_rm hRf hRl (Nat.le_of_ble_eq_true rfl)) (by decide +kernel))))
    (ms_b (ms_lf (ms_if_eq hx hb (by decide) (by decide +kernel)))
    (ms_b (ms_lf (ms_aload_n hx hb rfl (by decide +kernel)))
    (ms_lf (ms_iload_n hx hb rfl (by decide +kernel))))))))
    (ms_b (ms_b (ms_b (ms_b (ms_lf (ms_ivV (C := RX8) (T := TX8) (N := 7) hx hb hml hown hts hgo hEX hf hK rfl (mm_GV hAW (mm_GI hAW gi_91) qw_665 qw_667 qw_5 qw_118) rfl ⟨rfl, hd_91⟩ (mm_rm hRf hRl (Nat.le_of_ble_eq_true rfl)) (by decide +kernel)))
    (ms_lf (ms_goto hx hb (by decide) (by decide +kernel))))
    (ms_b (ms_lf (ms_aload_n hx hb rfl (by decide +kernel)))
    (ms_b (ms_lf (ms_getf (C := RX8) (T := TX8) (N := 7) hx hb hf hts (fun w h => hAW w (inq_8 w h)) hown hK rfl (by decide) (hts _ (hAW _ qw_209)) rfl (by decide +kernel)))
    (ms_lf (ms_iload_n hx hb rfl (by decide +kernel))))))
    (ms_b (ms_b (ms_lf (ms_ldS hx hb hown hSR1 (by decide +kernel)))
    (ms_lf (ms_iload_n hx hb rfl (by decide +kernel))))
    (ms_b (ms_lf (ms_i2c hx hb (by decide +kernel)))
    (ms_b (ms_lf (ms_ivX (SB := mm_sb) hx hb hml hown hts hgo hEX hTx (mm_GV hAW (mm_GI hAW gi_292) qw_672 qw_673 qw_674 qw_119) rfl ⟨rfl, hd_292⟩ (mm_rm hRf hRl (Nat.le_of_ble_eq_true rfl)) (by decide +kernel)))
    (ms_lf (ms_if_lt hx hb (by decide) (by decide +kernel)))))))
    (ms_b (ms_b (ms_b (ms_lf (ms_iload_n hx hb rfl (by decide +kernel)))
    (ms_lf (ms_goto hx hb (by decide) (by decide +kernel))))
    (ms_b (ms_lf (ms_bipush hx hb (by decide) (by decide +kernel)))
    (ms_b (ms_lf (ms_iast hx hb hf hA (by decide +kernel)))
    (ms_lf (ms_aload_n hx hb rfl (by decide +kernel))))))
    (ms_b (ms_b (ms_lf (ms_dup hx hb (by decide +kernel)))
    (ms_b (ms_lf (ms_getf (C := RX8) (T := TX8) (N := 7) hx hb hf hts (fun w h => hAW w (inq_8 w h)) hown hK rfl (by decide) (hts _ (hAW _ qw_217)) rfl (by decide +kernel)))
    (ms_lf (ms_iconst hx hb (by decide) (by decide +kernel)))))
    (ms_b (ms_lf (ms_iadd hx hb (by decide +kernel)))
    (ms_b (ms_lf (ms_put (C := RX8) (T := TX8) (N := 7) hx hb hf hts (fun w h => hAW w (inq_8 w h)) tyX8 tyX8_ok nmX8 hown hK rfl (by decide) (hts _ (hAW _ qw_217)) rfl rfl rfl (by decide +kernel)))
    (ms_lf (ms_ret hx hb hr hlk (by decide +kernel)))))))))
set_option maxRecDepth 100000 in
set_option maxHeartbeats 8000000 in
/-- TippedCrates$Tape.cutLetters -/
theorem sd_89 (l : Launch) (f : Nat → Nat) (D : va_G) (cA : FieldType → ClassId) (d : Nat) : mm_Ok2 l f D cA d (yX8_cutLetters, cX8_cutLetters, 5, none, mc_89) := by
  intro p e R s m args below meth c C hRf hRl pc
  obtain ⟨hx, hb, hml, hr, hlk, hnm, hown, hts, hEX, hgo, hf⟩ := C
  obtain ⟨hK, hA, hX, hZs, hZc, hZq, hTx, hSR0, hSR1, hAO, hN⟩ := id hEX
  have hAW : ∀ w ∈ mm_AW, w ∈ (Cond.code yX8_cutLetters cX8_cutLetters 5 none :: mm_AW) := fun w h => List.mem_cons_of_mem _ h
  have hown : s.vm.findClass "TippedCrates$Tape" = some m.cls := hown
  show mm_S p l e R s m args below meth c f D mm_cl cA 5 _ pc (mc_89 pc)
  unfold mc_89
  exact (ms_b (ms_b (ms_b (ms_b (ms_b (ms_lf (ms_iconst hx hb (by decide) (by decide +kernel)))
    (ms_b (ms_lf (ms_istore_n hx hb rfl (by decide : 2 < 5) (by decide +kernel)))
    (ms_lf (ms_lconst hx hb (by decide) (by decide +kernel)))))
    (ms_b (ms_lf (ms_lstore_n hx hb rfl (by decide : 3 + 1 < 5) (by decide +kernel)))
    (ms_b (ms_lf (ms_aload_n hx hb rfl (by decide +kernel)))
    (ms_lf (ms_getf (C := RX8) (T := TX8) (N := 7) hx hb hf hts (fun w h => hAW w (inq_8 w h)) hown hK rfl (by decide) (hts _ (hAW _ qw_217)) rfl (by decide +kernel))))))
    (ms_b (ms_b (ms_lf (ms_aload_n hx hb rfl (by decide +kernel)))
    (ms_b (ms_lf (ms_getf (C := RX8) (T := TX8) (N := 7) hx hb hf hts (fun w h => hAW w (inq_8 w h)) hown hK rfl (by decide) (hts _ (hAW _ qw_207)) rfl (by decide +kernel)))
    (ms_lf (ms_ic_ge hx hb (by decide) (by decide +kernel)))))
    (ms_b (ms_b (ms_lf (ms_aload_n hx hb rfl (by decide +kernel)))
    (ms_lf (ms_getf (C := RX8) (T := TX8) (N := 7) hx hb hf hts (fun w h => hAW w (inq_8 w h)) hown hK rfl (by decide) (hts _ (hAW _ qw_215)) rfl (by decide +kernel))))
    (ms_b (ms_lf (ms_aload_n hx hb rfl (by decide +kernel)))
    (ms_lf (ms_getf (C := RX8) (T := TX8) (N := 7) hx hb hf hts (fun w h => hAW w (inq_8 w h)) hown hK rfl (by decide) (hts _ (hAW _ qw_217)) rfl (by decide +kernel)))))))
    (ms_b (ms_b (ms_b (ms_lf (ms_bald hx hb hf hA (by decide +kernel)))
    (ms_b (ms_lf (ms_ivS hx hb hml hown hts hgo hEX (mm_GS hAW (mm_GI hAW gi_94) qw_651 qw_652 qw_118) rfl hd_94 (mm_rm hRf hRl (Nat.le_of_ble_eq_true rfl)) (by decide +kernel)))
    (ms_lf (ms_if_eq hx hb (by decide) (by decide +kernel)))))
    (ms_b (ms_b (ms_lf (ms_iload_n hx hb rfl (by decide +kernel)))
    (ms_lf (ms_bipush hx hb (by decide) (by decide +kernel))))
    (ms_b (ms_lf (ms_ic_ge hx hb (by decide) (by decide +kernel)))
    (ms_lf (ms_lload_n hx hb rfl (by decide +kernel))))))
    (ms_b (ms_b (ms_lf (ms_aload_n hx hb rfl (by decide +kernel)))
    (ms_b (ms_lf (ms_getf (C := RX8) (T := TX8) (N := 7) hx hb hf hts (fun w h => hAW w (inq_8 w h)) hown hK rfl (by decide) (hts _ (hAW _ qw_215)) rfl (by decide +kernel)))
    (ms_lf (ms_aload_n hx hb rfl (by decide +kernel)))))
    (ms_b (ms_b (ms_lf (ms_getf (C := RX8) (T := TX8) (N := 7) hx hb hf hts (fun w h => hAW w (inq_8 w h)) hown hK rfl (by decide) (hts _ (hAW _ qw_217)) rfl (by decide +kernel)))
    (ms_lf (ms_bald hx hb hf hA (by decide +kernel))))
    (ms_b (ms_lf (ms_ivS hx hb hml hown hts hgo hEX (mm_GS hAW (mm_GI hAW gi_92) qw_201 qw_202 qw_118) rfl hd_92 (mm_rm hRf hRl (Nat.le_of_ble_eq_true rfl)) (by decide +kernel)))
    (ms_lf (ms_goto hx hb (by decide) (by decide +kernel))))))))
    (ms_b (ms_b (ms_b (ms_b (ms_lf (ms_lload_n hx hb rfl (by decide +kernel)))
    (ms_b (ms_lf (ms_lstore_n hx hb rfl (by decide : 3 + 1 < 5) (by decide +kernel)))
    (ms_lf (ms_iinc hx hb (by decide) (by decide : 2 < 5) (by decide +kernel)))))
    (ms_b (ms_b (ms_lf (ms_aload_n hx hb rfl (by decide +kernel)))
    (ms_lf (ms_dup hx hb (by decide +kernel))))
    (ms_b (ms_lf (ms_getf (C := RX8) (T := TX8) (N := 7) hx hb hf hts (fun w h => hAW w (inq_8 w h)) hown hK rfl (by decide) (hts _ (hAW _ qw_217)) rfl (by decide +kernel)))
    (ms_lf (ms_iconst hx hb (by decide) (by decide +kernel))))))
    (ms_b (ms_b (ms_lf (ms_iadd hx hb (by decide +kernel)))
    (ms_b (ms_lf (ms_put (C := RX8) (T := TX8) (N := 7) hx hb hf hts (fun w h => hAW w (inq_8 w h)) tyX8 tyX8_ok nmX8 hown hK rfl (by decide) (hts _ (hAW _ qw_217)) rfl rfl rfl (by decide +kernel)))
    (ms_lf (ms_goto hx hb (by decide) (by decide +kernel)))))
    (ms_b (ms_b (ms_lf (ms_aload_n hx hb rfl (by decide +kernel)))
    (ms_lf (ms_getf (C := RX8) (T := TX8) (N := 7) hx hb hf hts (fun w h => hAW w (inq_8 w h)) hown hK rfl (by decide) (hts _ (hAW _ qw_213)) rfl (by decide +kernel))))
    (ms_b (ms_lf (ms_iload_n hx hb rfl (by decide +kernel)))
    (ms_lf (ms_lload_n hx hb rfl (by decide +kernel)))))))
    (ms_b (ms_b (ms_b (ms_lf (ms_last hx hb hf hA (by decide +kernel)))
    (ms_b (ms_lf (ms_aload_n hx hb rfl (by decide +kernel)))
    (ms_lf (ms_getf (C := RX8) (T := TX8) (N := 7) hx hb hf hts (fun w h => hAW w (inq_8 w h)) hown hK rfl (by decide) (hts _ (hAW _ qw_209)) rfl (by decide +kernel)))))
    (ms_b (ms_b (ms_lf (ms_iload_n hx hb rfl (by decide +kernel)))
    (ms_lf (ms_iload_n hx hb rfl (by decide +kernel))))
    (ms_b (ms_lf (ms_bipush hx hb (by decide) (by decide +kernel)))
    (ms_lf (ms_ic_le hx hb (by decide) (by decide +kernel))))))
    (ms_b (ms_b (ms_lf (ms_bipush hx hb (by decide) (by decide +kernel)))
    (ms_b (ms_lf (ms_goto hx hb (by decide) (by decide +kernel)))
    (ms_lf (ms_aload_n hx hb rfl (by decide +kernel)))))
    (ms_b (ms_b (ms_lf (ms_lload_n hx hb rfl (by decide +kernel)))
    (ms_lf (ms_ivV (C := RX8) (T := TX8) (N := 7) hx hb hml hown hts hgo hEX hf hK rfl (mm_GV hAW (mm_GI hAW gi_90) qw_658 qw_660 qw_4 qw_118) rfl ⟨rfl, hd_90⟩ (mm_rm hRf hRl (Nat.le_of_ble_eq_true rfl)) (by decide +kernel))))
    (ms_b (ms_lf (ms_iast hx hb hf hA (by decide +kernel)))
    (ms_lf (ms_ret hx hb hr hlk (by decide +kernel)))))))))
set_option maxRecDepth 100000 in
set_option maxHeartbeats 8000000 in
/-- TippedCrates$Tape.kindOf -/
theorem sd_90 (l : Launch) (f : Nat → Nat) (D : va_G) (cA : FieldType → ClassId) (d : Nat) : mm_Ok2 l f D cA d (yX8_kindOf, cX8_kindOf, 4, (some .int), mc_90) := by
  intro p e R s m args below meth c C hRf hRl pc
  obtain ⟨hx, hb, hml, hr, hlk, hnm, hown, hts, hEX, hgo, hf⟩ := C
  obtain ⟨hK, hA, hX, hZs, hZc, hZq, hTx, hSR0, hSR1, hAO, hN⟩ := id hEX
  have hAW : ∀ w ∈ mm_AW, w ∈ (Cond.code yX8_kindOf cX8_kindOf 4 (some .int) :: mm_AW) := fun w h => List.mem_cons_of_mem _ h
  have hown : s.vm.findClass "TippedCrates$Tape" = some m.cls := hown
  show mm_S p l e R s m args below meth c f D mm_cl cA 4 _ pc (mc_90 pc)
  unfold mc_90
  exact (ms_b (ms_b (ms_b (ms_b (ms_lf (ms_iconst hx hb (by decide) (by decide +kernel)))
    (ms_lf (ms_istore_n hx hb rfl (by decide : 3 < 4) (by decide +kernel))))
    (ms_b (ms_lf (ms_iload_n hx hb rfl (by decide +kernel)))
    (ms_lf (ms_bipush hx hb (by decide) (by decide +kernel)))))
    (ms_b (ms_b (ms_lf (ms_ic_ge hx hb (by decide) (by decide +kernel)))
    (ms_lf (ms_aload_n hx hb rfl (by decide +kernel))))
    (ms_b (ms_lf (ms_getf (C := RX8) (T := TX8) (N := 7) hx hb hf hts (fun w h => hAW w (inq_8 w h)) hown hK rfl (by decide) (hts _ (hAW _ qw_216)) rfl (by decide +kernel)))
    (ms_b (ms_lf (ms_iload_n hx hb rfl (by decide +kernel)))
    (ms_lf (ms_lald hx hb hf hA (by decide +kernel)))))))
    (ms_b (ms_b (ms_b (ms_lf (ms_lload_n hx hb rfl (by decide +kernel)))
    (ms_lf (ms_lcmp hx hb (by decide +kernel))))
    (ms_b (ms_lf (ms_if_ne hx hb (by decide) (by decide +kernel)))
    (ms_lf (ms_iload_n hx hb rfl (by decide +kernel)))))
    (ms_b (ms_b (ms_lf (ms_iret hx hb hr hlk (by decide +kernel)))
    (ms_lf (ms_iinc hx hb (by decide) (by decide : 3 < 4) (by decide +kernel))))
    (ms_b (ms_lf (ms_goto hx hb (by decide) (by decide +kernel)))
    (ms_b (ms_lf (ms_bipush hx hb (by decide) (by decide +kernel)))
    (ms_lf (ms_iret hx hb hr hlk (by decide +kernel))))))))
set_option maxRecDepth 100000 in
set_option maxHeartbeats 8000000 in
/-- TippedCrates$Tape.cutDigits -/
theorem sd_91 (l : Launch) (f : Nat → Nat) (D : va_G) (cA : FieldType → ClassId) (d : Nat) : mm_Ok2 l f D cA d (yX8_cutDigits, cX8_cutDigits, 5, none, mc_91) := by
  intro p e R s m args below meth c C hRf hRl pc
  obtain ⟨hx, hb, hml, hr, hlk, hnm, hown, hts, hEX, hgo, hf⟩ := C
  obtain ⟨hK, hA, hX, hZs, hZc, hZq, hTx, hSR0, hSR1, hAO, hN⟩ := id hEX
  have hAW : ∀ w ∈ mm_AW, w ∈ (Cond.code yX8_cutDigits cX8_cutDigits 5 none :: mm_AW) := fun w h => List.mem_cons_of_mem _ h
  have hown : s.vm.findClass "TippedCrates$Tape" = some m.cls := hown
  show mm_S p l e R s m args below meth c f D mm_cl cA 5 _ pc (mc_91 pc)
  unfold mc_91
  exact (ms_b (ms_b (ms_b (ms_b (ms_b (ms_lf (ms_iconst hx hb (by decide) (by decide +kernel)))
    (ms_b (ms_lf (ms_istore_n hx hb rfl (by decide : 2 < 5) (by decide +kernel)))
    (ms_lf (ms_lconst hx hb (by decide) (by decide +kernel)))))
    (ms_b (ms_b (ms_lf (ms_lstore_n hx hb rfl (by decide : 3 + 1 < 5) (by decide +kernel)))
    (ms_lf (ms_aload_n hx hb rfl (by decide +kernel))))
    (ms_b (ms_lf (ms_getf (C := RX8) (T := TX8) (N := 7) hx hb hf hts (fun w h => hAW w (inq_8 w h)) hown hK rfl (by decide) (hts _ (hAW _ qw_217)) rfl (by decide +kernel)))
    (ms_lf (ms_aload_n hx hb rfl (by decide +kernel))))))
    (ms_b (ms_b (ms_lf (ms_getf (C := RX8) (T := TX8) (N := 7) hx hb hf hts (fun w h => hAW w (inq_8 w h)) hown hK rfl (by decide) (hts _ (hAW _ qw_207)) rfl (by decide +kernel)))
    (ms_b (ms_lf (ms_ic_ge hx hb (by decide) (by decide +kernel)))
    (ms_lf (ms_aload_n hx hb rfl (by decide +kernel)))))
    (ms_b (ms_b (ms_lf (ms_getf (C := RX8) (T := TX8) (N := 7) hx hb hf hts (fun w h => hAW w (inq_8 w h)) hown hK rfl (by decide) (hts _ (hAW _ qw_215)) rfl (by decide +kernel)))
    (ms_lf (ms_aload_n hx hb rfl (by decide +kernel))))
    (ms_b (ms_lf (ms_getf (C := RX8) (T := TX8) (N := 7) hx hb hf hts (fun w h => hAW w (inq_8 w h)) hown hK rfl (by decide) (hts _ (hAW _ qw_217)) rfl (by decide +kernel)))
    (ms_lf (ms_bald hx hb hf hA (by decide +kernel)))))))
    (ms_b (ms_b (ms_b (ms_lf (ms_ivS hx hb hml hown hts hgo hEX (mm_GS hAW (mm_GI hAW gi_95) qw_662 qw_663 qw_118) rfl hd_95 (mm_rm hRf hRl (Nat.le_of_ble_eq_true rfl)) (by decide +kernel)))
    (ms_b (ms_lf (ms_if_eq hx hb (by decide) (by decide +kernel)))
    (ms_lf (ms_iload_n hx hb rfl (by decide +kernel)))))
    (ms_b (ms_b (ms_lf (ms_iconst hx hb (by decide) (by decide +kernel)))
    (ms_lf (ms_ic_ge hx hb (by decide) (by decide +kernel))))
    (ms_b (ms_lf (ms_lload_n hx hb rfl (by decide +kernel)))
    (ms_lf (ms_ldc2 hx hb hown (hts _ (hAW _ qw_669)) (by decide +kernel))))))
    (ms_b (ms_b (ms_b (ms_lf (ms_lmul hx hb (by decide +kernel)))
    (ms_lf (ms_aload_n hx hb rfl (by decide +kernel))))
    (ms_b (ms_lf (ms_getf (C := RX8) (T := TX8) (N := 7) hx hb hf hts (fun w h => hAW w (inq_8 w h)) hown hK rfl (by decide) (hts _ (hAW _ qw_215)) rfl (by decide +kernel)))
    (ms_lf (ms_aload_n hx hb rfl (by decide +kernel)))))
    (ms_b (ms_b (ms_lf (ms_getf (C := RX8) (T := TX8) (N := 7) hx hb hf hts (fun w h => hAW w (inq_8 w h)) hown hK rfl (by decide) (hts _ (hAW _ qw_217)) rfl (by decide +kernel)))
    (ms_lf (ms_bald hx hb hf hA (by decide +kernel))))
    (ms_b (ms_lf (ms_i2l hx hb (by decide +kernel)))
    (ms_lf (ms_ladd hx hb (by decide +kernel))))))))
    (ms_b (ms_b (ms_b (ms_b (ms_lf (ms_ldc2 hx hb hown (hts _ (hAW _ qw_670)) (by decide +kernel)))
    (ms_b (ms_lf (ms_lsub hx hb (by decide +kernel)))
    (ms_lf (ms_goto hx hb (by decide) (by decide +kernel)))))
    (ms_b (ms_b (ms_lf (ms_lload_n hx hb rfl (by decide +kernel)))
    (ms_lf (ms_lstore_n hx hb rfl (by decide : 3 + 1 < 5) (by decide +kernel))))
    (ms_b (ms_lf (ms_iinc hx hb (by decide) (by decide : 2 < 5) (by decide +kernel)))
    (ms_lf (ms_aload_n hx hb rfl (by decide +kernel))))))
    (ms_b (ms_b (ms_lf (ms_dup hx hb (by decide +kernel)))
    (ms_b (ms_lf (ms_getf (C := RX8) (T := TX8) (N := 7) hx hb hf hts (fun w h => hAW w (inq_8 w h)) hown hK rfl (by decide) (hts _ (hAW _ qw_217)) rfl (by decide +kernel)))
    (ms_lf (ms_iconst hx hb (by decide) (by decide +kernel)))))
    (ms_b (ms_b (ms_lf (ms_iadd hx hb (by decide +kernel)))
    (ms_lf (ms_put (C := RX8) (T := TX8) (N := 7) hx hb hf hts (fun w h => hAW w (inq_8 w h)) tyX8 tyX8_ok nmX8 hown hK rfl (by decide) (hts _ (hAW _ qw_217)) rfl rfl rfl (by decide +kernel))))
    (ms_b (ms_lf (ms_goto hx hb (by decide) (by decide +kernel)))
    (ms_lf (ms_aload_n hx hb rfl (by decide +kernel)))))))
    (ms_b (ms_b (ms_b (ms_lf (ms_getf (C := RX8) (T := TX8) (N := 7) hx hb hf hts (fun w h => hAW w (inq_8 w h)) hown hK rfl (by decide) (hts _ (hAW _ qw_213)) rfl (by decide +kernel)))
    (ms_b (ms_lf (ms_iload_n hx hb rfl (by decide +kernel)))
    (ms_lf (ms_lload_n hx hb rfl (by decide +kernel)))))
    (ms_b (ms_b (ms_lf (ms_last hx hb hf hA (by decide +kernel)))
    (ms_lf (ms_aload_n hx hb rfl (by decide +kernel))))
    (ms_b (ms_lf (ms_getf (C := RX8) (T := TX8) (N := 7) hx hb hf hts (fun w h => hAW w (inq_8 w h)) hown hK rfl (by decide) (hts _ (hAW _ qw_209)) rfl (by decide +kernel)))
    (ms_lf (ms_iload_n hx hb rfl (by decide +kernel))))))
    (ms_b (ms_b (ms_b (ms_lf (ms_iload_n hx hb rfl (by decide +kernel)))
    (ms_lf (ms_iconst hx hb (by decide) (by decide +kernel))))
    (ms_b (ms_lf (ms_ic_le hx hb (by decide) (by decide +kernel)))
    (ms_lf (ms_bipush hx hb (by decide) (by decide +kernel)))))
    (ms_b (ms_b (ms_lf (ms_goto hx hb (by decide) (by decide +kernel)))
    (ms_lf (ms_bipush hx hb (by decide) (by decide +kernel))))
    (ms_b (ms_lf (ms_iast hx hb hf hA (by decide +kernel)))
    (ms_lf (ms_ret hx hb hr hlk (by decide +kernel)))))))))
set_option maxRecDepth 100000 in
set_option maxHeartbeats 8000000 in
/-- TippedCrates$Tape.withLetter -/
theorem sd_92 (l : Launch) (f : Nat → Nat) (D : va_G) (cA : FieldType → ClassId) (d : Nat) : mm_Ok2 l f D cA d (yX8_withLetter, cX8_withLetter, 3, (some .long), mc_92) := by
  intro p e R s m args below meth c C hRf hRl pc
  obtain ⟨hx, hb, hml, hr, hlk, hnm, hown, hts, hEX, hgo, hf⟩ := C
  obtain ⟨hK, hA, hX, hZs, hZc, hZq, hTx, hSR0, hSR1, hAO, hN⟩ := id hEX
  have hAW : ∀ w ∈ mm_AW, w ∈ (Cond.code yX8_withLetter cX8_withLetter 3 (some .long) :: mm_AW) := fun w h => List.mem_cons_of_mem _ h
  have hown : s.vm.findClass "TippedCrates$Tape" = some m.cls := hown
  show mm_S p l e R s m args below meth c f D mm_cl cA 3 _ pc (mc_92 pc)
  unfold mc_92
  exact (ms_b (ms_b (ms_b (ms_lf (ms_lload_n hx hb rfl (by decide +kernel)))
    (ms_lf (ms_ldc2 hx hb hown (hts _ (hAW _ qw_204)) (by decide +kernel))))
    (ms_b (ms_lf (ms_lmul hx hb (by decide +kernel)))
    (ms_b (ms_lf (ms_iload_n hx hb rfl (by decide +kernel)))
    (ms_lf (ms_i2l hx hb (by decide +kernel))))))
    (ms_b (ms_b (ms_lf (ms_ladd hx hb (by decide +kernel)))
    (ms_b (ms_lf (ms_ldc2 hx hb hown (hts _ (hAW _ qw_205)) (by decide +kernel)))
    (ms_lf (ms_lsub hx hb (by decide +kernel)))))
    (ms_b (ms_lf (ms_lconst hx hb (by decide) (by decide +kernel)))
    (ms_b (ms_lf (ms_ladd hx hb (by decide +kernel)))
    (ms_lf (ms_lret hx hb hr hlk (by decide +kernel)))))))
set_option maxRecDepth 100000 in
set_option maxHeartbeats 8000000 in
/-- TippedCrates$Tape.isBlank -/
theorem sd_93 (l : Launch) (f : Nat → Nat) (D : va_G) (cA : FieldType → ClassId) (d : Nat) : mm_Ok2 l f D cA d (yX8_isBlank, cX8_isBlank, 1, (some .boolean), mc_93) := by
  intro p e R s m args below meth c C hRf hRl pc
  obtain ⟨hx, hb, hml, hr, hlk, hnm, hown, hts, hEX, hgo, hf⟩ := C
  obtain ⟨hK, hA, hX, hZs, hZc, hZq, hTx, hSR0, hSR1, hAO, hN⟩ := id hEX
  have hAW : ∀ w ∈ mm_AW, w ∈ (Cond.code yX8_isBlank cX8_isBlank 1 (some .boolean) :: mm_AW) := fun w h => List.mem_cons_of_mem _ h
  have hown : s.vm.findClass "TippedCrates$Tape" = some m.cls := hown
  show mm_S p l e R s m args below meth c f D mm_cl cA 1 _ pc (mc_93 pc)
  unfold mc_93
  exact (ms_b (ms_b (ms_b (ms_b (ms_lf (ms_iload_n hx hb rfl (by decide +kernel)))
    (ms_lf (ms_bipush hx hb (by decide) (by decide +kernel))))
    (ms_b (ms_lf (ms_ic_eq hx hb (by decide) (by decide +kernel)))
    (ms_lf (ms_iload_n hx hb rfl (by decide +kernel)))))
    (ms_b (ms_b (ms_lf (ms_bipush hx hb (by decide) (by decide +kernel)))
    (ms_lf (ms_ic_eq hx hb (by decide) (by decide +kernel))))
    (ms_b (ms_lf (ms_iload_n hx hb rfl (by decide +kernel)))
    (ms_lf (ms_bipush hx hb (by decide) (by decide +kernel))))))
    (ms_b (ms_b (ms_b (ms_lf (ms_ic_eq hx hb (by decide) (by decide +kernel)))
    (ms_lf (ms_iload_n hx hb rfl (by decide +kernel))))
    (ms_b (ms_lf (ms_bipush hx hb (by decide) (by decide +kernel)))
    (ms_lf (ms_ic_ne hx hb (by decide) (by decide +kernel)))))
    (ms_b (ms_b (ms_lf (ms_iconst hx hb (by decide) (by decide +kernel)))
    (ms_lf (ms_goto hx hb (by decide) (by decide +kernel))))
    (ms_b (ms_lf (ms_iconst hx hb (by decide) (by decide +kernel)))
    (ms_lf (ms_iret hx hb hr hlk (by decide +kernel)))))))
set_option maxRecDepth 100000 in
set_option maxHeartbeats 8000000 in
/-- TippedCrates$Tape.isLetter -/
theorem sd_94 (l : Launch) (f : Nat → Nat) (D : va_G) (cA : FieldType → ClassId) (d : Nat) : mm_Ok2 l f D cA d (yX8_isLetter, cX8_isLetter, 1, (some .boolean), mc_94) := by
  intro p e R s m args below meth c C hRf hRl pc
  obtain ⟨hx, hb, hml, hr, hlk, hnm, hown, hts, hEX, hgo, hf⟩ := C
  obtain ⟨hK, hA, hX, hZs, hZc, hZq, hTx, hSR0, hSR1, hAO, hN⟩ := id hEX
  have hAW : ∀ w ∈ mm_AW, w ∈ (Cond.code yX8_isLetter cX8_isLetter 1 (some .boolean) :: mm_AW) := fun w h => List.mem_cons_of_mem _ h
  have hown : s.vm.findClass "TippedCrates$Tape" = some m.cls := hown
  show mm_S p l e R s m args below meth c f D mm_cl cA 1 _ pc (mc_94 pc)
  unfold mc_94
  exact (ms_b (ms_b (ms_b (ms_lf (ms_iload_n hx hb rfl (by decide +kernel)))
    (ms_lf (ms_bipush hx hb (by decide) (by decide +kernel))))
    (ms_b (ms_lf (ms_ic_lt hx hb (by decide) (by decide +kernel)))
    (ms_b (ms_lf (ms_iload_n hx hb rfl (by decide +kernel)))
    (ms_lf (ms_bipush hx hb (by decide) (by decide +kernel))))))
    (ms_b (ms_b (ms_lf (ms_ic_gt hx hb (by decide) (by decide +kernel)))
    (ms_lf (ms_iconst hx hb (by decide) (by decide +kernel))))
    (ms_b (ms_lf (ms_goto hx hb (by decide) (by decide +kernel)))
    (ms_b (ms_lf (ms_iconst hx hb (by decide) (by decide +kernel)))
    (ms_lf (ms_iret hx hb hr hlk (by decide +kernel)))))))
set_option maxRecDepth 100000 in
set_option maxHeartbeats 8000000 in
/-- TippedCrates$Tape.isDigit -/
theorem sd_95 (l : Launch) (f : Nat → Nat) (D : va_G) (cA : FieldType → ClassId) (d : Nat) : mm_Ok2 l f D cA d (yX8_isDigit, cX8_isDigit, 1, (some .boolean), mc_95) := by
  intro p e R s m args below meth c C hRf hRl pc
  obtain ⟨hx, hb, hml, hr, hlk, hnm, hown, hts, hEX, hgo, hf⟩ := C
  obtain ⟨hK, hA, hX, hZs, hZc, hZq, hTx, hSR0, hSR1, hAO, hN⟩ := id hEX
  have hAW : ∀ w ∈ mm_AW, w ∈ (Cond.code yX8_isDigit cX8_isDigit 1 (some .boolean) :: mm_AW) := fun w h => List.mem_cons_of_mem _ h
  have hown : s.vm.findClass "TippedCrates$Tape" = some m.cls := hown
  show mm_S p l e R s m args below meth c f D mm_cl cA 1 _ pc (mc_95 pc)
  unfold mc_95
  exact (ms_b (ms_b (ms_b (ms_lf (ms_iload_n hx hb rfl (by decide +kernel)))
    (ms_lf (ms_bipush hx hb (by decide) (by decide +kernel))))
    (ms_b (ms_lf (ms_ic_lt hx hb (by decide) (by decide +kernel)))
    (ms_b (ms_lf (ms_iload_n hx hb rfl (by decide +kernel)))
    (ms_lf (ms_bipush hx hb (by decide) (by decide +kernel))))))
    (ms_b (ms_b (ms_lf (ms_ic_gt hx hb (by decide) (by decide +kernel)))
    (ms_lf (ms_iconst hx hb (by decide) (by decide +kernel))))
    (ms_b (ms_lf (ms_goto hx hb (by decide) (by decide +kernel)))
    (ms_b (ms_lf (ms_iconst hx hb (by decide) (by decide +kernel)))
    (ms_lf (ms_iret hx hb hr hlk (by decide +kernel)))))))
set_option maxRecDepth 100000 in
set_option maxHeartbeats 8000000 in
/-- TippedCrates$Turns.<init> -/
theorem sd_96 (l : Launch) (f : Nat → Nat) (D : va_G) (cA : FieldType → ClassId) (d : Nat) : mm_Ok2 l f D cA d (yX9_init, cX9_init, 5, none, mc_96) := by
  intro p e R s m args below meth c C hRf hRl pc
  obtain ⟨hx, hb, hml, hr, hlk, hnm, hown, hts, hEX, hgo, hf⟩ := C
  obtain ⟨hK, hA, hX, hZs, hZc, hZq, hTx, hSR0, hSR1, hAO, hN⟩ := id hEX
  have hAW : ∀ w ∈ mm_AW, w ∈ (Cond.code yX9_init cX9_init 5 none :: mm_AW) := fun w h => List.mem_cons_of_mem _ h
  have hown : s.vm.findClass "TippedCrates$Turns" = some m.cls := hown
  show mm_S p l e R s m args below meth c f D mm_cl cA 5 _ pc (mc_96 pc)
  unfold mc_96
  exact (ms_b (ms_b (ms_b (ms_b (ms_b (ms_b (ms_lf (ms_aload_n hx hb rfl (by decide +kernel)))
    (ms_lf (ms_oi hx hb hml hown (hts _ (hAW _ qw_405)) (hts _ (hAW _ qw_144)) (hts _ (hAW _ qw_145)) (by omega) (by omega) (by decide +kernel))))
    (ms_b (ms_lf (ms_aload_n hx hb rfl (by decide +kernel)))
    (ms_b (ms_lf (ms_sipush hx hb (by decide) (by decide +kernel)))
    (ms_lf (ms_na hx hb hf hA rfl (hts _ (hAW _ qw_233)) rfl rfl rfl (by decide) (by decide +kernel))))))
    (ms_b (ms_b (ms_lf (ms_putF (C := RX9) (T := TX9) (N := 4) hx hb hf hts (fun w h => hAW w (inq_9 w h)) tyX9 tyX9_ok nmX9 hown hK rfl (by decide) (hts _ (hAW _ qw_420)) rfl rfl hnm rfl rfl (by decide +kernel)))
    (ms_b (ms_lf (ms_aload_n hx hb rfl (by decide +kernel)))
    (ms_lf (ms_bipush hx hb (by decide) (by decide +kernel)))))
    (ms_b (ms_lf (ms_na hx hb hf hA rfl (hts _ (hAW _ qw_233)) rfl rfl rfl (by decide) (by decide +kernel)))
    (ms_b (ms_lf (ms_putF (C := RX9) (T := TX9) (N := 4) hx hb hf hts (fun w h => hAW w (inq_9 w h)) tyX9 tyX9_ok nmX9 hown hK rfl (by decide) (hts _ (hAW _ qw_422)) rfl rfl hnm rfl rfl (by decide +kernel)))
    (ms_lf (ms_aload_n hx hb rfl (by decide +kernel)))))))
    (ms_b (ms_b (ms_b (ms_lf (ms_bipush hx hb (by decide) (by decide +kernel)))
    (ms_b (ms_lf (ms_na hx hb hf hA rfl (hts _ (hAW _ qw_233)) rfl rfl rfl (by decide) (by decide +kernel)))
    (ms_lf (ms_putF (C := RX9) (T := TX9) (N := 4) hx hb hf hts (fun w h => hAW w (inq_9 w h)) tyX9 tyX9_ok nmX9 hown hK rfl (by decide) (hts _ (hAW _ qw_424)) rfl rfl hnm rfl rfl (by decide +kernel)))))
    (ms_b (ms_lf (ms_aload_n hx hb rfl (by decide +kernel)))
    (ms_b (ms_lf (ms_bipush hx hb (by decide) (by decide +kernel)))
    (ms_lf (ms_na hx hb hf hA rfl (hts _ (hAW _ qw_233)) rfl rfl rfl (by decide) (by decide +kernel))))))
    (ms_b (ms_b (ms_lf (ms_putF (C := RX9) (T := TX9) (N := 4) hx hb hf hts (fun w h => hAW w (inq_9 w h)) tyX9 tyX9_ok nmX9 hown hK rfl (by decide) (hts _ (hAW _ qw_425)) rfl rfl hnm rfl rfl (by decide +kernel)))
    (ms_b (ms_lf (ms_iconst hx hb (by decide) (by decide +kernel)))
    (ms_lf (ms_istore_n hx hb rfl (by decide : 1 < 5) (by decide +kernel)))))
    (ms_b (ms_lf (ms_iload_n hx hb rfl (by decide +kernel)))
    (ms_b (ms_lf (ms_bipush hx hb (by decide) (by decide +kernel)))
    (ms_lf (ms_ic_ge hx hb (by decide) (by decide +kernel))))))))
    (ms_b (ms_b (ms_b (ms_b (ms_lf (ms_aload_n hx hb rfl (by decide +kernel)))
    (ms_lf (ms_getf (C := RX9) (T := TX9) (N := 4) hx hb hf hts (fun w h => hAW w (inq_9 w h)) hown hK rfl (by decide) (hts _ (hAW _ qw_420)) rfl (by decide +kernel))))
    (ms_b (ms_lf (ms_iload_n hx hb rfl (by decide +kernel)))
    (ms_b (ms_lf (ms_iload_n hx hb rfl (by decide +kernel)))
    (ms_lf (ms_iast hx hb hf hA (by decide +kernel))))))
    (ms_b (ms_b (ms_lf (ms_iinc hx hb (by decide) (by decide : 1 < 5) (by decide +kernel)))
    (ms_b (ms_lf (ms_goto hx hb (by decide) (by decide +kernel)))
    (ms_lf (ms_iconst hx hb (by decide) (by decide +kernel)))))
    (ms_b (ms_lf (ms_istore_n hx hb rfl (by decide : 1 < 5) (by decide +kernel)))
    (ms_b (ms_lf (ms_iconst hx hb (by decide) (by decide +kernel)))
    (ms_lf (ms_istore_n hx hb rfl (by decide : 2 < 5) (by decide +kernel)))))))
    (ms_b (ms_b (ms_b (ms_lf (ms_iload_n hx hb rfl (by decide +kernel)))
    (ms_b (ms_lf (ms_bipush hx hb (by decide) (by decide +kernel)))
    (ms_lf (ms_ic_ge hx hb (by decide) (by decide +kernel)))))
    (ms_b (ms_lf (ms_iconst hx hb (by decide) (by decide +kernel)))
    (ms_b (ms_lf (ms_istore_n hx hb rfl (by decide : 3 < 5) (by decide +kernel)))
    (ms_lf (ms_iload_n hx hb rfl (by decide +kernel))))))
    (ms_b (ms_b (ms_lf (ms_iconst hx hb (by decide) (by decide +kernel)))
    (ms_b (ms_lf (ms_ic_ge hx hb (by decide) (by decide +kernel)))
    (ms_lf (ms_aload_n hx hb rfl (by decide +kernel)))))
    (ms_b (ms_lf (ms_getf (C := RX9) (T := TX9) (N := 4) hx hb hf hts (fun w h => hAW w (inq_9 w h)) hown hK rfl (by decide) (hts _ (hAW _ qw_420)) rfl (by decide +kernel)))
    (ms_b (ms_lf (ms_iload_n hx hb rfl (by decide +kernel)))
    (ms_lf (ms_bipush hx hb (by decide) (by decide +kernel)))))))))
    (ms_b (ms_b (ms_b (ms_b (ms_b (ms_lf (ms_imul hx hb (by decide +kernel)))
    (ms_lf (ms_aload_n hx hb rfl (by decide +kernel))))
    (ms_b (ms_lf (ms_getf (C := RX9) (T := TX9) (N := 4) hx hb hf hts (fun w h => hAW w (inq_9 w h)) hown hK rfl (by decide) (hts _ (hAW _ qw_424)) rfl (by decide +kernel)))
    (ms_b (ms_lf (ms_iconst hx hb (by decide) (by decide +kernel)))
    (ms_lf (ms_bipush hx hb (by decide) (by decide +kernel))))))
    (ms_b (ms_b (ms_lf (ms_ac hx hb hml hf hA hown (hts _ (hAW _ qw_406)) (hts _ (hAW _ qw_408)) (hts _ (hAW _ qw_407)) (hts _ (hAW _ qw_128)) (by omega) (by rw [hRl]; simp [nativeFrameWords]; omega) (by decide +kernel)))
    (ms_b (ms_lf (ms_aload_n hx hb rfl (by decide +kernel)))
    (ms_lf (ms_getf (C := RX9) (T := TX9) (N := 4) hx hb hf hts (fun w h => hAW w (inq_9 w h)) hown hK rfl (by decide) (hts _ (hAW _ qw_424)) rfl (by decide +kernel)))))
    (ms_b (ms_lf (ms_iconst hx hb (by decide) (by decide +kernel)))
    (ms_b (ms_lf (ms_iload_n hx hb rfl (by decide +kernel)))
    (ms_lf (ms_ivSN hx hb hml hown hts hgo hEX (mm_GI hAW gi_167) rfl (hN.2.2.2.2.2.2.2.2.2.2.2.2.2.1) (hts _ (hAW _ qw_410)) (hts _ (hAW _ qw_117)) hd_167 (mm_rm hRf hRl (Nat.le_of_ble_eq_true rfl)) (by decide +kernel)))))))
    (ms_b (ms_b (ms_b (ms_lf (ms_aload_n hx hb rfl (by decide +kernel)))
    (ms_b (ms_lf (ms_iload_n hx hb rfl (by decide +kernel)))
    (ms_lf (ms_ivV (C := RX9) (T := TX9) (N := 4) hx hb hml hown hts hgo hEX hf hK rfl (mm_GV hAW (mm_GI hAW gi_97) qw_416 qw_418 qw_0 qw_127) rfl ⟨rfl, hd_97⟩ (mm_rm hRf hRl (Nat.le_of_ble_eq_true rfl)) (by decide +kernel)))))
    (ms_b (ms_lf (ms_istore hx hb (by decide : 4 < 5) (by decide +kernel)))
    (ms_b (ms_lf (ms_iload hx hb (by decide +kernel)))
    (ms_lf (ms_iload_n hx hb rfl (by decide +kernel))))))
    (ms_b (ms_b (ms_lf (ms_ic_ne hx hb (by decide) (by decide +kernel)))
    (ms_b (ms_lf (ms_iload_n hx hb rfl (by decide +kernel)))
    (ms_lf (ms_bipush hx hb (by decide) (by decide +kernel)))))
    (ms_b (ms_lf (ms_ic_ge hx hb (by decide) (by decide +kernel)))
    (ms_b (ms_lf (ms_aload_n hx hb rfl (by decide +kernel)))
    (ms_lf (ms_getf (C := RX9) (T := TX9) (N := 4) hx hb hf hts (fun w h => hAW w (inq_9 w h)) hown hK rfl (by decide) (hts _ (hAW _ qw_424)) rfl (by decide +kernel))))))))
    (ms_b (ms_b (ms_b (ms_b (ms_lf (ms_iconst hx hb (by decide) (by decide +kernel)))
    (ms_lf (ms_aload_n hx hb rfl (by decide +kernel))))
    (ms_b (ms_lf (ms_getf (C := RX9) (T := TX9) (N := 4) hx hb hf hts (fun w h => hAW w (inq_9 w h)) hown hK rfl (by decide) (hts _ (hAW _ qw_420)) rfl (by decide +kernel)))
    (ms_b (ms_lf (ms_iload_n hx hb rfl (by decide +kernel)))
    (ms_lf (ms_bipush hx hb (by decide) (by decide +kernel))))))
    (ms_b (ms_b (ms_lf (ms_imul hx hb (by decide +kernel)))
    (ms_b (ms_lf (ms_bipush hx hb (by decide) (by decide +kernel)))
    (ms_lf (ms_ac hx hb hml hf hA hown (hts _ (hAW _ qw_406)) (hts _ (hAW _ qw_408)) (hts _ (hAW _ qw_407)) (hts _ (hAW _ qw_128)) (by omega) (by rw [hRl]; simp [nativeFrameWords]; omega) (by decide +kernel)))))
    (ms_b (ms_lf (ms_iinc hx hb (by decide) (by decide : 1 < 5) (by decide +kernel)))
    (ms_b (ms_lf (ms_aload_n hx hb rfl (by decide +kernel)))
    (ms_lf (ms_getf (C := RX9) (T := TX9) (N := 4) hx hb hf hts (fun w h => hAW w (inq_9 w h)) hown hK rfl (by decide) (hts _ (hAW _ qw_422)) rfl (by decide +kernel)))))))
    (ms_b (ms_b (ms_b (ms_lf (ms_iload_n hx hb rfl (by decide +kernel)))
    (ms_b (ms_lf (ms_iconst hx hb (by decide) (by decide +kernel)))
    (ms_lf (ms_imul hx hb (by decide +kernel)))))
    (ms_b (ms_lf (ms_iload_n hx hb rfl (by decide +kernel)))
    (ms_b (ms_lf (ms_iadd hx hb (by decide +kernel)))
    (ms_lf (ms_iload hx hb (by decide +kernel))))))
    (ms_b (ms_b (ms_lf (ms_iast hx hb hf hA (by decide +kernel)))
    (ms_b (ms_lf (ms_iinc hx hb (by decide) (by decide : 3 < 5) (by decide +kernel)))
    (ms_lf (ms_goto hx hb (by decide) (by decide +kernel)))))
    (ms_b (ms_lf (ms_iinc hx hb (by decide) (by decide : 2 < 5) (by decide +kernel)))
    (ms_b (ms_lf (ms_goto hx hb (by decide) (by decide +kernel)))
    (ms_lf (ms_ret hx hb hr hlk (by decide +kernel))))))))))
